-- linear where it comes to the balance
def stM (t f : Int32) (σ : St) : Int32 := if t = -1 then σ.1 24 5 else stL t f σ
def nxt (t f : Int32) (σ : St) : St := sF σ 24 5 (stM t f σ)
def jn3 (a1 a2 a3 : Int32) (σ : St) : St := f_Ro_join a3 (f_Ro_join a2 (f_Ro_join a1 (f_Ro_wipe σ)))
def fin3 (tt : St) (a1 a2 a3 : Int32) (σ : St) : XR := if tt.1 0 4 = 0 then (if f_grants tt (σ.1 24 5) = 0 then xb (f_CL_throwWrong σ) (fun x u => (.inl x, u)) else xb (f_CL_enterRow (f_Sc_innermost (jn3 a1 a2 a3 σ)) 0 (jn3 a1 a2 a3 σ)) (fun x u => (.inl x, u))) else xb (f_CL_throwTooGreat σ) (fun x u => (.inl x, u))
def dmL (σ : St) (t : Int32) (X : Nat → Bool) : Nat → Bool := if t = -1 then X else nd σ 12 (nd σ 12 X (opA t σ).toNatClampNeg) (opB t σ).toNatClampNeg
/-- a truth that is weighed: what its sums must give -/
def LD (σ : St) (G : Nat → Nat → Prop) (Sp : Nat → St → Prop) (Pe : St → Prop) (t f : Int32) (P Q : St → Prop) : Prop := (t = -1 ∧ ∀ x, P x → Q x) ∨ (¬ t = -1 ∧ k_Ba_inside t σ ∧ ∃ a b, opA t σ = nI a ∧ opB t σ = nI b ∧ G 11 a ∧ G 11 b ∧ ∀ e x, Pe e → P x → (∀ α, Sp a α → k_at α 1 1 (f_Su_wipes e)) ∧ ∀ α β, Sp a α → Sp b β → k_at β (-1) 1 (f_at α 1 1 (f_Su_wipes e)) ∧ k_at (e2L e α β) f.toInt64 1 x ∧ Pe (e2L e α β) ∧ Q (f_at (e2L e α β) f.toInt64 1 x))
theorem kd5 (x : Int32) (σ : St) (v : Int32) : f_Te_kindOf x (sF σ 24 5 v) = f_Te_kindOf x σ := rfl
theorem on5 (x : Int32) (σ : St) (v : Int32) : f_Te_firstOf x (sF σ 24 5 v) = f_Te_firstOf x σ := rfl
theorem tw5 (x : Int32) (σ : St) (v : Int32) : f_Te_secondOf x (sF σ 24 5 v) = f_Te_secondOf x σ := rfl
theorem tp5 (x : Int32) (σ : St) (v : Int32) : f_Te_topOf x (sF σ 24 5 v) = f_Te_topOf x σ := rfl
theorem bt5 (x : Int32) (σ : St) (v : Int32) : f_Te_bottomOf x (sF σ 24 5 v) = f_Te_bottomOf x σ := rfl
theorem in5 (x : Int32) (σ : St) (v : Int32) : f_Ba_inside x (sF σ 24 5 v) = f_Ba_inside x σ := rfl
theorem oA5 (x : Int32) (σ : St) (v : Int32) : opA x (sF σ 24 5 v) = opA x σ := by
  unfold opA trn; rw [in5, kd5, kd5, on5, tw5]
theorem oB5 (x : Int32) (σ : St) (v : Int32) : opB x (sF σ 24 5 v) = opB x σ := by
  unfold opB trn; rw [in5, kd5, kd5, on5, tw5]
theorem nd5 (σ : St) (v : Int32) : ∀ (d : Nat) (X : Nat → Bool) (t : Nat), nd (sF σ 24 5 v) d X t = nd σ d X t := by
  intro d
  induction d with
  | zero => intro X t; rfl
  | succ d ih =>
    intro X t
    rw [nd_s, nd_s]
    unfold ndp
    rw [kd5, on5, tw5, ih, ih]
theorem Cl5 {σ : St} {G : Nat → Nat → Prop} {Sp : Nat → St → Prop} (v : Int32) (h : Cl σ G Sp) : Cl (sF σ 24 5 v) G Sp := by
  unfold Cl at h ⊢
  simp only [kd5, on5, tw5, tp5, bt5]
  exact h
theorem LD5 {σ : St} {G : Nat → Nat → Prop} {Sp : Nat → St → Prop} {Pe P Q : St → Prop} {t f : Int32} (v : Int32) (h : LD σ G Sp Pe t f P Q) : LD (sF σ 24 5 v) G Sp Pe t f P Q := by
  unfold LD at h ⊢
  rw [oA5, oB5]
  exact h
theorem ac5 {σ : St} (v : Int32) (h : ∀ x, k_Te_kindOf x σ ∧ k_Te_firstOf x σ ∧ k_Te_secondOf x σ ∧ k_Te_topOf x σ ∧ k_Te_bottomOf x σ) : ∀ x, k_Te_kindOf x (sF σ 24 5 v) ∧ k_Te_firstOf x (sF σ 24 5 v) ∧ k_Te_secondOf x (sF σ 24 5 v) ∧ k_Te_topOf x (sF σ 24 5 v) ∧ k_Te_bottomOf x (sF σ 24 5 v) := fun x => h x
theorem dm5 (σ : St) (v : Int32) (t : Int32) (X : Nat → Bool) : dmL (sF σ 24 5 v) t X = dmL σ t X := by
  unfold dmL; rw [nd5, nd5, oA5, oB5]
theorem dm_mono (σ : St) (t : Int32) (X : Nat → Bool) : cn X 100 ≤ cn (dmL σ t X) 100 := by
  unfold dmL
  by_cases h : t = -1
  · rw [if_pos h]; exact Nat.le_refl _
  · rw [if_neg h]; exact Nat.le_trans (cn_nd _ _ _) (cn_nd _ _ _)
abbrev BS : Type := (Nat → Option Nat) × St × St × List Itm
/-- the end of a call that may throw, with the balance as it then stands -/
def RxB (D : va_G) (Wf : BS → St → va_W) (Gd : BS → Prop) (A : Nat → Prop) (v : XR) : Array Value → State → Outcome → State → Prop := fun a st o t => ∃ w, Gd w ∧ va_D A (Wf w v.2) ∧ Rx D classes (Wf w) A v a st o t
