-- putting, side by side: what is given and what comes out
def cost (d : Nat) : Nat := 3 * 2 ^ d - 3
theorem cost_s (d : Nat) : cost (d + 1) = 3 + 2 * cost d := by
  unfold cost
  have p : 2 ^ (d + 1) = 2 * 2 ^ d := by rw [Nat.pow_succ, Nat.mul_comm]
  have q : 1 ≤ 2 ^ d := Nat.one_le_pow _ _ (by omega)
  omega
def PJ (n0 r q c k f u : Nat) (x : Int32) (τb : St) (n : Nat) (σ X : St) : Prop :=
  PK n0 n r q c k f τb σ X ∧ σ.1 22 2 = x ∧ σ.1 22 3 = nI u ∧ (∀ j, j < n0 → σ.1 23 j = -1 ∨ ∃ m, m < n ∧ σ.1 23 j = nI m ∧ X.1 6 m = τb.1 6 j) ∧ n + unr (σ.1 23) n0 ≤ 204 ∧ (σ.1 22 4 = 0 ∨ σ.1 22 4 = 1)
/-- what stands for j -/
def rv (τb : St) (x : Int32) (u : Nat) (σ : St) (j : Nat) : Int32 := if ((τb.1 13 j >>> (x &&& 31)) &&& 1) = 1 then (if τb.1 5 j = 1 then nI u else σ.1 23 j) else nI j
def AG (τb : St) (x : Int32) (u t0 b : Nat) (σ X : St) : Prop := X.1 0 34 = nI b ∧ ∀ j, j ≤ t0 → X.1 26 j = rv τb x u σ j
/-- nothing stands for j yet -/
def nrd (τb : St) (x : Int32) (σ : St) (j : Nat) : Prop := fr τb x j ∧ ¬ τb.1 5 j = 1 ∧ σ.1 23 j = -1
theorem rv_in {τb σ : St} {x : Int32} {u j : Nat} (h1 : fr τb x j) (h2 : ¬ τb.1 5 j = 1) : rv τb x u σ j = σ.1 23 j := by
  unfold rv
  rw [if_pos (show ((τb.1 13 j >>> (x &&& 31)) &&& 1) = 1 from h1), if_neg h2]
theorem rv_no {τb σ : St} {x : Int32} {u j : Nat} (h1 : ¬ fr τb x j) : rv τb x u σ j = nI j := by
  unfold rv
  rw [if_neg (show ¬ ((τb.1 13 j >>> (x &&& 31)) &&& 1) = 1 from h1)]
theorem rv_var {τb σ : St} {x : Int32} {u j : Nat} (h1 : fr τb x j) (h2 : τb.1 5 j = 1) : rv τb x u σ j = nI u := by
  unfold rv
  rw [if_pos (show ((τb.1 13 j >>> (x &&& 31)) &&& 1) = 1 from h1), if_pos h2]
theorem nrd.m1 {τb σ : St} {x : Int32} {u j : Nat} (h : nrd τb x σ j) : rv τb x u σ j = -1 := by
  rw [rv_in h.1 h.2.1, h.2.2]
def MC (τb : St) (x : Int32) (u n0 : Nat) (σ : St) : Prop := ∀ j, j < n0 → ¬ σ.1 23 j = -1 → cln τb x u j
def fmP (X Y : St) : Prop := (∀ c, (1 ≤ c ∧ c < 5) ∨ (13 < c ∧ ¬ c = 20 ∧ ¬ c = 24 ∧ ¬ c = 26) → Y.1 c = X.1 c) ∧ (∀ j, ¬ j = 8 → ¬ j = 28 → ¬ j = 34 → Y.1 0 j = X.1 0 j)
theorem fmP.rf (X : St) : fmP X X := ⟨fun _ _ => rfl, fun _ _ _ _ => rfl⟩
theorem fmP.tr {X Y Z : St} (h1 : fmP X Y) (h2 : fmP Y Z) : fmP X Z := ⟨fun c hc => (h2.1 c hc).trans (h1.1 c hc), fun j q1 q2 q3 => (h2.2 j q1 q2 q3).trans (h1.2 j q1 q2 q3)⟩
/-- beside the machine -/
def PO (n0 r q c k f u : Nat) (x : Int32) (τb : St) (t n m n' : Nat) (σ X σ' X' : St) : Prop :=
  m < n' ∧ n ≤ n' ∧ PJ n0 r q c k f u x τb n' σ' X' ∧ rwM n X X' ∧ X'.1 6 m = τb.1 6 t ∧ (¬ fr τb x t → m = t) ∧ fmP X X' ∧ (∀ j, t < j ∨ ¬ σ.1 23 j = -1 → σ'.1 23 j = σ.1 23 j) ∧ (¬ σ.1 22 4 = 0 → ¬ σ'.1 22 4 = 0) ∧
  (σ.1 22 4 = 0 → MC τb x u n0 σ → (σ'.1 22 4 = 0 ↔ cln τb x u t) ∧ (σ'.1 22 4 = 0 → MC τb x u n0 σ'))
/-- the machine, from an entry into t -/
def PE (u t0 : Nat) (x : Int32) (τb : St) (d t m : Nat) (σ X σ' X' : St) : Prop :=
  σ'.1 22 4 = 0 → ∀ b s, AG τb x u t0 b σ X →
    (¬ nrd τb x σ t → X' = X ∧ σ'.1 23 = σ.1 23 ∧ nI m = rv τb x u σ t) ∧
    (nrd τb x σ t → t ≤ t0 → nrd τb x σ t0 → ((t = t0 ∧ b = 0) ∨ (¬ t = t0 ∧ 1 ≤ b)) → b + d ≤ 38 → s + cost d < 4000 →
      σ'.1 23 t = nI m ∧ AG τb x u t0 (b - 1) σ' X' ∧ (∀ j, j < b → X'.1 24 j = X.1 24 j) ∧ ∃ s', s' ≤ s + cost d ∧ PM t0 s (nI t) X = PM t0 s' (if t = t0 then nI t0 else X.1 24 (b - 1)) X' ∧ (KPM t0 s' (if t = t0 then nI t0 else X.1 24 (b - 1)) X' → KPM t0 s (nI t) X))
def PS (n0 r q c k f u t0 : Nat) (x : Int32) (τb : St) (d D : Nat) : Prop := ∀ (t lv n : Nat) (σ X : St), t < n0 → (τb.1 7 t).toInt ≤ (d : Int) + 1 → lv + d ≤ 12 → PJ n0 r q c k f u x τb n σ X →
  K_Pu_putIn D (nI t) (nI lv) σ ∧ ∃ m n' σ' X', F_Pu_putIn D (nI t) (nI lv) σ = (nI m, σ') ∧ PO n0 r q c k f u x τb t n m n' σ X σ' X' ∧ PE u t0 x τb d t m σ X σ' X'
section PJS
variable {n0 r q c k f u t0 n : Nat} {x : Int32} {τb σ X : St}
theorem PJ.cg {σ' X' : St} (h : PJ n0 r q c k f u x τb n σ X) (hC : cgC σ σ') (h22 : ∀ j, ¬ j = 4 → σ'.1 22 j = σ.1 22 j) (h4 : σ'.1 22 4 = 0 ∨ σ'.1 22 4 = 1) (h23 : σ'.1 23 = σ.1 23) (hM : cgM X X') : PJ n0 r q c k f u x τb n σ' X' := by
  obtain ⟨g1, g2, g3, g4, g5, g6⟩ := h
  refine ⟨g1.cg hC hM, by rw [h22 2 (by omega)]; exact g2, by rw [h22 3 (by omega)]; exact g3, fun j hj => ?_, by rw [h23]; exact g5, h4⟩
  rw [h23, hM.1 6 (by omega) (by omega) (by omega) (by omega)]
  exact g4 j hj
theorem cgM.psh (X : St) (t : Nat) : cgM X (psh X t) := ⟨fun c q0 q1 q2 q3 => by
  show pu (pu X.1 24 _) 0 _ c = _
  rw [pu_at, if_neg q0, pu_at, if_neg q1], fun j hj => by
  show pu (X.1 0) 34 _ j = _
  rw [pu_at, if_neg hj]⟩
theorem cgM.fm {X Y : St} (h : cgM X Y) (h29 : Y.1 29 = X.1 29) : fmP X Y := ⟨fun c hc => by
  by_cases z : c = 29
  · subst z; exact h29
  · exact h.1 c (by omega) (by omega) (by omega) z, fun j _ _ q3 => h.2 j q3⟩
/-- a part put within a step for t -/
theorem part_j {d D t p lv : Nat} (IH : PS n0 r q c k f u t0 x τb d D) (hp : p < n0) (hpt : p < t) (ht : t < n0) (hd : (τb.1 7 p).toInt ≤ (d : Int) + 1) (hlv : lv + d ≤ 12) (hJ : PJ n0 r q c k f u x τb n σ X) (hn0 : n0 ≤ 100) :
    K_Pu_putIn D (nI p) (nI lv) σ ∧ ∃ m n' σ' X', F_Pu_putIn D (nI p) (nI lv) σ = (nI m, σ') ∧ PO n0 r q c k f u x τb p n m n' σ X σ' X' ∧
      (σ'.1 22 4 = 0 → ∀ b s, AG τb x u t0 b σ X → t ≤ t0 → nrd τb x σ t0 → b + d ≤ 37 → s + 1 + cost d < 4000 → (X.1 26 p = -1 → PM t0 s (nI t) X = PM t0 (s + 1) (nI p) (psh X t) ∧ (KPM t0 (s + 1) (nI p) (psh X t) → KPM t0 s (nI t) X)) →
        AG τb x u t0 b σ' X' ∧ (∀ j, j < b → X'.1 24 j = X.1 24 j) ∧ X'.1 26 p = nI m ∧ ∃ s', s' ≤ s + 1 + cost d ∧ PM t0 s (nI t) X = PM t0 s' (nI t) X' ∧ (KPM t0 s' (nI t) X' → KPM t0 s (nI t) X)) := by
  by_cases hr : nrd τb x σ p
  · have hJ' : PJ n0 r q c k f u x τb n σ (psh X t) := hJ.cg (cgC.rf σ) (fun _ _ => rfl) hJ.2.2.2.2.2 rfl (cgM.psh X t)
    obtain ⟨kK, m, n', σ', X', e, ⟨o1, o2, o3, o4, o5, o6, o7, o8, o9, o10⟩, hE⟩ := IH p lv n σ (psh X t) hp hd hlv hJ'
    refine ⟨kK, m, n', σ', X', e, ⟨o1, o2, o3, fun c q1 q2 j hj => by rw [o4 c q1 q2 j hj, (cgM.psh X t).1 c (by omega) (by omega) (by omega) (by omega)], o5, o6, ((cgM.psh X t).fm rfl).tr o7, o8, o9, o10⟩, fun h4 b s hA ht0 h0 hb hs hst => ?_⟩
    obtain ⟨a1, a2⟩ := hA
    have a26 : X.1 26 p = -1 := by rw [a2 p (by omega)]; exact hr.m1
    have hcb : (nI b).toNatClampNeg = b := nI_clamp (by omega)
    have p24 : ∀ j, (psh X t).1 24 j = if j = b then nI t else X.1 24 j := fun j => by
      show (sA X 24 (X.1 0 34) (nI t)).1 24 j = _
      rw [sA1, if_pos rfl, a1, hcb]
    have hA' : AG τb x u t0 (b + 1) σ (psh X t) := ⟨by
      show X.1 0 34 + 1 = _
      rw [a1, nI_succ], fun j hj => by rw [psh_26]; exact a2 j hj⟩
    obtain ⟨b1, b2, b3, s', b4, b5, b6⟩ := (hE h4 (b + 1) (s + 1) hA').2 hr (by omega) h0 (Or.inr ⟨by omega, by omega⟩) (by omega) (by omega)
    rw [if_neg (show ¬ p = t0 by omega), Nat.add_sub_cancel, p24, if_pos rfl] at b5 b6
    rw [Nat.add_sub_cancel] at b2
    obtain ⟨c1, c2⟩ := hst a26
    refine ⟨b2, fun j hj => by rw [b3 j (by omega), p24, if_neg (by omega)], ?_, s', by omega, c1.trans b5, fun w => c2 (b6 w)⟩
    rw [b2.2 p (by omega)]
    rw [rv_in hr.1 hr.2.1]; exact b1
  · obtain ⟨kK, m, n', σ', X', e, hO, hE⟩ := IH p lv n σ X hp hd hlv hJ
    refine ⟨kK, m, n', σ', X', e, hO, fun h4 b s hA ht0 h0 hb hs hst => ?_⟩
    obtain ⟨b1, b2, b3⟩ := (hE h4 b s hA).1 hr
    subst b1
    refine ⟨⟨hA.1, fun j hj => ?_⟩, fun _ _ => rfl, ?_, s, by omega, rfl, id⟩
    · rw [hA.2 j hj]; unfold rv; rw [b2]
    · rw [hA.2 p (by omega)]; exact b3.symm
end PJS
