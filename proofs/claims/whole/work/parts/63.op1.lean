-- the calls that enter a clause: how they begin and end
def RES (n0 : Nat) (τ : St) (z : XR) (w : Int32 × St) (cd : Nat → Int32) (al : Nat → Prop) : Prop := Ag z w cd ∧ (∀ E, z.1 = .inr E → al E) ∧ (∃ n q c k f, n0 ≤ n ∧ IV n q c k f z.2 w.2) ∧ rwM n0 τ w.2
theorem xb_id (z : XR) : xb z (fun x u => (.inl x, u)) = z := by
  obtain ⟨a, b⟩ := z
  cases a <;> rfl
theorem arg_cases (a : Int32) (n : Nat) : (¬ (0 ≤ a.toInt ∧ a.toInt < n)) ∨ ∃ t, t < n ∧ a = nI t := by
  by_cases h : 0 ≤ a.toInt ∧ a.toInt < n
  · exact Or.inr ⟨a.toInt.toNat, by omega, nJ_of h.1⟩
  · exact Or.inl h
section OP
variable {n n0 q c k f : Nat} {σ τ : St} {cd : Nat → Int32} {al : Nat → Prop}
theorem op_shut (h : IV n q c k f σ τ) : (f < 60 → f_CL_isShut σ = 0 ∧ f_Mo_begin τ = (0, bg τ)) ∧ (¬ f < 60 → ¬ f_CL_isShut σ = 0 ∧ f_Mo_begin τ = (1, bg τ)) := by
  obtain ⟨-, -, -, -, -, -, -, -, -, -, -, h1, h2, h3⟩ := h
  have e1 : σ.1 0 10 < 60 ↔ f < 60 := by rw [h2]; exact nI_lt_iff (b := 60) (by omega) (by omega)
  have e2 : τ.1 0 1 < 60 ↔ f < 60 := by rw [h3]; exact nI_lt_iff (b := 60) (by omega) (by omega)
  refine ⟨fun hf => ⟨?_, ?_⟩, fun hf => ⟨?_, ?_⟩⟩
  · rw [shut_eq, if_pos (e1.mpr hf)]
  · rw [begin_eq, if_pos (e2.mpr hf)]
  · rw [shut_eq, if_neg (fun h => hf (e1.mp h))]; decide
  · rw [begin_eq, if_neg (fun h => hf (e2.mp h))]
theorem rw_bg (n : Nat) (τ : St) : rwM n τ (bg τ) := fun c0 q1 q2 j hj => by
  have h0 : ¬ c0 = 0 := by omega
  unfold bg
  simp only [sF1c, h0, false_and, if_false]
theorem rwM.tr {n m : Nat} {a b d : St} (h1 : rwM n a b) (h2 : rwM m b d) (hm : n ≤ m) : rwM n a d := fun c0 q1 q2 j hj => (h2 c0 q1 q2 j (by omega)).trans (h1 c0 q1 q2 j hj)
theorem rw_fl (n : Nat) (τ : St) (x : Int32) : rwM n τ (fl x τ) := fun c0 q1 q2 j hj => by
  have h0 : ¬ c0 = 0 := by omega
  unfold fl
  simp only [sF1c, h0, false_and, if_false]
theorem res_shut (h : IV n q c k f σ τ) : RES n τ (.inl (-1), σ) (-1, bg τ) cd al := by
  refine ⟨⟨fun x hx => ?_, fun E hE => ?_⟩, fun E hE => ?_, ⟨n, q, c, k, f, Nat.le_refl n, h⟩, rw_bg n τ⟩
  · cases hx; exact ⟨rfl, rfl⟩
  · cases hE
  · cases hE
theorem res_ref {σ1 τ1 : St} {n1 E : Nat} {x : Int32} (hT : TT n0 n1 σ1 τ1) (hR : RS n0 q c k f σ1 τ1) (hd : ∀ t, t < n0 → τ1.1 7 t ≤ 12) (hf : f < 60) (hrw : rwM n0 τ τ1) (hx : cd E = x) (hx0 : ¬ x = 0) (hal : al E) : RES n0 τ (.inr E, un σ1) (0, fl x τ1) cd al := by
  refine ⟨⟨fun x hx => ?_, fun E hE => ?_⟩, fun E hE => ?_, ⟨n0, q, c, k, f + 1, Nat.le_refl n0, IV.refuse hT hR hd hf x⟩, hrw.tr (rw_fl n0 τ1 x) (Nat.le_refl _)⟩
  · cases hx
  · cases hE; rw [hx]; exact ⟨rfl, hx0⟩
  · cases hE; exact hal
theorem res_enter {σ1 τ1 : St} {n1 r s : Nat} {nm c3 c4 : Int32} (hT : TR n0 n1 r σ1 τ1) (hR : RS n0 q c k f σ1 τ1) (hn : n1 ≤ 207) (hd : ∀ t, t < n0 → τ1.1 7 t ≤ 12) (hs : s ≤ q) (htr : ∀ j, j < r → ∃ t, t < n1 ∧ τ1.1 20 j = nI t ∧ τ1.1 6 t = 0)
    (g3 : n0 < n1 → (k_Mo_fails 3 nm τ1 ∧ f_Mo_fails 3 nm τ1 = (0, fl c3 τ1)) ∧ cd 3 = c3 ∧ ¬ c3 = 0 ∧ al 3) (g4 : k_Mo_fails 4 nm τ1 ∧ f_Mo_fails 4 nm τ1 = (0, fl c4 τ1)) (h4 : cd 4 = c4 ∧ ¬ c4 = 0 ∧ al 4) (hcode : τ1.1 0 0 = 0) (hrw : rwM n0 τ τ1) (hf : f < 60) :
    k_CL_enterRow (nI s) 0 σ1 ∧ k_Mo_enter (nI s) nm τ1 ∧ RES n0 τ (f_CL_enterRow (nI s) 0 σ1) (f_Mo_enter (nI s) nm τ1) cd al := by
  obtain ⟨k1, k2, hc⟩ := enter_sim (asm := 0) (c3 := c3) (c4 := c4) hT hR hn hd hs (Or.inl rfl) htr (fun ⟨t, q1, q2, _⟩ => (g3 (by omega)).1) g4
  refine ⟨k1, k2, ?_⟩
  rcases hc with ⟨f1, f2, t, q1, q2, -⟩ | ⟨f1, f2⟩ | ⟨σ', τ', f1, f2, f3, f4, f5, f6, f7, f8, f9⟩
  · obtain ⟨-, a1, a2, a3⟩ := g3 (by omega)
    rw [f1, f2]
    exact res_ref hT.1 hR hd hf hrw a1 a2 a3
  · rw [f1, f2]
    exact res_ref hT.1 hR hd hf hrw h4.1 h4.2.1 h4.2.2
  · rw [f1, f2]
    refine ⟨⟨fun x hx => (by cases hx; exact ⟨f5.trans hcode, rfl⟩), fun E hE => (by cases hE)⟩, fun E hE => (by cases hE), ⟨n1, q, c, k + 1, f, hT.1.2.1, f9 τ' (fun _ _ => rfl) (fun _ _ => rfl) f7⟩, fun c0 q1 q2 j hj => ?_⟩
    rw [f6 c0 q1 q2]; exact hrw c0 q1 q2 j hj
end OP
theorem isT_iff {τ : St} {n : Nat} (h : τ.1 0 9 = nI n) (hn : n ≤ 400) (a : Int32) : f_Mo_isTerm a τ = 0 ↔ ¬ (0 ≤ a.toInt ∧ a.toInt < n) := by
  show (if a < 0 then (0 : Int32) else (if τ.1 0 9 ≤ a then 0 else 1)) = 0 ↔ _
  rw [h]
  by_cases h1 : a < 0
  · rw [if_pos h1]
    rw [Int32.lt_iff_toInt_lt, Int32.toInt_zero] at h1
    exact ⟨fun _ => by omega, fun _ => rfl⟩
  · rw [if_neg h1]
    rw [Int32.lt_iff_toInt_lt, Int32.toInt_zero] at h1
    by_cases h2 : nI n ≤ a
    · rw [if_pos h2]
      rw [Int32.le_iff_toInt_le, i_nI (by omega)] at h2
      exact ⟨fun _ => by omega, fun _ => rfl⟩
    · rw [if_neg h2]
      rw [Int32.le_iff_toInt_le, i_nI (by omega)] at h2
      exact ⟨fun h => absurd h (by decide), fun h => absurd ⟨by omega, by omega⟩ h⟩
theorem kk_isTerm (a : Int32) (τ : St) : k_Mo_isTerm a τ := ⟨fun _ => ⟨rfl, trivial⟩, fun _ => ⟨fun _ => ⟨rfl, trivial⟩, fun _ => ⟨rfl, trivial⟩⟩⟩
theorem truth_C {σ τ : St} {n t : Nat} (hT : TM n σ τ) (hn : n ≤ 208) (ht : t < n) : k_Te_isTruth (nI t) σ ∧ (f_Te_isTruth (nI t) σ = 0 ↔ ¬ τ.1 6 t = 0) := by
  have es : f_Te_sortOf (nI t) σ = τ.1 6 t := (acc_nI hT.1 hn ht (σ.1 8) (-1)).trans (hT.2.2 t ht).1.2.1
  refine ⟨⟨k_acc hT.1 hn (nI t), fun _ => ⟨rfl, trivial⟩, fun _ => ⟨rfl, trivial⟩⟩, ?_⟩
  show (if f_Te_sortOf (nI t) σ = 0 then (1 : Int32) else 0) = 0 ↔ _
  rw [es]
  by_cases h : τ.1 6 t = 0
  · rw [if_pos h]; exact ⟨fun h9 => absurd h9 (by decide), fun h9 => absurd h h9⟩
  · rw [if_neg h]; exact ⟨fun _ => h, fun _ => rfl⟩
theorem truth_M {τ : St} {t : Nat} (ht : t < 400) : k_Mo_isTruth (nI t) τ ∧ (f_Mo_isTruth (nI t) τ = 0 ↔ ¬ τ.1 6 t = 0) := by
  have hcl : (nI t).toNatClampNeg = t := nI_clamp (by omega)
  have hin : vp_in (nI t) 400 := by rw [in_iff, i_nI (by omega)]; omega
  refine ⟨⟨hin, fun _ => ⟨rfl, trivial⟩, fun _ => ⟨rfl, trivial⟩⟩, ?_⟩
  show (if τ.1 6 (nI t).toNatClampNeg = 0 then (1 : Int32) else 0) = 0 ↔ _
  rw [hcl]
  by_cases h : τ.1 6 t = 0
  · rw [if_pos h]; exact ⟨fun h9 => absurd h9 (by decide), fun h9 => absurd h h9⟩
  · rw [if_neg h]; exact ⟨fun _ => h, fun _ => rfl⟩
