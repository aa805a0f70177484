-- what stands within a call, in one pack, and its steps
def PK (n0 n r q c k f : Nat) (τb σ τ : St) : Prop := TR n0 n r σ τ ∧ RS n0 q c k f σ τ ∧ rwM n0 τb τ ∧ τ.1 0 0 = 0 ∧ (∀ t, t < n0 → τ.1 7 t ≤ 12) ∧ ∀ j, j < r → ∃ t, t < n ∧ τ.1 20 j = nI t ∧ τ.1 6 t = 0
section PKS
variable {n0 n r q c k f : Nat} {τb σ τ : St}
theorem PK.start (h : IV n q c k f σ τ) : PK n n 0 q c k f τ (sF σ 25 1 0) (bg τ) := by
  obtain ⟨-, -, b1, b2⟩ := h.begin
  exact ⟨b1, b2, rw_bg n τ, rfl, h.2.2.2.2.2.2.1, fun j hj => absurd hj (Nat.not_lt_zero j)⟩
theorem PK.made {n' : Nat} {σ' τ' : St} (h : PK n0 n r q c k f τb σ τ) (hn : n ≤ n') (hT : TR n0 n' r σ' τ') (hw : rwM n τ τ') (hC : frC σ σ') (hM : frM τ τ') (h20 : τ'.1 20 = τ.1 20) : PK n0 n' r q c k f τb σ' τ' := by
  obtain ⟨g1, g2, g3, g4, g5, g6⟩ := h
  have h0 := g1.1.2.1
  refine ⟨hT, g2.cong hC hM (fun c0 q1 q2 j hj => hw c0 q1 q2 j (by omega)), g3.tr hw h0, by rw [hM.2.1 0 (by omega) (by omega)]; exact g4, fun t ht => by rw [hw 7 (by omega) (by omega) t (by omega)]; exact g5 t ht, fun j hj => ?_⟩
  obtain ⟨t, q1, q2, q3⟩ := g6 j hj
  exact ⟨t, by omega, by rw [h20]; exact q2, by rw [hw 6 (by omega) (by omega) t q1]; exact q3⟩
theorem PK.opp {t : Nat} (h : PK n0 n r q c k f τb σ τ) (hn : n ≤ 206) (ht : tru τ n t) :
    k_Te_opposite (nI t) σ ∧ k_Mo_opposite (nI t) τ ∧ ∃ m n' σ' τ', f_Te_opposite (nI t) σ = (nI m, σ') ∧ f_Mo_opposite (nI t) τ = (nI m, τ') ∧ tru τ' n' m ∧ n ≤ n' ∧ n' ≤ n + 1 ∧ PK n0 n' r q c k f τb σ' τ' ∧ rwM n τ τ' := by
  obtain ⟨k1, k2, m, n', σ', τ', f1, f2, q1, q2, q3, q4, q5, q6, q7, q8⟩ := TT.opposite h.1 hn ht
  exact ⟨k1, k2, m, n', σ', τ', f1, f2, q1, q2, q3, h.made q2 q4 q5 q6 q7 q8, q5⟩
theorem PK.eqn {p p2 : Nat} (h : PK n0 n r q c k f τb σ τ) (hn : n ≤ 206) (hp : p < n) (hp2 : p2 < n) (hs : τ.1 6 p = τ.1 6 p2) :
    k_Te_equation (nI p) (nI p2) σ ∧ k_Mo_made 5 (nI p) (nI p2) τ ∧ ∃ m n' σ' τ', f_Te_equation (nI p) (nI p2) σ = (nI m, σ') ∧ f_Mo_made 5 (nI p) (nI p2) τ = (nI m, τ') ∧ tru τ' n' m ∧ n ≤ n' ∧ n' ≤ n + 1 ∧ PK n0 n' r q c k f τb σ' τ' ∧ rwM n τ τ' := by
  obtain ⟨k1, k2, m, n', σ', τ', f1, f2, q1, q2, q3, q4, q5, q6, q7, q8⟩ := TT.equation h.1 hn hp hp2 hs
  exact ⟨k1, k2, m, n', σ', τ', f1, f2, q1, q2, q3, h.made q2 q4 q5 q6 q7 q8, q5⟩
theorem PK.join {t : Nat} (h : PK n0 n r q c k f τb σ τ) (hr : r < 68) (ht : tru τ n t) (hn : n ≤ 208) :
    k_Ro_join (nI t) σ ∧ k_Mo_join (nI t) τ ∧ ∃ r', r ≤ r' ∧ r' ≤ r + 1 ∧ PK n0 n r' q c k f τb (f_Ro_join (nI t) σ) (f_Mo_join (nI t) τ) ∧ (∀ c0, 5 ≤ c0 → c0 ≤ 13 → (f_Mo_join (nI t) τ).1 c0 = τ.1 c0) := by
  obtain ⟨ht1, ht2⟩ := ht
  obtain ⟨g1, g2, g3, g4, g5, g6⟩ := h
  obtain ⟨k1, k2, r', q1, q2, q3, q4, q5, q6, q7⟩ := TR.join g1 hr (nI_ne_m1 (i := t) (by omega))
  refine ⟨k1, k2, r', q1, q2, ⟨q3, g2.cong q4 q5 (fun c0 a1 a2 j hj => by rw [q6 c0 a1 a2]), fun c0 a1 a2 j hj => by rw [q6 c0 a1 a2]; exact g3 c0 a1 a2 j hj, by rw [q5.2.1 0 (by omega) (by omega)]; exact g4, fun t ht => by rw [q6 7 (by omega) (by omega)]; exact g5 t ht, fun j hj => ?_⟩, q6⟩
  rcases q7 j hj with a1 | ⟨a1, a2⟩
  · exact ⟨t, ht1, a1, by rw [q6 6 (by omega) (by omega)]; exact ht2⟩
  · obtain ⟨t2, b1, b2, b3⟩ := g6 j a1
    exact ⟨t2, b1, by rw [a2]; exact b2, by rw [q6 6 (by omega) (by omega)]; exact b3⟩
theorem PK.inner (h : PK n0 n r q c k f τb σ τ) : f_Sc_innermost σ = nI c ∧ τ.1 0 25 = nI c ∧ c ≤ q := by
  obtain ⟨-, ⟨-, -, hC, -, -⟩, -⟩ := h
  obtain ⟨-, h1, -, -, h2, h3, -⟩ := hC
  exact ⟨h2, h3, h1⟩
theorem PK.enter {cd : Nat → Int32} {al : Nat → Prop} {nm c3 c4 : Int32} (h : PK n0 n r q c k f τb σ τ) (hn : n ≤ 207) (hf : f < 60)
    (g3 : n0 < n → (k_Mo_fails 3 nm τ ∧ f_Mo_fails 3 nm τ = (0, fl c3 τ)) ∧ cd 3 = c3 ∧ ¬ c3 = 0 ∧ al 3) (g4 : k_Mo_fails 4 nm τ ∧ f_Mo_fails 4 nm τ = (0, fl c4 τ)) (h4 : cd 4 = c4 ∧ ¬ c4 = 0 ∧ al 4) :
    k_CL_enterRow (f_Sc_innermost σ) 0 σ ∧ k_Mo_enter (τ.1 0 25) nm τ ∧ RES n0 τb (f_CL_enterRow (f_Sc_innermost σ) 0 σ) (f_Mo_enter (τ.1 0 25) nm τ) cd al := by
  obtain ⟨e1, e2, e3⟩ := h.inner
  obtain ⟨p1, p2, p3, p4, p5, p6⟩ := h
  rw [e1, e2]
  exact res_enter p1 p2 hn p5 e3 p6 g3 g4 h4 p4 p3 hf
/-- a refusal from within -/
theorem PK.refuse {cd : Nat → Int32} {al : Nat → Prop} {E : Nat} {x : Int32} (h : PK n0 n r q c k f τb σ τ) (hf : f < 60) (hx : cd E = x) (hx0 : ¬ x = 0) (hal : al E) : RES n0 τb (.inr E, un σ) (0, fl x τ) cd al := by
  obtain ⟨p1, p2, p3, p4, p5, p6⟩ := h
  exact res_ref p1.1 p2 p5 hf p3 hx hx0 hal
/-- a refusal before the row is wiped -/
theorem IV.refuse0 {cd : Nat → Int32} {al : Nat → Prop} {E : Nat} {x : Int32} (h : IV n q c k f σ τ) (hf : f < 60) (hx : cd E = x) (hx0 : ¬ x = 0) (hal : al E) : RES n τ (.inr E, un σ) (0, fl x (bg τ)) cd al := by
  obtain ⟨b1, b2, -, -⟩ := h.begin
  exact res_ref b1 b2 h.2.2.2.2.2.2.1 hf (rw_bg n τ) hx hx0 hal
end PKS
