-- what the pack doesn't hang on; how many results are wanting; a term made anew out of other parts
section CG
variable {n0 n r q c k f : Nat} {τb σ τ σ' τ' : St}
theorem RS.cong5 (h : RS n q c k f σ τ) (e1 : ∀ x, x < 6 ∨ x = 18 ∨ x = 19 ∨ 26 < x → σ'.1 x = σ.1 x) (e2 : ∀ x, (1 ≤ x ∧ x < 5) ∨ (14 ≤ x ∧ x < 20) ∨ x = 21 → τ'.1 x = τ.1 x) (e3 : ∀ j, j = 1 ∨ j = 2 ∨ j = 3 ∨ j = 19 ∨ j = 24 ∨ j = 25 ∨ j = 30 → τ'.1 0 j = τ.1 0 j) (h3 : rwM n τ τ') : RS n q c k f σ' τ' := by
  obtain ⟨hG, hF, hC, hP, hL⟩ := h
  refine ⟨hG.cong (fun c q1 q2 => e1 c (by omega)) (fun c q1 q2 => e2 c (by omega)) (fun j q1 q2 => e3 j (by omega)), hF.cong (by rw [e1 18 (by omega)]) (e1 19 (by omega)) (e3 30 (by omega)) (e2 21 (by omega)), ?_, ?_, ?_⟩
  · unfold SC at hC ⊢
    rw [e1 27 (by omega), e1 28 (by omega), e1 29 (by omega), e1 30 (by omega), e2 18 (by omega), e2 19 (by omega), e3 24 (by omega), e3 25 (by omega)]
    exact hC
  · obtain ⟨p1, p2, p3, p4⟩ := hP
    refine ⟨p1, by rw [e1 31 (by omega)]; exact p2, by rw [e3 19 (by omega)]; exact p3, fun i hi => ?_⟩
    obtain ⟨r1, r2, r3, z, r4, r5, r6, r7, r8⟩ := p4 i hi
    rw [e1 32 (by omega), e1 33 (by omega), e1 34 (by omega), e1 35 (by omega), e2 14 (by omega), e2 15 (by omega), e2 16 (by omega), e2 17 (by omega)]
    refine ⟨r1, r2, r3, z, r4, r5, r6, r7, fun j hj => ?_⟩
    obtain ⟨s1, t, s2, s3, s4⟩ := r8 j hj
    exact ⟨s1, t, s2, s3, by rw [h3 6 (by omega) (by omega) t s2]; exact s4⟩
  · unfold FL at hL ⊢
    rw [e1 0 (by omega), e3 1 (by omega)]
    exact hL
def cgC (σ σ' : St) : Prop := (∀ x, ¬ x = 22 → ¬ x = 23 → σ'.1 x = σ.1 x) ∧ σ'.2 = σ.2
def cgM (τ τ' : St) : Prop := (∀ x, ¬ x = 0 → ¬ x = 24 → ¬ x = 26 → ¬ x = 29 → τ'.1 x = τ.1 x) ∧ (∀ j, ¬ j = 34 → τ'.1 0 j = τ.1 0 j)
theorem cgC.rf (σ : St) : cgC σ σ := ⟨fun _ _ _ => rfl, rfl⟩
theorem cgM.rf (σ : St) : cgM σ σ := ⟨fun _ _ _ _ _ => rfl, fun _ _ => rfl⟩
theorem PK.cg (h : PK n0 n r q c k f τb σ τ) (hC : cgC σ σ') (hM : cgM τ τ') : PK n0 n r q c k f τb σ' τ' := by
  obtain ⟨⟨⟨h1, h2, hT, hL, hK, e12, e9, hD⟩, w1, w2, w3, w4⟩, g2, g3, g4, g5, g6⟩ := h
  have rw5 : ∀ c, 5 ≤ c → c ≤ 13 → τ'.1 c = τ.1 c := fun c q1 q2 => hM.1 c (by omega) (by omega) (by omega) (by omega)
  have c6 : σ'.1 6 = σ.1 6 := hC.1 6 (by omega) (by omega)
  refine ⟨⟨⟨h1, h2, hT.cong (fun c _ _ => hC.1 c (by omega) (by omega)) (by rw [hC.2]) (hM.2 8 (by omega)) rw5, hL.cong (hC.1 15 (by omega) (by omega)) rw5, hK.cong rw5 (fun c q1 q2 => hM.1 c (by omega) (by omega) (by omega) (by omega)) (hM.2 3 (by omega)), by rw [c6]; exact e12, by rw [hM.2 9 (by omega)]; exact e9, ?_⟩, w1, by rw [hC.1 25 (by omega) (by omega)]; exact w2, by rw [hM.2 28 (by omega)]; exact w3, fun j hj => by rw [hC.1 26 (by omega) (by omega), hM.1 20 (by omega) (by omega) (by omega) (by omega)]; exact w4 j hj⟩, ?_, fun c q1 q2 j hj => by rw [rw5 c q1 q2]; exact g3 c q1 q2 j hj, by rw [hM.2 0 (by omega)]; exact g4, fun t ht => by rw [rw5 7 (by omega) (by omega)]; exact g5 t ht, fun j hj => by rw [hM.1 20 (by omega) (by omega) (by omega) (by omega), rw5 6 (by omega) (by omega)]; exact g6 j hj⟩
  · unfold DP at hD ⊢
    rw [c6, rw5 7 (by omega) (by omega)]; exact hD
  · exact g2.cong5 (fun x hx => hC.1 x (by omega) (by omega)) (fun x hx => hM.1 x (by omega) (by omega) (by omega) (by omega)) (fun j hj => hM.2 j (by omega)) (fun c q1 q2 j _ => by rw [rw5 c q1 q2])
end CG
/-- how many places hold -1 -/
def unr (f : Nat → Int32) : Nat → Nat
  | 0 => 0
  | m + 1 => unr f m + (if f m = -1 then 1 else 0)
theorem unr_le (f : Nat → Int32) : ∀ m, unr f m ≤ m := by
  intro m
  induction m with
  | zero => exact Nat.le_refl 0
  | succ m ih =>
    show unr f m + (if f m = -1 then 1 else 0) ≤ m + 1
    by_cases h : f m = -1
    · rw [if_pos h]; omega
    · rw [if_neg h]; omega
theorem unr_cong {f g : Nat → Int32} : ∀ m, (∀ j, j < m → f j = g j) → unr f m = unr g m := by
  intro m
  induction m with
  | zero => intro _; rfl
  | succ m ih =>
    intro h
    show unr f m + (if f m = -1 then 1 else 0) = unr g m + (if g m = -1 then 1 else 0)
    rw [ih (fun j hj => h j (by omega)), h m (by omega)]
theorem unr_set {f g : Nat → Int32} {t : Nat} (hf : f t = -1) (hg : ¬ g t = -1) (he : ∀ j, ¬ j = t → g j = f j) : ∀ m, t < m → unr g m + 1 = unr f m := by
  intro m
  induction m with
  | zero => intro h; exact absurd h (Nat.not_lt_zero t)
  | succ m ih =>
    intro h
    show unr g m + (if g m = -1 then 1 else 0) + 1 = unr f m + (if f m = -1 then 1 else 0)
    by_cases z : t = m
    · subst z
      rw [if_neg hg, if_pos hf, unr_cong (f := g) (g := f) t (fun j hj => he j (by omega))]
    · rw [he m (by omega)]
      have := ih (by omega)
      omega
/-- a term of the same kind, its parts of the same sorts -/
theorem kd_new {τ τ' : St} {t n a m : Nat} {v : Int32} (hn : n ≤ 400) (ht : t < n) (h : kdW τ t) (k1 : ¬ τ.1 5 t = 1) (k2 : ¬ τ.1 5 t = 2) (h8 : τ.1 8 t = nI a) (ha : a < t) (hm : m < n) (e5 : τ'.1 5 n = τ.1 5 t) (e6 : τ'.1 6 n = τ.1 6 t) (e8 : τ'.1 8 n = nI m) (e9 : τ'.1 9 n = v) (e10 : τ'.1 10 n = τ.1 10 t) (er : ∀ c, 5 ≤ c → c ≤ 13 → ∀ j, j < n → τ'.1 c j = τ.1 c j)
    (s1 : τ.1 6 m = τ.1 6 a) (s4 : τ.1 5 t = 4 → m = a) (hv : (v = -1 ∧ τ.1 9 t = -1) ∨ ∃ e m', τ.1 9 t = nI e ∧ e < t ∧ v = nI m' ∧ m' < n ∧ τ.1 6 m' = τ.1 6 e) : kdW τ' n := by
  have p6 : pO (τ'.1 6) (nI m) = pO (τ.1 6) (τ.1 8 t) := by
    unfold pO
    rw [h8, if_neg (nI_ne_m1 (by omega)), if_neg (nI_ne_m1 (by omega)), nI_clamp (by omega), nI_clamp (by omega), er 6 (by omega) (by omega) m hm, s1]
  have p6' : pO (τ'.1 6) v = pO (τ.1 6) (τ.1 9 t) := by
    unfold pO
    rcases hv with ⟨rfl, h9⟩ | ⟨e, m', h9, he, rfl, hm', hs⟩
    · rw [h9, if_pos rfl, if_pos rfl]
    · rw [h9, if_neg (nI_ne_m1 (by omega)), if_neg (nI_ne_m1 (by omega)), nI_clamp (by omega), nI_clamp (by omega), er 6 (by omega) (by omega) m' hm', hs]
  have p5 : τ.1 5 t = 4 → pO (τ'.1 5) (nI m) = pO (τ.1 5) (τ.1 8 t) := fun z => by
    unfold pO
    rw [h8, s4 z, if_neg (nI_ne_m1 (by omega)), if_neg (nI_ne_m1 (by omega)), nI_clamp (by omega), er 5 (by omega) (by omega) a (by omega)]
  have n8 : (¬ nI m = -1) ↔ ¬ τ.1 8 t = -1 := by
    rw [h8]
    exact ⟨fun _ => nI_ne_m1 (by omega), fun _ => nI_ne_m1 (by omega)⟩
  have n9 : (v = -1) ↔ τ.1 9 t = -1 := by
    rcases hv with ⟨rfl, h9⟩ | ⟨e, m', h9, he, rfl, hm', hs⟩
    · exact ⟨fun _ => h9, fun _ => rfl⟩
    · rw [h9]
      exact ⟨fun z => absurd z (nI_ne_m1 (by omega)), fun z => absurd z (nI_ne_m1 (by omega))⟩
  obtain ⟨q0, q1, q3, q4, q5, q6, q7, q8, q9, q10⟩ := h
  unfold kdW
  rw [e5, e6, e8, e9, e10, n8, n9, p6, p6']
  exact ⟨q0, fun z => absurd z k1, q3, fun z => by rw [p5 z]; exact q4 z, q5, q6, q7, q8, q9, q10⟩
