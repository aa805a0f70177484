-- sort, symbol, variable, draft, on the invariant
section SGO
variable {n q c k f : Nat} {σ τ : St}
theorem sgW.mono {a b : Nat} {s x y : Int32} (h : sgW a s x y) (hab : a ≤ b) : sgW b s x y := by
  obtain ⟨⟨i, h1, h2⟩, h3, h4, h5⟩ := h
  refine ⟨⟨i, by omega, h2⟩, ?_, ?_, h5⟩
  · rcases h3 with h3 | ⟨j, q1, q2⟩
    · exact Or.inl h3
    · exact Or.inr ⟨j, by omega, q2⟩
  · rcases h4 with h4 | ⟨j, q1, q2⟩
    · exact Or.inl h4
    · exact Or.inr ⟨j, by omega, q2⟩
theorem rw_sF (n j : Nat) (τ : St) (v : Int32) : rwM n τ (sF τ 0 j v) := fun c0 q1 q2 x hx => by
  rw [sF1c, if_neg (by omega)]
theorem op_sort (h : IV n q c k f σ τ) : k_CL_sort σ ∧ k_Mo_sort τ ∧ (f_CL_sort σ).1 = (f_Mo_sort τ).1 ∧ IV n q c k f (f_CL_sort σ).2 (f_Mo_sort τ).2 ∧ rwM n τ (f_Mo_sort τ).2 := by
  obtain ⟨h1, hT, hL, hK, h2, h3, h4, ⟨ns, ny, g1, g2, g3, g4, g5, g6, g7, g8, g9⟩, hF, hC, hP, hfl⟩ := h
  have e1 : (σ.1 1 4 < 5) ↔ ns < 5 := by rw [g4]; exact nI_lt_iff (b := 5) (by omega) (by omega)
  have e2 : (τ.1 0 2 = 5) ↔ ns = 5 := by rw [g5]; exact nI_inj (b := 5) (by omega) (by omega)
  have eC : f_CL_sort σ = if σ.1 1 4 < 5 then (σ.1 1 4 + 1 - 1, sF σ 1 4 (σ.1 1 4 + 1)) else (-1, σ) := by
    show ((if σ.1 1 4 < 5 then (σ.1 1 4 + 1 - 1, sF σ 1 4 (σ.1 1 4 + 1)) else ((-1 : Int32), σ)).1, (if σ.1 1 4 < 5 then (σ.1 1 4 + 1 - 1, sF σ 1 4 (σ.1 1 4 + 1)) else ((-1 : Int32), σ)).2) = _
    rfl
  have eM : f_Mo_sort τ = if τ.1 0 2 = 5 then (-1, sF τ 0 0 0) else (τ.1 0 2 + 1 - 1, sF (sF τ 0 0 0) 0 2 (τ.1 0 2 + 1)) := rfl
  refine ⟨⟨⟨fun _ => trivial, fun _ => trivial⟩, trivial⟩, ⟨fun _ => trivial, fun _ => trivial⟩, ?_⟩
  rw [eC, eM]
  by_cases h5 : ns = 5
  · rw [if_neg (fun z => by have := e1.mp z; omega), if_pos (e2.mpr h5)]
    exact ⟨rfl, ⟨h1, hT, hL, hK, h2, h3, h4, ⟨ns, ny, g1, g2, g3, g4, g5, g6, g7, g8, g9⟩, hF, hC, hP, hfl⟩, rw_sF n 0 τ 0⟩
  · rw [if_pos (e1.mpr (by omega)), if_neg (fun z => h5 (e2.mp z)), g4, g5]
    refine ⟨rfl, ⟨h1, hT, hL, hK, h2, h3, h4, ⟨ns + 1, ny, by omega, by omega, g3, ?_, ?_, g6, g7, fun j hj => ?_, fun j hj => ?_⟩, hF, hC, hP, hfl⟩, (rw_sF n 0 τ 0).tr (rw_sF n 2 _ _) (Nat.le_refl _)⟩
    · rw [nI_succ]; rfl
    · rw [nI_succ]; rfl
    · obtain ⟨a1, a2, a3, a4⟩ := g8 j hj
      exact ⟨a1, a2, a3, a4.mono (Nat.le_succ _)⟩
    · obtain ⟨a1, i, a2, a3⟩ := g9 j hj
      exact ⟨a1, i, by omega, a3⟩
theorem op_symbol (a b d : Int32) (h : IV n q c k f σ τ) : k_CL_symbol a b d σ ∧ k_Mo_symbol a b d τ ∧ (f_CL_symbol a b d σ).1 = (f_Mo_symbol a b d τ).1 ∧ IV n q c k f (f_CL_symbol a b d σ).2 (f_Mo_symbol a b d τ).2 ∧ rwM n τ (f_Mo_symbol a b d τ).2 := by
  obtain ⟨h1, hT, hL, hK, h2, h3, h4, ⟨ns, ny, g1, g2, g3, g4, g5, g6, g7, g8, g9⟩, hF, hC, hP, hfl⟩ := h
  obtain ⟨a1, a2, a3⟩ := sy_C g4 g2 g6 g3 a b d
  obtain ⟨b1, b2, b3⟩ := sy_M g5 g2 g7 g3 a b d
  refine ⟨a1, b1, ?_⟩
  by_cases hp : syP ns ny a b d
  · rw [a2 hp, b2 hp]
    obtain ⟨p1, p2, p3, p4, p5, p6, p7, p8⟩ := hp
    have hcl : (nI ny).toNatClampNeg = ny := nI_clamp (by omega)
    have opt : ∀ x : Int32, -1 ≤ x.toInt → x.toInt < ns → x = -1 ∨ ∃ i, i < ns ∧ x = nI i := fun x w1 w2 => by
      by_cases w3 : x.toInt = -1
      · exact Or.inl ((m1_iff x).mpr w3)
      · exact Or.inr ⟨x.toInt.toNat, by omega, nJ_of (by omega)⟩
    have hSY : SY n (syM a b d τ) := by
      obtain ⟨ny', y1, y2, y3⟩ := hK.2
      have ey : ny' = ny := by rw [g7] at y2; exact ((nI_inj (by omega) (by omega)).mp y2).symm
      refine ⟨ny + 1, by omega, ?_, fun t ht => ?_⟩
      · show τ.1 0 3 + 1 = _
        rw [g7, nI_succ]
      · obtain ⟨w1, w2⟩ := y3 t ht
        refine ⟨fun z => ?_, w2⟩
        obtain ⟨i, i1, i2, i3, i4, i5⟩ := w1 z
        refine ⟨i, by omega, i2, ?_, ?_, ?_⟩
        · show _ ↔ upd (τ.1 2) (τ.1 0 3).toNatClampNeg b i = -1
          rw [upd_at, g7, hcl, if_neg (by omega)]; exact i3
        · show _ ↔ upd (τ.1 3) (τ.1 0 3).toNatClampNeg d i = -1
          rw [upd_at, g7, hcl, if_neg (by omega)]; exact i4
        · show _ = upd (τ.1 1) (τ.1 0 3).toNatClampNeg a i
          rw [upd_at, g7, hcl, if_neg (by omega)]; exact i5
    refine ⟨rfl, ⟨h1, hT, hL, ⟨hK.1, hSY⟩, h2, h3, h4, ⟨ns, ny + 1, g1, g2, by omega, g4, g5, ?_, ?_, fun j hj => ?_, g9⟩, hF, hC, hP, hfl⟩, fun c0 q1 q2 x hx => ?_⟩
    · show σ.1 1 5 + 1 = _
      rw [g6, nI_succ]
    · show τ.1 0 3 + 1 = _
      rw [g7, nI_succ]
    · show upd (σ.1 2) (σ.1 1 5).toNatClampNeg a j = upd (τ.1 1) (τ.1 0 3).toNatClampNeg a j ∧ upd (σ.1 3) (σ.1 1 5).toNatClampNeg b j = upd (τ.1 2) (τ.1 0 3).toNatClampNeg b j ∧ upd (σ.1 4) (σ.1 1 5).toNatClampNeg d j = upd (τ.1 3) (τ.1 0 3).toNatClampNeg d j ∧ sgW ns (upd (τ.1 1) (τ.1 0 3).toNatClampNeg a j) (upd (τ.1 2) (τ.1 0 3).toNatClampNeg b j) (upd (τ.1 3) (τ.1 0 3).toNatClampNeg d j)
      rw [g6, g7, hcl, upd_at, upd_at, upd_at, upd_at, upd_at, upd_at]
      by_cases e : j = ny
      · rw [if_pos e, if_pos e, if_pos e, if_pos e, if_pos e, if_pos e]
        exact ⟨rfl, rfl, rfl, ⟨a.toInt.toNat, by omega, nJ_of p2⟩, opt b p4 p5, opt d p6 p7, fun w => (m1_iff d).mpr (p8 ((m1_iff b).mp w))⟩
      · rw [if_neg e, if_neg e, if_neg e, if_neg e, if_neg e, if_neg e]
        exact g8 j (by omega)
    · unfold syM
      have w0 : ¬ c0 = 0 := by omega
      have w1 : ¬ c0 = 1 := by omega
      have w2 : ¬ c0 = 2 := by omega
      have w3 : ¬ c0 = 3 := by omega
      simp only [sF1c, sA1c, w0, w1, w2, w3, false_and, if_false]
  · rw [a3 hp, b3 hp]
    exact ⟨rfl, ⟨h1, hT, hL, hK, h2, h3, h4, ⟨ns, ny, g1, g2, g3, g4, g5, g6, g7, g8, g9⟩, hF, hC, hP, hfl⟩, rw_sF n 0 τ 0⟩
theorem op_draft (s : Int64) (h : IV n q c k f σ τ) : k_CL_draft s σ ∧ k_Mo_draft s τ ∧ (f_CL_draft s σ).1 = (f_Mo_draft s τ).1 ∧ IV n q c k f (f_CL_draft s σ).2 (f_Mo_draft s τ).2 ∧ rwM n τ (f_Mo_draft s τ).2 := by
  obtain ⟨h1, hT, hL, hK, h2, h3, h4, hG, hF, hC, hP, hfl⟩ := h
  obtain ⟨k1, k2, d1, d2, d3, d4, d5, d6, d7, d8⟩ := dr_draft s hF
  have zM : ∀ c0, ¬ c0 = 0 → ¬ c0 = 21 → (f_Mo_draft s τ).2.1 c0 = τ.1 c0 := fun c0 q1 q2 => by
    rw [d7 c0 q1 q2]
    show pu τ.1 0 _ c0 = _
    rw [pu_at, if_neg q1]
  have z0 : ∀ j, ¬ j = 30 → ¬ j = 0 → (f_Mo_draft s τ).2.1 0 j = τ.1 0 j := fun j q1 q2 => by
    rw [d8 j q1]
    show pu (τ.1 0) 0 _ j = _
    rw [pu_at, if_neg q2]
  have zM' : ∀ c0, 5 ≤ c0 → c0 ≤ 13 → (f_Mo_draft s τ).2.1 c0 = τ.1 c0 := fun c0 q1 q2 => zM c0 (by omega) (by omega)
  refine ⟨k1, k2, d1, ⟨h1, hT.cong (fun c0 q1 q2 => d6 c0 (by omega) (by omega)) (by rw [d4]) (z0 8 (by omega) (by omega)) zM', hL.cong (d6 15 (by omega) (by omega)) zM', hK.cong zM' (fun c0 q1 q2 => zM c0 (by omega) (by omega)) (z0 3 (by omega) (by omega)), ?_, ?_, fun t ht => ?_, ?_, d3, ?_, ?_, ?_⟩, fun c0 q1 q2 x hx => by rw [zM' c0 q1 q2]⟩
  · rw [d6 6 (by omega) (by omega)]; exact h2
  · rw [d6 6 (by omega) (by omega)]; exact h3
  · rw [zM' 7 (by omega) (by omega)]; exact h4 t ht
  · exact hG.cong (fun c0 q1 q2 => d6 c0 (by omega) (by omega)) (fun c0 q1 q2 => zM c0 (by omega) (by omega)) (fun j q1 q2 => z0 j (by omega) (by omega))
  · unfold SC at hC ⊢
    rw [d6 27 (by omega) (by omega), d6 28 (by omega) (by omega), d6 29 (by omega) (by omega), d6 30 (by omega) (by omega), zM 18 (by omega) (by omega), zM 19 (by omega) (by omega), z0 24 (by omega) (by omega), z0 25 (by omega) (by omega)]
    exact hC
  · unfold SP at hP ⊢
    rw [d6 31 (by omega) (by omega), d6 32 (by omega) (by omega), d6 33 (by omega) (by omega), d6 34 (by omega) (by omega), d6 35 (by omega) (by omega), zM 14 (by omega) (by omega), zM 15 (by omega) (by omega), zM 16 (by omega) (by omega), zM 17 (by omega) (by omega), zM 6 (by omega) (by omega), z0 19 (by omega) (by omega)]
    exact hP
  · unfold FL at hfl ⊢
    rw [d6 0 (by omega) (by omega), z0 1 (by omega) (by omega)]
    exact hfl
end SGO
