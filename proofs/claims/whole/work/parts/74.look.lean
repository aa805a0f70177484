-- clause, empty
section LK
variable {n q c k f : Nat} {σ τ : St}
theorem sthas_iff {a : Int32} (hk : k ≤ 60) (h : σ.1 31 4 = nI k) : f_St_has a σ = 0 ↔ ¬ (0 ≤ a.toInt ∧ a.toInt < k) := by
  show (if a < 0 then (0 : Int32) else (if σ.1 31 4 ≤ a then 0 else 1)) = 0 ↔ _
  rw [h]
  by_cases h1 : a < 0
  · rw [if_pos h1]
    rw [Int32.lt_iff_toInt_lt, Int32.toInt_zero] at h1
    exact ⟨fun _ => by omega, fun _ => rfl⟩
  · rw [if_neg h1]
    rw [Int32.lt_iff_toInt_lt, Int32.toInt_zero] at h1
    by_cases h2 : nI k ≤ a
    · rw [if_pos h2]
      rw [Int32.le_iff_toInt_le, i_nI (by omega)] at h2
      exact ⟨fun _ => by omega, fun _ => rfl⟩
    · rw [if_neg h2]
      rw [Int32.le_iff_toInt_le, i_nI (by omega)] at h2
      exact ⟨fun h => absurd h (by decide), fun h => absurd ⟨by omega, by omega⟩ h⟩
theorem op_clause (a b : Int32) (h : IV n q c k f σ τ) : k_CL_clause a b σ ∧ k_Mo_clause a b τ ∧ f_CL_clause a b σ = (f_Mo_clause a b τ).1 ∧ (f_Mo_clause a b τ).2 = sF τ 0 0 0 := by
  obtain ⟨-, -, -, -, -, -, -, hR⟩ := h
  obtain ⟨p1, p2, p3, p4⟩ := hR.2.2.2.1
  have khas : k_St_has a σ := ⟨fun _ => ⟨rfl, trivial⟩, fun _ => ⟨fun _ => ⟨rfl, trivial⟩, fun _ => ⟨rfl, trivial⟩⟩⟩
  have n0 : (a < 0) ↔ a.toInt < 0 := by rw [Int32.lt_iff_toInt_lt, Int32.toInt_zero]
  have b0 : (b < 0) ↔ b.toInt < 0 := by rw [Int32.lt_iff_toInt_lt, Int32.toInt_zero]
  have b1 : (b < -1) ↔ b.toInt < -1 := by rw [Int32.lt_iff_toInt_lt]; rfl
  have b2 : ((0 : Int32) ≤ b) ↔ 0 ≤ b.toInt := by rw [Int32.le_iff_toInt_le, Int32.toInt_zero]
  have e19 : (τ.1 0 19 ≤ a) ↔ (k : Int) ≤ a.toInt := by rw [p3, Int32.le_iff_toInt_le, i_nI (by omega)]
  have eM : f_Mo_clause a b τ = if a < 0 then (-1, sF τ 0 0 0) else (if τ.1 0 19 ≤ a then (-1, sF τ 0 0 0) else (if b < -1 then (-1, sF τ 0 0 0) else (if b < τ.1 14 a.toNatClampNeg then (if 0 ≤ b then (τ.1 15 (8 * a + b).toNatClampNeg, sF τ 0 0 0) else (τ.1 14 a.toNatClampNeg, sF τ 0 0 0)) else (-1, sF τ 0 0 0)))) := rfl
  have eC : f_CL_clause a b σ = if b = -1 then f_St_sizeOf a σ else f_St_truthOf a b σ := rfl
  have eT : f_St_truthOf a b σ = if b < 0 then -1 else (if f_St_sizeOf a σ ≤ b then -1 else σ.1 32 (a * 8 + b).toNatClampNeg) := rfl
  have eS : f_St_sizeOf a σ = if f_St_has a σ = 0 then -1 else σ.1 33 a.toNatClampNeg := rfl
  rcases arg_cases a k with ha | ⟨i, hi, rfl⟩
  · have h0 : f_St_has a σ = 0 := (sthas_iff p1 p2).mpr ha
    have s1 : f_St_sizeOf a σ = -1 := by rw [eS, if_pos h0]
    have ks : k_St_sizeOf a σ := ⟨khas, fun _ => trivial, fun z => absurd h0 z⟩
    have big : ¬ b < 0 → f_St_sizeOf a σ ≤ b := fun z => by
      rw [s1, Int32.le_iff_toInt_le]; rw [b0] at z
      show (-1 : Int) ≤ _; omega
    have t1 : f_St_truthOf a b σ = -1 := by
      rw [eT]
      by_cases z : b < 0
      · rw [if_pos z]
      · rw [if_neg z, if_pos (big z)]
    have hm : a < 0 ∨ τ.1 0 19 ≤ a := by rw [n0, e19]; omega
    have eM2 : f_Mo_clause a b τ = (-1, sF τ 0 0 0) := by
      rw [eM]
      by_cases z : a < 0
      · rw [if_pos z]
      · rw [if_neg z, if_pos (hm.resolve_left z)]
    refine ⟨⟨fun _ => ⟨ks, trivial⟩, fun _ => ⟨⟨fun _ => trivial, fun z => ⟨ks, fun _ => trivial, fun z2 => absurd (big z) z2⟩⟩, trivial⟩⟩, ⟨fun _ => trivial, fun z => ⟨fun _ => trivial, fun z2 => absurd (hm.resolve_left z) z2⟩⟩, ?_, by rw [eM2]⟩
    rw [eC, eM2, s1, t1, ite_self]
  · obtain ⟨-, -, -, z, x1, x2, x3, -, x4⟩ := p4 i hi
    have hcl : (nI i).toNatClampNeg = i := nI_clamp (by omega)
    have hin : vp_in (nI i) 60 := by rw [in_iff, i_nI (by omega)]; omega
    obtain ⟨s1, s2⟩ := sz_C p1 p2 hi x2
    have na : ¬ nI i < 0 := nI_pos (by omega)
    have nb : ¬ τ.1 0 19 ≤ nI i := by rw [e19, i_nI (by omega)]; omega
    have bz : (b < τ.1 14 (nI i).toNatClampNeg) ↔ b.toInt < z := by rw [hcl, x3, Int32.lt_iff_toInt_lt, i_nI (by omega)]
    have cz : (f_St_sizeOf (nI i) σ ≤ b) ↔ (z : Int) ≤ b.toInt := by rw [s2, Int32.le_iff_toInt_le, i_nI (by omega)]
    have ix : 0 ≤ b.toInt → b.toInt < z → ∃ j, j < z ∧ b = nI j ∧ nI i * 8 + b = nI (8 * i + j) ∧ 8 * nI i + b = nI (8 * i + j) := fun w1 w2 => by
      refine ⟨b.toInt.toNat, by omega, nJ_of w1, ?_, ?_⟩
      · rw [nJ_of w1]; rw [i_nI (by omega)]; exact (nI_8 (by omega)).1
      · rw [nJ_of w1]; rw [i_nI (by omega)]; exact (nI_8 (by omega)).2
    have kT : k_St_truthOf (nI i) b σ := ⟨fun _ => trivial, fun w => ⟨s1, fun _ => trivial, fun w2 => ⟨by
      rw [b0] at w; rw [cz] at w2
      obtain ⟨j, j1, j2, j3, j4⟩ := ix (by omega) (by omega)
      rw [j3, in_iff, i_nI (by omega)]; omega, trivial⟩⟩⟩
    have kM : k_Mo_clause (nI i) b τ := ⟨fun w => absurd w na, fun _ => ⟨fun w => absurd w nb, fun _ => ⟨fun _ => trivial, fun w1 => ⟨hin, fun w2 => ⟨fun w3 => ⟨by
      have w2 : b < τ.1 14 (nI i).toNatClampNeg := w2
      rw [bz] at w2; rw [b2] at w3
      obtain ⟨j, j1, j2, j3, j4⟩ := ix w3 w2
      rw [j4, in_iff, i_nI (by omega)]; omega, trivial⟩, fun _ => ⟨hin, trivial⟩⟩, fun _ => trivial⟩⟩⟩⟩
    refine ⟨⟨fun _ => ⟨s1, trivial⟩, fun _ => ⟨kT, trivial⟩⟩, kM, ?_, ?_⟩
    · rw [eC, eM, if_neg na, if_neg nb, eT]
      by_cases w1 : b = -1
      · have w2 : b.toInt = -1 := (m1_iff b).mp w1
        rw [if_pos w1, if_neg (by rw [b1]; omega), if_pos (by rw [bz]; omega), if_neg (by rw [b2]; omega), s2, hcl, x3]
      · rw [if_neg w1]
        rw [m1_iff] at w1
        by_cases w2 : b < 0
        · rw [if_pos w2]
          rw [b0] at w2
          rw [if_pos (by rw [b1]; omega)]
        · rw [if_neg w2]
          rw [b0] at w2
          rw [if_neg (show ¬ b < -1 by rw [b1]; omega)]
          by_cases w3 : f_St_sizeOf (nI i) σ ≤ b
          · rw [if_pos w3]
            rw [cz] at w3
            rw [if_neg (show ¬ b < τ.1 14 (nI i).toNatClampNeg by rw [bz]; omega)]
          · rw [if_neg w3]
            rw [cz] at w3
            rw [if_pos (show b < τ.1 14 (nI i).toNatClampNeg by rw [bz]; omega), if_pos (show (0 : Int32) ≤ b by rw [b2]; omega)]
            obtain ⟨j, j1, j2, j3, j4⟩ := ix (by omega) (by omega)
            rw [j3, j4, nI_clamp (by omega)]
            exact (x4 j j1).1
    · rw [eM, if_neg na, if_neg nb]
      by_cases w1 : b < -1
      · rw [if_pos w1]
      · rw [if_neg w1]
        by_cases w2 : b < τ.1 14 (nI i).toNatClampNeg
        · rw [if_pos w2]
          by_cases w3 : (0 : Int32) ≤ b
          · rw [if_pos w3]
          · rw [if_neg w3]
        · rw [if_neg w2]
end LK
