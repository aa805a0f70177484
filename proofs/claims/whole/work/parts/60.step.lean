-- a step that is entered: the loops that copy the row
theorem nI_8 {k j : Nat} (h : 8 * k + j < 2147483648) : nI k * 8 + nI j = nI (8 * k + j) ∧ 8 * nI k + nI j = nI (8 * k + j) := by
  have e8 : (8 : Int32).toInt = 8 := by decide
  have a : (nI k * 8).toInt = 8 * (k : Int) := by
    rw [i_mul (by rw [i_nI (by omega), e8]; omega), i_nI (by omega), e8]; omega
  have b : (8 * nI k).toInt = 8 * (k : Int) := by
    rw [i_mul (by rw [i_nI (by omega), e8]; omega), i_nI (by omega), e8]
  constructor
  · apply Int32.toInt_inj.mp
    rw [i_add (by rw [a, i_nI (by omega)]; omega), a, i_nI (by omega), i_nI (by omega)]; omega
  · apply Int32.toInt_inj.mp
    rw [i_add (by rw [b, i_nI (by omega)]; omega), b, i_nI (by omega), i_nI (by omega)]; omega
theorem rtruth {σ : St} {r j : Nat} (hr : r ≤ 68) (h : σ.1 25 1 = nI r) (hj : j < r) : k_Ro_truth (nI j) σ ∧ f_Ro_truth (nI j) σ = σ.1 26 j := by
  have h1 : ¬ nI j < 0 := nI_pos (by omega)
  have h2 : ¬ σ.1 25 1 ≤ nI j := fun h9 => by rw [h, nI_le_iff (by omega) (by omega)] at h9; omega
  refine ⟨⟨fun h9 => absurd h9 h1, fun _ => ⟨fun h9 => absurd h9 h2, fun _ => ⟨by rw [in_iff, i_nI (by omega)]; omega, trivial⟩⟩⟩, ?_⟩
  show (if nI j < 0 then _ else (if σ.1 25 1 ≤ nI j then _ else σ.1 26 (nI j).toNatClampNeg)) = _
  rw [if_neg h1, if_neg h2, nI_clamp (by omega)]
/-- the class's copy, from the j-th truth on -/
theorem cp_C {r k : Nat} {s a : Int32} (hr : r ≤ 8) (hk : k < 60) : ∀ (d j fuel : Nat) (σ : St), j + d = r → d < fuel → σ.1 25 1 = nI r →
    k_St_add_29 fuel s a (nI k) (nI r) (nI j) σ ∧ ∃ σ', f_St_add_29 fuel s a (nI k) (nI r) (nI j) σ = (nI k, σ') ∧ σ'.2 = σ.2 ∧ (∀ c, c < 31 ∨ 35 < c → σ'.1 c = σ.1 c) ∧ σ'.1 31 = pu (σ.1 31) 4 (σ.1 31 4 + 1) ∧
      (∀ x, σ'.1 32 x = if 8 * k + j ≤ x ∧ x < 8 * k + r then σ.1 26 (x - 8 * k) else σ.1 32 x) ∧ (∀ x, σ'.1 33 x = if x = k then nI r else σ.1 33 x) ∧ (∀ x, σ'.1 34 x = if x = k then s else σ.1 34 x) ∧ ∀ x, σ'.1 35 x = if x = k then vp_nar .boolean a else σ.1 35 x := by
  have hcl : (nI k).toNatClampNeg = k := nI_clamp (by omega)
  have hin : vp_in (nI k) 60 := by rw [in_iff, i_nI (by omega)]; omega
  intro d
  induction d with
  | zero =>
    intro j fuel σ hj hf h
    obtain ⟨fuel, rfl⟩ : ∃ k, fuel = k + 1 := ⟨fuel - 1, by omega⟩
    have h1 : nI r ≤ nI j := (nI_le_iff (by omega) (by omega)).mpr (by omega)
    refine ⟨⟨fun _ => ⟨hin, hin, hin, trivial⟩, fun h9 => absurd h1 h9⟩, sF (sA (sA (sA σ 33 (nI k) (nI r)) 34 (nI k) s) 35 (nI k) (vp_nar .boolean a)) 31 4 (σ.1 31 4 + 1), ?_, rfl, fun c hc => ?_, rfl, fun x => ?_, fun x => ?_, fun x => ?_, fun x => ?_⟩
    · show (if nI r ≤ nI j then (nI k, sF (sA (sA (sA σ 33 (nI k) (nI r)) 34 (nI k) s) 35 (nI k) (vp_nar .boolean a)) 31 4 (σ.1 31 4 + 1)) else _) = _
      rw [if_pos h1]
    · show pu (pu (pu (pu σ.1 33 _) 34 _) 35 _) 31 _ c = _
      rw [pu_at, if_neg (by omega), pu_at, if_neg (by omega), pu_at, if_neg (by omega), pu_at, if_neg (by omega)]
    · rw [if_neg (by omega)]; rfl
    · show upd (σ.1 33) (nI k).toNatClampNeg (nI r) x = _
      rw [upd_at, hcl]
    · show upd (σ.1 34) (nI k).toNatClampNeg s x = _
      rw [upd_at, hcl]
    · show upd (σ.1 35) (nI k).toNatClampNeg _ x = _
      rw [upd_at, hcl]
  | succ d ih =>
    intro j fuel σ hj hf h
    obtain ⟨fuel, rfl⟩ : ∃ k, fuel = k + 1 := ⟨fuel - 1, by omega⟩
    have h1 : ¬ nI r ≤ nI j := fun h9 => by have := (nI_le_iff (by omega) (by omega)).mp h9; omega
    have hc8 : (nI (8 * k + j)).toNatClampNeg = 8 * k + j := nI_clamp (by omega)
    obtain ⟨t1, t2⟩ := rtruth (by omega) h (j := j) (by omega)
    have e8 := (nI_8 (k := k) (j := j) (by omega)).1
    obtain ⟨g1, σ', g2, g3, g4, g5, g6, g7, g8, g9⟩ := ih (j + 1) fuel (sA σ 32 (nI (8 * k + j)) (σ.1 26 j)) (by omega) (by omega) h
    have hx : ∀ x, (sA σ 32 (nI (8 * k + j)) (σ.1 26 j)).1 32 x = if x = 8 * k + j then σ.1 26 j else σ.1 32 x := fun x => by
      show upd (σ.1 32) (nI (8 * k + j)).toNatClampNeg (σ.1 26 j) x = _
      rw [upd_at, hc8]
    have ho : ∀ c, ¬ c = 32 → (sA σ 32 (nI (8 * k + j)) (σ.1 26 j)).1 c = σ.1 c := fun c hc => by
      show pu σ.1 32 _ c = _
      rw [pu_at, if_neg hc]
    refine ⟨⟨fun h9 => absurd h9 h1, fun _ => ⟨t1, by rw [e8, in_iff, i_nI (by omega)]; omega, ?_⟩⟩, σ', ?_, g3, fun c hc => ?_, ?_, fun x => ?_, fun x => ?_, fun x => ?_, fun x => ?_⟩
    · show k_St_add_29 fuel s a (nI k) (nI r) (nI j + 1) (sA σ 32 (nI k * 8 + nI j) (f_Ro_truth (nI j) σ))
      rw [e8, t2, ← nI_succ]; exact g1
    · show (if nI r ≤ nI j then _ else f_St_add_29 fuel s a (nI k) (nI r) (nI j + 1) (sA σ 32 (nI k * 8 + nI j) (f_Ro_truth (nI j) σ))) = _
      rw [if_neg h1, e8, t2, ← nI_succ]; exact g2
    · rw [g4 c hc]; exact ho c (by omega)
    · rw [g5]; rfl
    · rw [g6 x, hx]
      show (if 8 * k + (j + 1) ≤ x ∧ x < 8 * k + r then σ.1 26 (x - 8 * k) else _) = _
      by_cases q1 : x = 8 * k + j
      · rw [if_neg (by omega), if_pos q1, if_pos (by omega), q1, show 8 * k + j - 8 * k = j by omega]
      · by_cases q2 : 8 * k + (j + 1) ≤ x ∧ x < 8 * k + r
        · rw [if_pos q2, if_pos (by omega)]
        · rw [if_neg q2, if_neg q1, if_neg (by omega)]
    · rw [g7 x]; rfl
    · rw [g8 x]; rfl
    · rw [g9 x]; rfl
/-- the reference's copy -/
theorem cp_M {r k : Nat} {s : Int32} (hr : r ≤ 8) (hk : k < 60) : ∀ (d j fuel : Nat) (τ : St), j + d = r → d < fuel → τ.1 0 28 = nI r → τ.1 0 19 = nI k →
    k_Mo_enter_50 fuel s (nI j) τ ∧ ∃ τ', f_Mo_enter_50 fuel s (nI j) τ = (nI k, τ') ∧ τ'.2 = τ.2 ∧ (∀ c, (1 ≤ c ∧ c < 14) ∨ 17 < c → τ'.1 c = τ.1 c) ∧ τ'.1 0 = pu (τ.1 0) 19 (nI (k + 1)) ∧
      (∀ x, τ'.1 15 x = if 8 * k + j ≤ x ∧ x < 8 * k + r then τ.1 20 (x - 8 * k) else τ.1 15 x) ∧ (∀ x, τ'.1 14 x = if x = k then nI r else τ.1 14 x) ∧ (∀ x, τ'.1 16 x = if x = k then s else τ.1 16 x) ∧ ∀ x, τ'.1 17 x = if x = k then 0 else τ.1 17 x := by
  have hcl : (nI k).toNatClampNeg = k := nI_clamp (by omega)
  have hin : vp_in (nI k) 60 := by rw [in_iff, i_nI (by omega)]; omega
  have b0 : vp_nar .boolean 0 = 0 := by decide +kernel
  intro d
  induction d with
  | zero =>
    intro j fuel τ hj hf h h19
    obtain ⟨fuel, rfl⟩ : ∃ k, fuel = k + 1 := ⟨fuel - 1, by omega⟩
    have h1 : τ.1 0 28 ≤ nI j := by rw [h]; exact (nI_le_iff (by omega) (by omega)).mpr (by omega)
    refine ⟨⟨fun _ => ⟨by rw [h19]; exact hin, ?_⟩, fun h9 => absurd h1 h9⟩, sF (sA (sA (sA τ 14 (nI k) (nI r)) 16 (nI k) s) 17 (nI k) 0) 0 19 (nI k + 1), ?_, rfl, fun c hc => ?_, by rw [nI_succ]; rfl, fun x => ?_, fun x => ?_, fun x => ?_, fun x => ?_⟩
    · rw [h19]
      refine ⟨?_, ?_, trivial⟩
      · show vp_in (τ.1 0 19) 60
        rw [h19]; exact hin
      · show vp_in (τ.1 0 19) 60
        rw [h19]; exact hin
    · show (if τ.1 0 28 ≤ nI j then (τ.1 0 19 + 1 - 1, sF (sA (sA (sA τ 14 (τ.1 0 19) (τ.1 0 28)) 16 (τ.1 0 19) s) 17 (τ.1 0 19) (vp_nar .boolean 0)) 0 19 (τ.1 0 19 + 1)) else _) = _
      rw [if_pos h1, h19, h, b0, ← nI_succ, nI_pred]
    · show pu (pu (pu (pu τ.1 14 _) 16 _) 17 _) 0 _ c = _
      rw [pu_at, if_neg (by omega), pu_at, if_neg (by omega), pu_at, if_neg (by omega), pu_at, if_neg (by omega)]
    · rw [if_neg (by omega)]; rfl
    · show upd (τ.1 14) (nI k).toNatClampNeg (nI r) x = _
      rw [upd_at, hcl]
    · show upd (τ.1 16) (nI k).toNatClampNeg s x = _
      rw [upd_at, hcl]
    · show upd (τ.1 17) (nI k).toNatClampNeg 0 x = _
      rw [upd_at, hcl]
  | succ d ih =>
    intro j fuel τ hj hf h h19
    obtain ⟨fuel, rfl⟩ : ∃ k, fuel = k + 1 := ⟨fuel - 1, by omega⟩
    have h1 : ¬ τ.1 0 28 ≤ nI j := fun h9 => by rw [h] at h9; have := (nI_le_iff (by omega) (by omega)).mp h9; omega
    have hc8 : (nI (8 * k + j)).toNatClampNeg = 8 * k + j := nI_clamp (by omega)
    have hcj : (nI j).toNatClampNeg = j := nI_clamp (by omega)
    have e8 := (nI_8 (k := k) (j := j) (by omega)).2
    obtain ⟨g1, τ', g2, g3, g4, g5, g6, g7, g8, g9⟩ := ih (j + 1) fuel (sA τ 15 (nI (8 * k + j)) (τ.1 20 j)) (by omega) (by omega) h h19
    have hx : ∀ x, (sA τ 15 (nI (8 * k + j)) (τ.1 20 j)).1 15 x = if x = 8 * k + j then τ.1 20 j else τ.1 15 x := fun x => by
      show upd (τ.1 15) (nI (8 * k + j)).toNatClampNeg (τ.1 20 j) x = _
      rw [upd_at, hc8]
    have ho : ∀ c, ¬ c = 15 → (sA τ 15 (nI (8 * k + j)) (τ.1 20 j)).1 c = τ.1 c := fun c hc => by
      show pu τ.1 15 _ c = _
      rw [pu_at, if_neg hc]
    refine ⟨⟨fun h9 => absurd h9 h1, fun _ => ⟨by rw [in_iff, i_nI (by omega)]; omega, by rw [h19, e8, in_iff, i_nI (by omega)]; omega, ?_⟩⟩, τ', ?_, g3, fun c hc => ?_, ?_, fun x => ?_, fun x => ?_, fun x => ?_, fun x => ?_⟩
    · show k_Mo_enter_50 fuel s (nI j + 1) (sA τ 15 (8 * τ.1 0 19 + nI j) (τ.1 20 (nI j).toNatClampNeg))
      rw [h19, e8, hcj, ← nI_succ]; exact g1
    · show (if τ.1 0 28 ≤ nI j then _ else f_Mo_enter_50 fuel s (nI j + 1) (sA τ 15 (8 * τ.1 0 19 + nI j) (τ.1 20 (nI j).toNatClampNeg))) = _
      rw [if_neg h1, h19, e8, hcj, ← nI_succ]; exact g2
    · rw [g4 c hc]; exact ho c (by omega)
    · rw [g5]; rfl
    · rw [g6 x, hx]
      show (if 8 * k + (j + 1) ≤ x ∧ x < 8 * k + r then τ.1 20 (x - 8 * k) else _) = _
      by_cases q1 : x = 8 * k + j
      · rw [if_neg (by omega), if_pos q1, if_pos (by omega), q1, show 8 * k + j - 8 * k = j by omega]
      · by_cases q2 : 8 * k + (j + 1) ≤ x ∧ x < 8 * k + r
        · rw [if_pos q2, if_pos (by omega)]
        · rw [if_neg q2, if_neg q1, if_neg (by omega)]
    · rw [g7 x]; rfl
    · rw [g8 x]; rfl
    · rw [g9 x]; rfl
