-- empty, look
section EM
variable {n q c k f : Nat} {σ τ : St}
theorem em_loop (hk : k ≤ 60) (p2 : σ.1 31 4 = nI k) (p3 : τ.1 0 19 = nI k) (p4 : ∀ i, i < k → σ.1 34 i = τ.1 16 i ∧ (∃ s, s ≤ 20 ∧ τ.1 16 i = nI s) ∧ ∃ z, z ≤ 8 ∧ σ.1 33 i = nI z ∧ τ.1 14 i = nI z) :
    ∀ (d i fuel fuel' : Nat), i + d = k → d < fuel → d < fuel' → k_CL_empty_2 fuel (nI i) σ ∧ k_Mo_empty_7 fuel' (nI i) τ ∧ f_Mo_empty_7 fuel' (nI i) τ = (f_CL_empty_2 fuel (nI i) σ, τ) := by
  intro d
  induction d with
  | zero =>
    intro i fuel fuel' hi h1 h2
    obtain ⟨fuel, rfl⟩ : ∃ k, fuel = k + 1 := ⟨fuel - 1, by omega⟩
    obtain ⟨fuel', rfl⟩ : ∃ k, fuel' = k + 1 := ⟨fuel' - 1, by omega⟩
    obtain rfl : i = k := by omega
    have a1 : f_St_count σ ≤ nI i := by
      show σ.1 31 4 ≤ nI i
      rw [p2]; exact (nI_le_iff (by omega) (by omega)).mpr (Nat.le_refl _)
    have a2 : τ.1 0 19 ≤ nI i := by rw [p3]; exact (nI_le_iff (by omega) (by omega)).mpr (Nat.le_refl _)
    have e1 : f_CL_empty_2 (fuel + 1) (nI i) σ = -1 := by
      show (if f_St_count σ ≤ nI i then (-1 : Int32) else _) = _
      rw [if_pos a1]
    refine ⟨⟨trivial, fun _ => trivial, fun z => absurd a1 z⟩, ⟨fun _ => ⟨fun _ => trivial, fun _ => trivial⟩, fun z => absurd a2 z⟩, ?_⟩
    rw [e1]
    show (if τ.1 0 19 ≤ nI i then (if τ.1 0 19 ≤ nI i then ((-1 : Int32), τ) else _) else _) = _
    rw [if_pos a2, if_pos a2]
  | succ d ih =>
    intro i fuel fuel' hi h1 h2
    obtain ⟨fuel, rfl⟩ : ∃ k, fuel = k + 1 := ⟨fuel - 1, by omega⟩
    obtain ⟨fuel', rfl⟩ : ∃ k, fuel' = k + 1 := ⟨fuel' - 1, by omega⟩
    have hik : i < k := by omega
    have hcl : (nI i).toNatClampNeg = i := nI_clamp (by omega)
    have hin : vp_in (nI i) 60 := by rw [in_iff, i_nI (by omega)]; omega
    have a1 : ¬ f_St_count σ ≤ nI i := fun z => by
      have z : σ.1 31 4 ≤ nI i := z
      rw [p2, nI_le_iff (by omega) (by omega)] at z; omega
    have a2 : ¬ τ.1 0 19 ≤ nI i := fun z => by rw [p3, nI_le_iff (by omega) (by omega)] at z; omega
    obtain ⟨r1, ⟨s, r2, r3⟩, z, z1, z2, z3⟩ := p4 i hik
    obtain ⟨s1, s2⟩ := sz_C hk p2 hik z2
    have h0 : ¬ f_St_has (nI i) σ = 0 := fun w => (sthas_iff hk p2).mp w (by rw [i_nI (by omega)]; omega)
    have khas : k_St_has (nI i) σ := ⟨fun _ => ⟨rfl, trivial⟩, fun _ => ⟨fun _ => ⟨rfl, trivial⟩, fun _ => ⟨rfl, trivial⟩⟩⟩
    have es : f_St_scopeOf (nI i) σ = nI s := by
      show (if f_St_has (nI i) σ = 0 then (-1 : Int32) else σ.1 34 (nI i).toNatClampNeg) = _
      rw [if_neg h0, hcl, r1, r3]
    have ks : k_St_scopeOf (nI i) σ := ⟨khas, fun w => absurd w h0, fun _ => ⟨hin, trivial⟩⟩
    have c1 : (f_St_scopeOf (nI i) σ = 0) ↔ s = 0 := by
      rw [es, ← nI_0]; exact nI_inj (by omega) (by omega)
    have c2 : (f_St_sizeOf (nI i) σ = 0) ↔ z = 0 := by
      rw [s2, ← nI_0]; exact nI_inj (by omega) (by omega)
    have c3 : ((0 : Int32) < τ.1 14 (nI i).toNatClampNeg) ↔ 0 < z := by
      rw [hcl, z3, ← nI_0]; exact nI_lt_iff (by omega) (by omega)
    have c4 : (τ.1 16 (nI i).toNatClampNeg ≤ 0) ↔ s ≤ 0 := by
      rw [hcl, r3, ← nI_0]; exact nI_le_iff (by omega) (by omega)
    obtain ⟨g1, g2, g3⟩ := ih (i + 1) fuel fuel' (by omega) (by omega) (by omega)
    rw [nI_succ] at g1 g2 g3
    refine ⟨⟨trivial, fun w => absurd w a1, fun _ => ⟨ks, fun _ => ⟨s1, fun _ => trivial, fun _ => g1⟩, fun _ => g1⟩⟩, ⟨fun w => absurd w a2, fun _ => ⟨hin, fun _ => g2, fun _ => ⟨hin, fun _ => ⟨fun _ => trivial, fun _ => trivial⟩, fun _ => g2⟩⟩⟩, ?_⟩
    show (if τ.1 0 19 ≤ nI i then _ else (if 0 < τ.1 14 (nI i).toNatClampNeg then f_Mo_empty_7 fuel' (nI i + 1) τ else (if τ.1 16 (nI i).toNatClampNeg ≤ 0 then (if τ.1 0 19 ≤ nI i then ((-1 : Int32), τ) else (nI i, τ)) else f_Mo_empty_7 fuel' (nI i + 1) τ))) = ((if f_St_count σ ≤ nI i then (-1 : Int32) else (if f_St_scopeOf (nI i) σ = 0 then (if f_St_sizeOf (nI i) σ = 0 then nI i else f_CL_empty_2 fuel (nI i + 1) σ) else f_CL_empty_2 fuel (nI i + 1) σ)), τ)
    rw [if_neg a2, if_neg a1, g3]
    by_cases w1 : z = 0
    · rw [if_neg (show ¬ (0 : Int32) < τ.1 14 (nI i).toNatClampNeg from fun w => by have := c3.mp w; omega), if_pos (c2.mpr w1)]
      by_cases w2 : s = 0
      · rw [if_pos (c4.mpr (by omega)), if_neg a2, if_pos (c1.mpr w2)]
      · rw [if_neg (show ¬ τ.1 16 (nI i).toNatClampNeg ≤ 0 from fun w => w2 (by have := c4.mp w; omega)), if_neg (fun w => w2 (c1.mp w))]
    · rw [if_pos (c3.mpr (by omega)), if_neg (show ¬ f_St_sizeOf (nI i) σ = 0 from fun w => w1 (c2.mp w)), ite_self]
theorem op_empty (h : IV n q c k f σ τ) : k_CL_empty σ ∧ k_Mo_empty τ ∧ f_CL_empty σ = (f_Mo_empty τ).1 ∧ (f_Mo_empty τ).2 = sF τ 0 0 0 := by
  obtain ⟨-, -, -, -, -, -, -, hR⟩ := h
  obtain ⟨p1, p2, p3, p4⟩ := hR.2.2.2.1
  have hq := hR.2.2.1.1
  obtain ⟨g1, g2, g3⟩ := em_loop (σ := σ) (τ := sF τ 0 0 0) p1 p2 p3 (fun i hi => by
    obtain ⟨r1, ⟨s, r2, r3⟩, -, z, z1, z2, z3, -⟩ := p4 i hi
    exact ⟨r1, ⟨s, by omega, r3⟩, z, z1, z2, z3⟩) k 0 1000 1000 (by omega) (by omega) (by omega)
  rw [nI_0] at g1 g2 g3
  have e : f_Mo_empty τ = (f_CL_empty σ, sF τ 0 0 0) := g3
  exact ⟨g1, g2, by rw [e], by rw [e]⟩
theorem op_look (a b : Int32) (h : IV n q c k f σ τ) : k_CL_look a b σ ∧ k_Mo_look a b τ ∧ f_CL_look a b σ = (f_Mo_look a b τ).1 ∧ (f_Mo_look a b τ).2 = sF τ 0 0 0 := by
  have hn := h.1
  have hT := h.2.1
  have hR := h.2.2.2.2.2.2.2
  have e1 : σ.1 6 11 = τ.1 0 8 := hT.1.trans hT.2.1.symm
  have e2 : σ.1 31 4 = τ.1 0 19 := hR.2.2.2.1.2.1.trans hR.2.2.2.1.2.2.1.symm
  have e3 : σ.1 0 10 = τ.1 0 1 := hR.2.2.2.2.2.1.trans hR.2.2.2.2.2.2.symm
  have eC : f_CL_look a b σ = if a = -1 then (if b = 0 then σ.1 6 11 else (if b = 1 then σ.1 31 4 else (if b = 2 then σ.1 0 10 else -2))) else (if f_Te_has a σ = 0 then -2 else (if b = 0 then f_Te_kindOf a σ else (if b = 1 then f_Te_sortOf a σ else (if b = 2 then f_Te_depthOf a σ else (if b = 3 then f_Te_firstOf a σ else (if b = 4 then f_Te_secondOf a σ else (if b = 5 then f_Te_nameOf a σ else -2))))))) := rfl
  have eM : f_Mo_look a b τ = if a = -1 then (if b = 0 then (τ.1 0 8, sF τ 0 0 0) else (if b = 1 then (τ.1 0 19, sF τ 0 0 0) else (if b = 2 then (τ.1 0 1, sF τ 0 0 0) else (-2, sF τ 0 0 0)))) else (if a < 0 then (-2, sF τ 0 0 0) else (if a < τ.1 0 8 then (if b = 0 then (τ.1 5 a.toNatClampNeg, sF τ 0 0 0) else (if b = 1 then (τ.1 6 a.toNatClampNeg, sF τ 0 0 0) else (if b = 2 then (τ.1 7 a.toNatClampNeg, sF τ 0 0 0) else (if b = 3 then (τ.1 8 a.toNatClampNeg, sF τ 0 0 0) else (if b = 4 then (τ.1 9 a.toNatClampNeg, sF τ 0 0 0) else (if b = 5 then (τ.1 10 a.toNatClampNeg, sF τ 0 0 0) else (-2, sF τ 0 0 0))))))) else (-2, sF τ 0 0 0))) := rfl
  have ka := k_acc hT.1 (by omega) a
  have kL : k_CL_look a b σ := ⟨fun _ => ⟨⟨fun _ => ⟨trivial, trivial⟩, fun _ => ⟨fun _ => ⟨trivial, trivial⟩, fun _ => ⟨fun _ => trivial, fun _ => trivial⟩⟩⟩, trivial⟩, fun _ => ⟨k_has a σ, fun _ => trivial, fun _ => ⟨fun _ => ⟨ka, trivial⟩, fun _ => ⟨fun _ => ⟨ka, trivial⟩, fun _ => ⟨fun _ => ⟨ka, trivial⟩, fun _ => ⟨fun _ => ⟨ka, trivial⟩, fun _ => ⟨fun _ => ⟨ka, trivial⟩, fun _ => ⟨fun _ => ⟨ka, trivial⟩, fun _ => trivial⟩⟩⟩⟩⟩⟩⟩⟩
  have a0 : (a < 0) ↔ a.toInt < 0 := by rw [Int32.lt_iff_toInt_lt, Int32.toInt_zero]
  have a8 : (a < τ.1 0 8) ↔ a.toInt < n := by rw [hT.2.1, Int32.lt_iff_toInt_lt, i_nI (by omega)]
  have hin : ¬ a < 0 → a < τ.1 0 8 → vp_in a 400 := fun w1 w2 => by
    rw [a0] at w1; rw [a8] at w2; rw [in_iff]; omega
  have kM : k_Mo_look a b τ := ⟨fun _ => ⟨fun _ => trivial, fun _ => ⟨fun _ => trivial, fun _ => ⟨fun _ => trivial, fun _ => trivial⟩⟩⟩, fun _ => ⟨fun _ => trivial, fun w1 => ⟨fun w2 => ⟨fun _ => ⟨hin w1 w2, trivial⟩, fun _ => ⟨fun _ => ⟨hin w1 w2, trivial⟩, fun _ => ⟨fun _ => ⟨hin w1 w2, trivial⟩, fun _ => ⟨fun _ => ⟨hin w1 w2, trivial⟩, fun _ => ⟨fun _ => ⟨hin w1 w2, trivial⟩, fun _ => ⟨fun _ => ⟨hin w1 w2, trivial⟩, fun _ => trivial⟩⟩⟩⟩⟩⟩, fun _ => trivial⟩⟩⟩
  refine ⟨kL, kM, ?_⟩
  rw [eC, eM]
  by_cases am : a = -1
  · rw [if_pos am, if_pos am, e1, e2, e3]
    by_cases w0 : b = 0
    · rw [if_pos w0, if_pos w0]; exact ⟨rfl, rfl⟩
    · rw [if_neg w0, if_neg w0]
      by_cases w1 : b = 1
      · rw [if_pos w1, if_pos w1]; exact ⟨rfl, rfl⟩
      · rw [if_neg w1, if_neg w1]
        by_cases w2 : b = 2
        · rw [if_pos w2, if_pos w2]; exact ⟨rfl, rfl⟩
        · rw [if_neg w2, if_neg w2]; exact ⟨rfl, rfl⟩
  · rw [if_neg am, if_neg am]
    rcases arg_cases a n with ha | ⟨t, ht, rfl⟩
    · have g1 : f_Te_has a σ = 0 := (has_iff hT.1 (by omega) a).mpr ha
      rw [if_pos g1]
      by_cases w : a < 0
      · rw [if_pos w]; exact ⟨rfl, rfl⟩
      · rw [if_neg w, if_neg (by rw [a8]; rw [a0] at w; omega)]; exact ⟨rfl, rfl⟩
    · have g1 : ¬ f_Te_has (nI t) σ = 0 := fun w => (has_iff hT.1 (by omega) _).mp w (nI_arg ht hn)
      have hcl : (nI t).toNatClampNeg = t := nI_clamp (by omega)
      obtain ⟨⟨k1, k2, k3, k4, k5⟩, -⟩ := h.acc ht
      have k6 : f_Te_depthOf (nI t) σ = τ.1 7 t := (acc_nI hT.1 (by omega) ht (σ.1 14) 0).trans (hT.2.2 t ht).1.2.2.2.2.2.1
      rw [if_neg g1, if_neg (show ¬ nI t < 0 from nI_pos (by omega)), if_pos (show nI t < τ.1 0 8 by rw [a8, i_nI (by omega)]; omega), hcl, k1, k2, k3, k4, k5, k6]
      by_cases w0 : b = 0
      · rw [if_pos w0, if_pos w0]; exact ⟨rfl, rfl⟩
      · rw [if_neg w0, if_neg w0]
        by_cases w1 : b = 1
        · rw [if_pos w1, if_pos w1]; exact ⟨rfl, rfl⟩
        · rw [if_neg w1, if_neg w1]
          by_cases w2 : b = 2
          · rw [if_pos w2, if_pos w2]; exact ⟨rfl, rfl⟩
          · rw [if_neg w2, if_neg w2]
            by_cases w3 : b = 3
            · rw [if_pos w3, if_pos w3]; exact ⟨rfl, rfl⟩
            · rw [if_neg w3, if_neg w3]
              by_cases w4 : b = 4
              · rw [if_pos w4, if_pos w4]; exact ⟨rfl, rfl⟩
              · rw [if_neg w4, if_neg w4]
                by_cases w5 : b = 5
                · rw [if_pos w5, if_pos w5]; exact ⟨rfl, rfl⟩
                · rw [if_neg w5, if_neg w5]; exact ⟨rfl, rfl⟩
end EM
