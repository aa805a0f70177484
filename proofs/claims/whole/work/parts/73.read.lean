-- what is only asked: clause, scope
section RD
variable {n q c k f : Nat} {σ τ : St}
theorem deep_sim (h : SC q c σ τ) : ∀ (e s ds x fuel : Nat), s ≤ e → s ≤ q → σ.1 29 s = nI ds → ds ≤ s → x + s ≤ 100 → s < fuel → k_Mo_deepOf_4 fuel (nI x) (nI s) τ ∧ f_Mo_deepOf_4 fuel (nI x) (nI s) τ = nI (x + ds) := by
  obtain ⟨hq, hc, e3, -, -, -, d0, c0, hA, hO⟩ := h
  intro e
  induction e with
  | zero =>
    intro s ds x fuel h1 h2 h3 h4 h5 h6
    obtain ⟨fuel, rfl⟩ : ∃ k, fuel = k + 1 := ⟨fuel - 1, by omega⟩
    obtain rfl : s = 0 := by omega
    obtain rfl : ds = 0 := by omega
    have z : nI 0 ≤ 0 := by rw [nI_0]; decide
    refine ⟨⟨fun _ => trivial, fun w => absurd z w⟩, ?_⟩
    show (if nI 0 ≤ 0 then nI x else _) = _
    rw [if_pos z, Nat.add_zero]
  | succ e ih =>
    intro s ds x fuel h1 h2 h3 h4 h5 h6
    obtain ⟨fuel, rfl⟩ : ∃ k, fuel = k + 1 := ⟨fuel - 1, by omega⟩
    by_cases s0 : s = 0
    · subst s0
      obtain rfl : ds = 0 := by omega
      have z : nI 0 ≤ 0 := by rw [nI_0]; decide
      refine ⟨⟨fun _ => trivial, fun w => absurd z w⟩, ?_⟩
      show (if nI 0 ≤ 0 then nI x else _) = _
      rw [if_pos z, Nat.add_zero]
    · obtain ⟨-, -, -, a, d, a1, a2, a3, a4, a5⟩ := hA s (by omega) h2
      have ed : ds = d + 1 := by
        rw [h3] at a5
        exact (nI_inj (by omega) (by omega)).mp a5
      have z : ¬ nI s ≤ 0 := nI_nle (by omega) (by omega)
      have hcl : (nI s).toNatClampNeg = s := nI_clamp (by omega)
      obtain ⟨g1, g2⟩ := ih a d (x + 1) fuel (by omega) (by omega) a4 a3 (by omega) (by omega)
      rw [nI_succ] at g1 g2
      refine ⟨⟨fun w => absurd w z, fun _ => ⟨by rw [in_iff, i_nI (by omega)]; omega, ?_⟩⟩, ?_⟩
      · show k_Mo_deepOf_4 fuel (nI x + 1) (τ.1 18 (nI s).toNatClampNeg) τ
        rw [hcl, a2]; exact g1
      · show (if nI s ≤ 0 then _ else f_Mo_deepOf_4 fuel (nI x + 1) (τ.1 18 (nI s).toNatClampNeg) τ) = _
        rw [if_neg z, hcl, a2, g2, ed]
        congr 1; omega
theorem SC.deep (h : SC q c σ τ) {s : Nat} (hs : s ≤ q) : ∃ ds, σ.1 29 s = nI ds ∧ ds ≤ s := by
  obtain ⟨hq, hc, e3, -, -, -, d0, c0, hA, hO⟩ := h
  by_cases s0 : s = 0
  · rw [s0]; exact ⟨0, by rw [nI_0]; exact d0, by omega⟩
  · obtain ⟨-, -, -, a, d, a1, a2, a3, a4, a5⟩ := hA s (by omega) hs
    exact ⟨d + 1, a5, by omega⟩
/-- the depth of a scope, on both sides -/
theorem depth_sim (h : SC q c σ τ) {s : Nat} (hs : s ≤ q) : k_Sc_depthOf (nI s) σ ∧ k_Mo_deepOf (nI s) τ ∧ ∃ ds, ds ≤ 20 ∧ f_Sc_depthOf (nI s) σ = nI ds ∧ f_Mo_deepOf (nI s) τ = nI ds := by
  obtain ⟨ds, e1, e2⟩ := h.deep hs
  obtain ⟨g1, g2⟩ := deep_sim h s s ds 0 1000 (Nat.le_refl s) hs e1 e2 (by have := h.1; omega) (by have := h.1; omega)
  obtain ⟨hq, hc, e3, -⟩ := h
  rw [nI_0] at g1 g2
  have hcl : (nI s).toNatClampNeg = s := nI_clamp (by omega)
  have z1 : ¬ nI s < 0 := nI_pos (by omega)
  have z2 : ¬ σ.1 27 3 ≤ nI s := fun z => by rw [e3, nI_le_iff (by omega) (by omega)] at z; omega
  have hh : ¬ f_Sc_has (nI s) σ = 0 := by
    show ¬ (if nI s < 0 then (0 : Int32) else (if σ.1 27 3 ≤ nI s then 0 else 1)) = 0
    rw [if_neg z1, if_neg z2]; decide
  have kh : k_Sc_has (nI s) σ := ⟨fun _ => ⟨rfl, trivial⟩, fun _ => ⟨fun _ => ⟨rfl, trivial⟩, fun _ => ⟨rfl, trivial⟩⟩⟩
  refine ⟨⟨kh, fun z => absurd z hh, fun _ => ⟨by rw [in_iff, i_nI (by omega)]; omega, trivial⟩⟩, g1, ds, by omega, ?_, by rw [Nat.zero_add] at g2; exact g2⟩
  show (if f_Sc_has (nI s) σ = 0 then (0 : Int32) else σ.1 29 (nI s).toNatClampNeg) = _
  rw [if_neg hh, hcl, e1]
theorem op_scope (a : Int32) (h : IV n q c k f σ τ) : k_CL_scope a σ ∧ k_Mo_scope a τ ∧ f_CL_scope a σ = (f_Mo_scope a τ).1 ∧ (f_Mo_scope a τ).2 = sF τ 0 0 0 := by
  obtain ⟨-, -, -, -, -, -, -, hR⟩ := h
  have hC : SC q c σ (sF τ 0 0 0) := hR.2.2.1
  have hP : SP n q k σ (sF τ 0 0 0) := hR.2.2.2.1
  obtain ⟨k1, k2, hst⟩ := stands_sim hC hP a
  obtain ⟨p1, p2, p3, p4⟩ := hP
  have khas : k_St_has a σ := ⟨fun _ => ⟨rfl, trivial⟩, fun _ => ⟨fun _ => ⟨rfl, trivial⟩, fun _ => ⟨rfl, trivial⟩⟩⟩
  rcases arg_cases a k with ha | ⟨i, hi, rfl⟩
  · have h0 : f_St_has a σ = 0 := by
      show (if a < 0 then (0 : Int32) else (if σ.1 31 4 ≤ a then 0 else 1)) = 0
      rw [p2]
      by_cases z : a < 0
      · rw [if_pos z]
      · rw [if_neg z, if_pos]
        rw [Int32.le_iff_toInt_le, i_nI (by omega)]
        rw [Int32.lt_iff_toInt_lt, Int32.toInt_zero] at z
        omega
    have h1 : ¬ a < 0 → ¬ a < (sF τ 0 0 0).1 0 19 := fun z z2 => by
      rw [p3, Int32.lt_iff_toInt_lt, i_nI (by omega)] at z2
      rw [Int32.lt_iff_toInt_lt, Int32.toInt_zero] at z
      omega
    have eM : f_Mo_scope a τ = (-1, sF τ 0 0 0) := by
      show (if a < 0 then ((-1 : Int32), sF τ 0 0 0) else (if a < (sF τ 0 0 0).1 0 19 then _ else ((-1 : Int32), sF τ 0 0 0))) = _
      by_cases z : a < 0
      · rw [if_pos z]
      · rw [if_neg z, if_neg (h1 z)]
    refine ⟨⟨khas, fun _ => trivial, fun z => absurd h0 z⟩, ⟨fun _ => trivial, fun z => ⟨fun z2 => absurd z2 (h1 z), fun _ => trivial⟩⟩, ?_, by rw [eM]⟩
    rw [eM]
    show (if f_St_has a σ = 0 then (-1 : Int32) else _) = _
    rw [if_pos h0]
  · have hcl : (nI i).toNatClampNeg = i := nI_clamp (by omega)
    have hin : vp_in (nI i) 60 := by rw [in_iff, i_nI (by omega)]; omega
    have z0 : ¬ nI i < 0 := nI_pos (by omega)
    have z1 : ¬ σ.1 31 4 ≤ nI i := fun z => by rw [p2, nI_le_iff (by omega) (by omega)] at z; omega
    have z2 : nI i < (sF τ 0 0 0).1 0 19 := by rw [p3]; exact (nI_lt_iff (by omega) (by omega)).mpr hi
    have h0 : ¬ f_St_has (nI i) σ = 0 := by
      show ¬ (if nI i < 0 then (0 : Int32) else (if σ.1 31 4 ≤ nI i then 0 else 1)) = 0
      rw [if_neg z0, if_neg z1]; decide
    obtain ⟨r1, ⟨s, r2, r3⟩, -⟩ := p4 i hi
    have es : f_St_scopeOf (nI i) σ = nI s := by
      show (if f_St_has (nI i) σ = 0 then (-1 : Int32) else σ.1 34 (nI i).toNatClampNeg) = _
      rw [if_neg h0, hcl, r1, r3]
    have em : (sF τ 0 0 0).1 16 (nI i).toNatClampNeg = nI s := by rw [hcl]; exact r3
    obtain ⟨d1, d2, ds, d3, d4, d5⟩ := depth_sim hC r2
    have ksc : k_St_scopeOf (nI i) σ := ⟨khas, fun z => absurd z h0, fun _ => ⟨hin, trivial⟩⟩
    have eM : f_Mo_scope (nI i) τ = if f_Mo_stands (nI i) (sF τ 0 0 0) = 0 then (nI ds + 100, sF τ 0 0 0) else (nI ds + 0, sF τ 0 0 0) := by
      show (if nI i < 0 then _ else (if nI i < (sF τ 0 0 0).1 0 19 then (if f_Mo_stands (nI i) (sF τ 0 0 0) = 0 then (f_Mo_deepOf ((sF τ 0 0 0).1 16 (nI i).toNatClampNeg) (sF τ 0 0 0) + 100, sF τ 0 0 0) else (f_Mo_deepOf ((sF τ 0 0 0).1 16 (nI i).toNatClampNeg) (sF τ 0 0 0) + 0, sF τ 0 0 0)) else _)) = _
      rw [if_neg z0, if_pos z2, em, d5]
    have eC : f_CL_scope (nI i) σ = if f_CL_stands (nI i) σ = 0 then nI ds + 100 else nI ds + 0 := by
      show (if f_St_has (nI i) σ = 0 then _ else (if f_CL_stands (nI i) σ = 0 then f_Sc_depthOf (f_St_scopeOf (nI i) σ) σ + 100 else f_Sc_depthOf (f_St_scopeOf (nI i) σ) σ + 0)) = _
      rw [if_neg h0, es, d4]
    have kdo : k_Mo_deepOf ((sF τ 0 0 0).1 16 (nI i).toNatClampNeg) (sF τ 0 0 0) := by rw [em]; exact d2
    have kds : k_Sc_depthOf (f_St_scopeOf (nI i) σ) σ := by rw [es]; exact d1
    refine ⟨⟨khas, fun z => absurd z h0, fun _ => ⟨ksc, kds, k1, fun _ => trivial, fun _ => trivial⟩⟩, ⟨fun z => absurd z z0, fun _ => ⟨fun _ => ⟨hin, kdo, k2, fun _ => trivial, fun _ => trivial⟩, fun z => absurd z2 z⟩⟩, ?_, ?_⟩
    · rw [eC, eM]
      rcases hst with ⟨s1, s2⟩ | ⟨s1, s2, -⟩
      · rw [if_pos s1, if_pos s2]
      · rw [if_neg s1, if_neg s2]
    · rw [eM]
      by_cases z : f_Mo_stands (nI i) (sF τ 0 0 0) = 0
      · rw [if_pos z]
      · rw [if_neg z]
end RD
