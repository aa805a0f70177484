-- the truths of a step, one after the other
section ALL
variable {n0 n q c k f i : Nat} {τb : St}
theorem sz_C {σ : St} {z : Nat} (hk : k ≤ 60) (h4 : σ.1 31 4 = nI k) (hi : i < k) (h33 : σ.1 33 i = nI z) : k_St_sizeOf (nI i) σ ∧ f_St_sizeOf (nI i) σ = nI z := by
  have hcl : (nI i).toNatClampNeg = i := nI_clamp (by omega)
  have hin : vp_in (nI i) 60 := by rw [in_iff, i_nI (by omega)]; omega
  have z0 : ¬ nI i < 0 := nI_pos (by omega)
  have z1 : ¬ σ.1 31 4 ≤ nI i := fun z => by rw [h4, nI_le_iff (by omega) (by omega)] at z; omega
  have h0 : ¬ f_St_has (nI i) σ = 0 := by
    show ¬ (if nI i < 0 then (0 : Int32) else (if σ.1 31 4 ≤ nI i then 0 else 1)) = 0
    rw [if_neg z0, if_neg z1]; decide
  have khas : k_St_has (nI i) σ := ⟨fun _ => ⟨rfl, trivial⟩, fun _ => ⟨fun _ => ⟨rfl, trivial⟩, fun _ => ⟨rfl, trivial⟩⟩⟩
  refine ⟨⟨khas, fun z => absurd z h0, fun _ => ⟨hin, trivial⟩⟩, ?_⟩
  show (if f_St_has (nI i) σ = 0 then (-1 : Int32) else σ.1 33 (nI i).toNatClampNeg) = _
  rw [if_neg h0, hcl, h33]
theorem tr_C {σ : St} {z j : Nat} (hk : k ≤ 60) (h4 : σ.1 31 4 = nI k) (hi : i < k) (h33 : σ.1 33 i = nI z) (hz : z ≤ 8) (hj : j < z) : k_St_truthOf (nI i) (nI j) σ ∧ f_St_truthOf (nI i) (nI j) σ = σ.1 32 (8 * i + j) := by
  obtain ⟨s1, s2⟩ := sz_C hk h4 hi h33
  have z0 : ¬ nI j < 0 := nI_pos (by omega)
  have z1 : ¬ f_St_sizeOf (nI i) σ ≤ nI j := fun z => by rw [s2, nI_le_iff (by omega) (by omega)] at z; omega
  have e8 := (nI_8 (k := i) (j := j) (by omega)).1
  refine ⟨⟨fun z => absurd z z0, fun _ => ⟨s1, fun z => absurd z z1, fun _ => ⟨by rw [e8, in_iff, i_nI (by omega)]; omega, trivial⟩⟩⟩, ?_⟩
  show (if nI j < 0 then _ else (if f_St_sizeOf (nI i) σ ≤ nI j then _ else σ.1 32 (nI i * 8 + nI j).toNatClampNeg)) = _
  rw [if_neg z0, if_neg z1, e8, nI_clamp (by omega)]
theorem all_loop (hi : i < k) {z : Nat} : ∀ (d j fuel fuel' r : Nat) (σ τ : St), j + d = z → d < fuel → d < fuel' → r + d ≤ 68 → n ≤ 208 → PK n0 n r q c k f τb σ τ → σ.1 33 i = nI z → τ.1 14 i = nI z → z ≤ 8 →
    k_CL_joinAllBut_2 fuel (nI i) (-1) (nI j) σ ∧ k_Mo_joinAll_2 fuel' (nI i) (nI j) τ ∧ ∃ r', r ≤ r' ∧ r' ≤ r + d ∧ PK n0 n r' q c k f τb (f_CL_joinAllBut_2 fuel (nI i) (-1) (nI j) σ) (f_Mo_joinAll_2 fuel' (nI i) (nI j) τ) ∧ ∀ c0, 5 ≤ c0 → c0 ≤ 13 → (f_Mo_joinAll_2 fuel' (nI i) (nI j) τ).1 c0 = τ.1 c0 := by
  intro d
  induction d with
  | zero =>
    intro j fuel fuel' r σ τ hj h1 h2 h3 hn hP h33 h14 hz
    obtain ⟨fuel, rfl⟩ : ∃ k, fuel = k + 1 := ⟨fuel - 1, by omega⟩
    obtain ⟨fuel', rfl⟩ : ∃ k, fuel' = k + 1 := ⟨fuel' - 1, by omega⟩
    obtain ⟨p1, p2, p3, p4⟩ := hP.2.1.2.2.2.1
    obtain ⟨s1, s2⟩ := sz_C p1 p2 hi h33
    have hcl : (nI i).toNatClampNeg = i := nI_clamp (by omega)
    have a1 : f_St_sizeOf (nI i) σ ≤ nI j := by rw [s2]; exact (nI_le_iff (by omega) (by omega)).mpr (by omega)
    have a2 : τ.1 14 (nI i).toNatClampNeg ≤ nI j := by rw [hcl, h14]; exact (nI_le_iff (by omega) (by omega)).mpr (by omega)
    have f1 : f_CL_joinAllBut_2 (fuel + 1) (nI i) (-1) (nI j) σ = σ := by
      show (if f_St_sizeOf (nI i) σ ≤ nI j then σ else _) = _
      rw [if_pos a1]
    have f2 : f_Mo_joinAll_2 (fuel' + 1) (nI i) (nI j) τ = τ := by
      show (if τ.1 14 (nI i).toNatClampNeg ≤ nI j then τ else _) = _
      rw [if_pos a2]
    rw [f1, f2]
    exact ⟨⟨s1, fun _ => trivial, fun z => absurd a1 z⟩, ⟨by rw [in_iff, i_nI (by omega)]; omega, fun _ => trivial, fun z => absurd a2 z⟩, r, Nat.le_refl r, by omega, hP, fun _ _ _ => rfl⟩
  | succ d ih =>
    intro j fuel fuel' r σ τ hj h1 h2 h3 hn hP h33 h14 hz
    obtain ⟨fuel, rfl⟩ : ∃ k, fuel = k + 1 := ⟨fuel - 1, by omega⟩
    obtain ⟨fuel', rfl⟩ : ∃ k, fuel' = k + 1 := ⟨fuel' - 1, by omega⟩
    have h0 := hP.1.1.2.1
    obtain ⟨p1, p2, p3, p4⟩ := hP.2.1.2.2.2.1
    obtain ⟨s1, s2⟩ := sz_C p1 p2 hi h33
    obtain ⟨t1, t2⟩ := tr_C p1 p2 hi h33 hz (j := j) (by omega)
    have hcl : (nI i).toNatClampNeg = i := nI_clamp (by omega)
    have e8 := (nI_8 (k := i) (j := j) (by omega)).2
    have a1 : ¬ f_St_sizeOf (nI i) σ ≤ nI j := fun z => by rw [s2, nI_le_iff (by omega) (by omega)] at z; omega
    have a2 : ¬ τ.1 14 (nI i).toNatClampNeg ≤ nI j := fun z => by rw [hcl, h14, nI_le_iff (by omega) (by omega)] at z; omega
    obtain ⟨-, -, -, z', x1, x2, x3, -, x4⟩ := p4 i hi
    have ez : z' = z := by
      rw [h33] at x2
      exact ((nI_inj (by omega) (by omega)).mp x2).symm
    obtain ⟨y1, t, y2, y3, y4⟩ := x4 j (by omega)
    have et : f_St_truthOf (nI i) (nI j) σ = nI t := by rw [t2, y1, y3]
    have em : τ.1 15 (8 * nI i + nI j).toNatClampNeg = nI t := by rw [e8, nI_clamp (by omega), y3]
    obtain ⟨b1, b2, r', b3, b4, b5, b6⟩ := hP.join (t := t) (by omega) ⟨by omega, y4⟩ hn
    obtain ⟨-, -, -, -, -, -, fC, fM, -⟩ := TR.join hP.1 (a := nI t) (by omega) (nI_ne_m1 (by omega))
    obtain ⟨g1, g2, r2, g3, g4, g5, g6⟩ := ih (j + 1) fuel fuel' r' (f_Ro_join (nI t) σ) (f_Mo_join (nI t) τ) (by omega) (by omega) (by omega) (by omega) hn b5 (by rw [fC.1 33 (by omega)]; exact h33) (by rw [fM.1 14 (by omega)]; exact h14) hz
    rw [nI_succ] at g1 g2 g5 g6
    have nt : ¬ nI t = -1 := nI_ne_m1 (by omega)
    have f1 : f_CL_joinAllBut_2 (fuel + 1) (nI i) (-1) (nI j) σ = f_CL_joinAllBut_2 fuel (nI i) (-1) (nI j + 1) (f_Ro_join (nI t) σ) := by
      show (if f_St_sizeOf (nI i) σ ≤ nI j then _ else (if f_St_truthOf (nI i) (nI j) σ = -1 then _ else f_CL_joinAllBut_2 fuel (nI i) (-1) (nI j + 1) (f_Ro_join (f_St_truthOf (nI i) (nI j) σ) σ))) = _
      rw [if_neg a1, et, if_neg nt]
    have f2 : f_Mo_joinAll_2 (fuel' + 1) (nI i) (nI j) τ = f_Mo_joinAll_2 fuel' (nI i) (nI j + 1) (f_Mo_join (nI t) τ) := by
      show (if τ.1 14 (nI i).toNatClampNeg ≤ nI j then _ else f_Mo_joinAll_2 fuel' (nI i) (nI j + 1) (f_Mo_join (τ.1 15 (8 * nI i + nI j).toNatClampNeg) τ)) = _
      rw [if_neg a2, em]
    rw [f1, f2]
    refine ⟨⟨s1, fun z => absurd z a1, fun _ => ⟨t1, fun z => absurd (et.symm.trans z) nt, fun _ => ⟨t1, by rw [et]; exact b1, ?_⟩⟩⟩, ⟨by rw [in_iff, i_nI (by omega)]; omega, fun z => absurd z a2, fun _ => ⟨by rw [e8, in_iff, i_nI (by omega)]; omega, by rw [em]; exact b2, ?_⟩⟩, r2, by omega, by omega, g5, fun c0 q1 q2 => (g6 c0 q1 q2).trans (b6 c0 q1 q2)⟩
    · show k_CL_joinAllBut_2 fuel (nI i) (-1) (nI j + 1) (f_Ro_join (f_St_truthOf (nI i) (nI j) σ) σ)
      rw [et]; exact g1
    · show k_Mo_joinAll_2 fuel' (nI i) (nI j + 1) (f_Mo_join (τ.1 15 (8 * nI i + nI j).toNatClampNeg) τ)
      rw [em]; exact g2
theorem PK.all {r : Nat} {σ τ : St} (h : PK n0 n r q c k f τb σ τ) (hi : i < k) (hr : r ≤ 60) (hn : n ≤ 208) : k_CL_joinAllBut (nI i) (-1) σ ∧ k_Mo_joinAll (nI i) τ ∧ ∃ r' σ' τ', f_CL_joinAllBut (nI i) (-1) σ = σ' ∧ f_Mo_joinAll (nI i) τ = τ' ∧ r ≤ r' ∧ r' ≤ r + 8 ∧ PK n0 n r' q c k f τb σ' τ' ∧ ∀ c0, 5 ≤ c0 → c0 ≤ 13 → τ'.1 c0 = τ.1 c0 := by
  obtain ⟨p1, p2, p3, p4⟩ := h.2.1.2.2.2.1
  obtain ⟨-, -, -, z, x1, x2, x3, -, -⟩ := p4 i hi
  obtain ⟨g1, g2, r', g3, g4, g5, g6⟩ := all_loop hi (z := z) z 0 1000 1000 r σ τ (by omega) (by omega) (by omega) (by omega) hn h x2 x3 x1
  rw [nI_0] at g1 g2 g5 g6
  exact ⟨g1, g2, r', _, _, rfl, rfl, g3, by omega, g5, g6⟩
end ALL
