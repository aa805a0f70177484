-- cut
section CUT
variable {n0 n q c k f i : Nat} {τb : St}
theorem hd_loop {σ τ : St} {z : Nat} {x : Int32} (hk : k ≤ 60) (h4 : σ.1 31 4 = nI k) (hi : i < k) (h33 : σ.1 33 i = nI z) (h14 : τ.1 14 i = nI z) (hz : z ≤ 8) (he : ∀ j, j < z → σ.1 32 (8 * i + j) = τ.1 15 (8 * i + j)) :
    (∀ (d j fuel : Nat), j + d = z → d < fuel → k_Mo_has_5 fuel (nI i) x 1 (nI j) τ ∧ f_Mo_has_5 fuel (nI i) x 1 (nI j) τ = 1) ∧
    ∀ (d j fuel fuel' : Nat), j + d = z → d < fuel → d < fuel' → k_St_holds_2 fuel (nI i) x (nI j) σ ∧ k_Mo_has_5 fuel' (nI i) x 0 (nI j) τ ∧ ((f_St_holds_2 fuel (nI i) x (nI j) σ = 0 ∧ f_Mo_has_5 fuel' (nI i) x 0 (nI j) τ = 0) ∨ (f_St_holds_2 fuel (nI i) x (nI j) σ = 1 ∧ f_Mo_has_5 fuel' (nI i) x 0 (nI j) τ = 1 ∧ ∃ j', j' < z ∧ τ.1 15 (8 * i + j') = x)) := by
  have hcl : (nI i).toNatClampNeg = i := nI_clamp (by omega)
  have hin : vp_in (nI i) 60 := by rw [in_iff, i_nI (by omega)]; omega
  obtain ⟨s1, s2⟩ := sz_C hk h4 hi h33
  have one : ∀ (d j fuel : Nat), j + d = z → d < fuel → k_Mo_has_5 fuel (nI i) x 1 (nI j) τ ∧ f_Mo_has_5 fuel (nI i) x 1 (nI j) τ = 1 := by
    intro d
    induction d with
    | zero =>
      intro j fuel hj h1
      obtain ⟨fuel, rfl⟩ : ∃ k, fuel = k + 1 := ⟨fuel - 1, by omega⟩
      have a2 : τ.1 14 (nI i).toNatClampNeg ≤ nI j := by rw [hcl, h14]; exact (nI_le_iff (by omega) (by omega)).mpr (by omega)
      refine ⟨⟨hin, fun _ => ⟨rfl, trivial⟩, fun z => absurd a2 z⟩, ?_⟩
      show (if τ.1 14 (nI i).toNatClampNeg ≤ nI j then (1 : Int32) else _) = _
      rw [if_pos a2]
    | succ d ih =>
      intro j fuel hj h1
      obtain ⟨fuel, rfl⟩ : ∃ k, fuel = k + 1 := ⟨fuel - 1, by omega⟩
      have a2 : ¬ τ.1 14 (nI i).toNatClampNeg ≤ nI j := fun z => by rw [hcl, h14, nI_le_iff (by omega) (by omega)] at z; omega
      obtain ⟨g1, g2⟩ := ih (j + 1) fuel (by omega) (by omega)
      rw [nI_succ] at g1 g2
      refine ⟨⟨hin, fun z => absurd z a2, fun _ => ⟨fun z => absurd z (by decide), fun _ => g1⟩⟩, ?_⟩
      show (if τ.1 14 (nI i).toNatClampNeg ≤ nI j then (1 : Int32) else (if (1 : Int32) = 0 then _ else f_Mo_has_5 fuel (nI i) x 1 (nI j + 1) τ)) = _
      rw [if_neg a2, if_neg (by decide)]; exact g2
  refine ⟨one, ?_⟩
  intro d
  induction d with
  | zero =>
    intro j fuel fuel' hj h1 h2
    obtain ⟨fuel, rfl⟩ : ∃ k, fuel = k + 1 := ⟨fuel - 1, by omega⟩
    obtain ⟨fuel', rfl⟩ : ∃ k, fuel' = k + 1 := ⟨fuel' - 1, by omega⟩
    have a1 : f_St_sizeOf (nI i) σ ≤ nI j := by rw [s2]; exact (nI_le_iff (by omega) (by omega)).mpr (by omega)
    have a2 : τ.1 14 (nI i).toNatClampNeg ≤ nI j := by rw [hcl, h14]; exact (nI_le_iff (by omega) (by omega)).mpr (by omega)
    refine ⟨⟨s1, fun _ => trivial, fun z => absurd a1 z⟩, ⟨hin, fun _ => ⟨rfl, trivial⟩, fun z => absurd a2 z⟩, Or.inl ⟨?_, ?_⟩⟩
    · show (if f_St_sizeOf (nI i) σ ≤ nI j then (0 : Int32) else _) = _
      rw [if_pos a1]
    · show (if τ.1 14 (nI i).toNatClampNeg ≤ nI j then (0 : Int32) else _) = _
      rw [if_pos a2]
  | succ d ih =>
    intro j fuel fuel' hj h1 h2
    obtain ⟨fuel, rfl⟩ : ∃ k, fuel = k + 1 := ⟨fuel - 1, by omega⟩
    obtain ⟨fuel', rfl⟩ : ∃ k, fuel' = k + 1 := ⟨fuel' - 1, by omega⟩
    obtain ⟨t1, t2⟩ := tr_C hk h4 hi h33 hz (j := j) (by omega)
    have e8 := (nI_8 (k := i) (j := j) (by omega)).2
    have a1 : ¬ f_St_sizeOf (nI i) σ ≤ nI j := fun z => by rw [s2, nI_le_iff (by omega) (by omega)] at z; omega
    have a2 : ¬ τ.1 14 (nI i).toNatClampNeg ≤ nI j := fun z => by rw [hcl, h14, nI_le_iff (by omega) (by omega)] at z; omega
    have et : f_St_truthOf (nI i) (nI j) σ = τ.1 15 (8 * i + j) := t2.trans (he j (by omega))
    have em : τ.1 15 (8 * nI i + nI j).toNatClampNeg = τ.1 15 (8 * i + j) := by rw [e8, nI_clamp (by omega)]
    have i8 : vp_in (8 * nI i + nI j) 480 := by rw [e8, in_iff, i_nI (by omega)]; omega
    have fC : f_St_holds_2 (fuel + 1) (nI i) x (nI j) σ = if τ.1 15 (8 * i + j) = x then 1 else f_St_holds_2 fuel (nI i) x (nI j + 1) σ := by
      show (if f_St_sizeOf (nI i) σ ≤ nI j then (0 : Int32) else (if f_St_truthOf (nI i) (nI j) σ = x then 1 else f_St_holds_2 fuel (nI i) x (nI j + 1) σ)) = _
      rw [if_neg a1, et]
    have fM : f_Mo_has_5 (fuel' + 1) (nI i) x 0 (nI j) τ = if τ.1 15 (8 * i + j) = x then f_Mo_has_5 fuel' (nI i) x 1 (nI j + 1) τ else f_Mo_has_5 fuel' (nI i) x 0 (nI j + 1) τ := by
      show (if τ.1 14 (nI i).toNatClampNeg ≤ nI j then (0 : Int32) else (if (0 : Int32) = 0 then (if τ.1 15 (8 * nI i + nI j).toNatClampNeg = x then f_Mo_has_5 fuel' (nI i) x 1 (nI j + 1) τ else f_Mo_has_5 fuel' (nI i) x 0 (nI j + 1) τ) else _)) = _
      rw [if_neg a2, if_pos rfl, em]
    rw [fC, fM]
    obtain ⟨o1, o2⟩ := one d (j + 1) fuel' (by omega) (by omega)
    obtain ⟨g1, g2, g3⟩ := ih (j + 1) fuel fuel' (by omega) (by omega) (by omega)
    rw [nI_succ] at g1 g2 g3 o1 o2
    refine ⟨⟨s1, fun z => absurd z a1, fun _ => ⟨t1, fun _ => trivial, fun _ => g1⟩⟩, ⟨hin, fun z => absurd z a2, fun _ => ⟨fun _ => ⟨i8, fun _ => o1, fun _ => g2⟩, fun z => absurd rfl z⟩⟩, ?_⟩
    by_cases e : τ.1 15 (8 * i + j) = x
    · rw [if_pos e, if_pos e]; exact Or.inr ⟨rfl, o2, j, by omega, e⟩
    · rw [if_neg e, if_neg e]; exact g3
theorem hold_sim {σ τ : St} {x : Int32} (hP : SP n q k σ τ) (hi : i < k) : k_St_holds (nI i) x σ ∧ k_Mo_has (nI i) x τ ∧ ((f_St_holds (nI i) x σ = 0 ∧ f_Mo_has (nI i) x τ = 0) ∨ (¬ f_St_holds (nI i) x σ = 0 ∧ ¬ f_Mo_has (nI i) x τ = 0 ∧ ∃ t, t < n ∧ x = nI t)) := by
  obtain ⟨p1, p2, p3, p4⟩ := hP
  obtain ⟨-, -, -, z, x1, x2, x3, -, x4⟩ := p4 i hi
  obtain ⟨g1, g2, g3⟩ := (hd_loop (x := x) p1 p2 hi x2 x3 x1 (fun j hj => (x4 j hj).1)).2 z 0 1000 1000 (by omega) (by omega) (by omega)
  rw [nI_0] at g1 g2 g3
  refine ⟨g1, g2, ?_⟩
  rcases g3 with g3 | ⟨g3, g4, j, g5, g6⟩
  · exact Or.inl g3
  · obtain ⟨-, t, t1, t2, -⟩ := x4 j g5
    have g3 : f_St_holds (nI i) x σ = 1 := g3
    have g4 : f_Mo_has (nI i) x τ = 1 := g4
    refine Or.inr ⟨by rw [g3]; decide, by rw [g4]; decide, t, t1, by rw [← g6, t2]⟩
theorem cut_l1 (hi : i < k) {z : Nat} {x x3 x4 x5 : Int32} : ∀ (d j fuel fuel' r : Nat) (σ τ : St), j + d = z → d < fuel → d < fuel' → r + d ≤ 68 → n ≤ 208 → PK n0 n r q c k f τb σ τ → σ.1 33 i = nI z → τ.1 14 i = nI z → z ≤ 8 →
    k_CL_joinAllBut_2 fuel (nI i) x (nI j) σ ∧ ∃ r' τ', r ≤ r' ∧ r' ≤ r + d ∧ PK n0 n r' q c k f τb (f_CL_joinAllBut_2 fuel (nI i) x (nI j) σ) τ' ∧ (∀ c0, 5 ≤ c0 → c0 ≤ 13 → τ'.1 c0 = τ.1 c0) ∧ f_Mo_cut_103 fuel' (nI i) x x3 x4 x5 (nI j) τ = f_Mo_cut_155 1000 x3 x4 x5 0 τ' ∧ (k_Mo_cut_155 1000 x3 x4 x5 0 τ' → k_Mo_cut_103 fuel' (nI i) x x3 x4 x5 (nI j) τ) := by
  intro d
  induction d with
  | zero =>
    intro j fuel fuel' r σ τ hj h1 h2 h3 hn hP h33 h14 hz
    obtain ⟨fuel, rfl⟩ : ∃ k, fuel = k + 1 := ⟨fuel - 1, by omega⟩
    obtain ⟨fuel', rfl⟩ : ∃ k, fuel' = k + 1 := ⟨fuel' - 1, by omega⟩
    obtain ⟨p1, p2, p3, p4⟩ := hP.2.1.2.2.2.1
    obtain ⟨s1, s2⟩ := sz_C p1 p2 hi h33
    have hcl : (nI i).toNatClampNeg = i := nI_clamp (by omega)
    have a1 : f_St_sizeOf (nI i) σ ≤ nI j := by rw [s2]; exact (nI_le_iff (by omega) (by omega)).mpr (by omega)
    have a2 : τ.1 14 (nI i).toNatClampNeg ≤ nI j := by rw [hcl, h14]; exact (nI_le_iff (by omega) (by omega)).mpr (by omega)
    have f1 : f_CL_joinAllBut_2 (fuel + 1) (nI i) x (nI j) σ = σ := by
      show (if f_St_sizeOf (nI i) σ ≤ nI j then σ else _) = _
      rw [if_pos a1]
    rw [f1]
    refine ⟨⟨s1, fun _ => trivial, fun z => absurd a1 z⟩, r, τ, Nat.le_refl r, by omega, hP, fun _ _ _ => rfl, ?_, fun w => ⟨by rw [in_iff, i_nI (by omega)]; omega, fun _ => w, fun z => absurd a2 z⟩⟩
    show (if τ.1 14 (nI i).toNatClampNeg ≤ nI j then f_Mo_cut_155 1000 x3 x4 x5 0 τ else _) = _
    rw [if_pos a2]
  | succ d ih =>
    intro j fuel fuel' r σ τ hj h1 h2 h3 hn hP h33 h14 hz
    obtain ⟨fuel, rfl⟩ : ∃ k, fuel = k + 1 := ⟨fuel - 1, by omega⟩
    obtain ⟨fuel', rfl⟩ : ∃ k, fuel' = k + 1 := ⟨fuel' - 1, by omega⟩
    have h0 := hP.1.1.2.1
    obtain ⟨p1, p2, p3, p4⟩ := hP.2.1.2.2.2.1
    obtain ⟨s1, s2⟩ := sz_C p1 p2 hi h33
    obtain ⟨t1, t2⟩ := tr_C p1 p2 hi h33 hz (j := j) (by omega)
    have hcl : (nI i).toNatClampNeg = i := nI_clamp (by omega)
    have hin : vp_in (nI i) 60 := by rw [in_iff, i_nI (by omega)]; omega
    have e8 := (nI_8 (k := i) (j := j) (by omega)).2
    have i8 : vp_in (8 * nI i + nI j) 480 := by rw [e8, in_iff, i_nI (by omega)]; omega
    have a1 : ¬ f_St_sizeOf (nI i) σ ≤ nI j := fun z => by rw [s2, nI_le_iff (by omega) (by omega)] at z; omega
    have a2 : ¬ τ.1 14 (nI i).toNatClampNeg ≤ nI j := fun z => by rw [hcl, h14, nI_le_iff (by omega) (by omega)] at z; omega
    obtain ⟨-, -, -, z', w1, w2, w3, -, w4⟩ := p4 i hi
    have ez : z' = z := by
      rw [h33] at w2
      exact ((nI_inj (by omega) (by omega)).mp w2).symm
    obtain ⟨y1, t, y2, y3, y4⟩ := w4 j (by omega)
    have et : f_St_truthOf (nI i) (nI j) σ = nI t := by rw [t2, y1, y3]
    have em : τ.1 15 (8 * nI i + nI j).toNatClampNeg = nI t := by rw [e8, nI_clamp (by omega), y3]
    have fC : f_CL_joinAllBut_2 (fuel + 1) (nI i) x (nI j) σ = if nI t = x then f_CL_joinAllBut_2 fuel (nI i) x (nI j + 1) σ else f_CL_joinAllBut_2 fuel (nI i) x (nI j + 1) (f_Ro_join (nI t) σ) := by
      show (if f_St_sizeOf (nI i) σ ≤ nI j then _ else (if f_St_truthOf (nI i) (nI j) σ = x then f_CL_joinAllBut_2 fuel (nI i) x (nI j + 1) σ else f_CL_joinAllBut_2 fuel (nI i) x (nI j + 1) (f_Ro_join (f_St_truthOf (nI i) (nI j) σ) σ))) = _
      rw [if_neg a1, et]
    have fM : f_Mo_cut_103 (fuel' + 1) (nI i) x x3 x4 x5 (nI j) τ = if nI t = x then f_Mo_cut_103 fuel' (nI i) x x3 x4 x5 (nI j + 1) τ else f_Mo_cut_103 fuel' (nI i) x x3 x4 x5 (nI j + 1) (f_Mo_join (nI t) τ) := by
      show (if τ.1 14 (nI i).toNatClampNeg ≤ nI j then _ else (if τ.1 15 (8 * nI i + nI j).toNatClampNeg = x then f_Mo_cut_103 fuel' (nI i) x x3 x4 x5 (nI j + 1) τ else f_Mo_cut_103 fuel' (nI i) x x3 x4 x5 (nI j + 1) (f_Mo_join (τ.1 15 (8 * nI i + nI j).toNatClampNeg) τ))) = _
      rw [if_neg a2, em]
    by_cases e : nI t = x
    · obtain ⟨g1, r2, τ2, g3, g4, g5, g6, g7, g8⟩ := ih (j + 1) fuel fuel' r σ τ (by omega) (by omega) (by omega) (by omega) hn hP h33 h14 hz
      rw [nI_succ] at g1 g5 g7 g8
      rw [fC, fM, if_pos e, if_pos e]
      refine ⟨⟨s1, fun z => absurd z a1, fun _ => ⟨t1, fun _ => g1, fun z => absurd (et.trans e) z⟩⟩, r2, τ2, g3, by omega, g5, g6, g7, fun w => ⟨hin, fun z => absurd z a2, fun _ => ⟨i8, fun _ => g8 w, fun z => absurd (em.trans e) z⟩⟩⟩
    · obtain ⟨b1, b2, r', b3, b4, b5, b6⟩ := hP.join (t := t) (by omega) ⟨by omega, y4⟩ hn
      obtain ⟨-, -, -, -, -, -, qC, qM, -⟩ := TR.join hP.1 (a := nI t) (by omega) (nI_ne_m1 (by omega))
      obtain ⟨g1, r2, τ2, g3, g4, g5, g6, g7, g8⟩ := ih (j + 1) fuel fuel' r' (f_Ro_join (nI t) σ) (f_Mo_join (nI t) τ) (by omega) (by omega) (by omega) (by omega) hn b5 (by rw [qC.1 33 (by omega)]; exact h33) (by rw [qM.1 14 (by omega)]; exact h14) hz
      rw [nI_succ] at g1 g5 g7 g8
      rw [fC, fM, if_neg e, if_neg e]
      refine ⟨⟨s1, fun z => absurd z a1, fun _ => ⟨t1, fun z => absurd (et.symm.trans z) e, fun _ => ⟨t1, by rw [et]; exact b1, ?_⟩⟩⟩, r2, τ2, by omega, by omega, g5, fun c0 q1 q2 => (g6 c0 q1 q2).trans (b6 c0 q1 q2), g7, fun w => ⟨hin, fun z => absurd z a2, fun _ => ⟨i8, fun z => absurd (em.symm.trans z) e, fun _ => ⟨i8, by rw [em]; exact b2, ?_⟩⟩⟩⟩
      · show k_CL_joinAllBut_2 fuel (nI i) x (nI j + 1) (f_Ro_join (f_St_truthOf (nI i) (nI j) σ) σ)
        rw [et]; exact g1
      · show k_Mo_cut_103 fuel' (nI i) x x3 x4 x5 (nI j + 1) (f_Mo_join (τ.1 15 (8 * nI i + nI j).toNatClampNeg) τ)
        rw [em]; exact g8 w
theorem cut_l2 (hi : i < k) {z : Nat} {x x4 : Int32} : ∀ (d j fuel fuel' r : Nat) (σ τ : St), j + d = z → d < fuel → d < fuel' → r + d ≤ 68 → n ≤ 208 → PK n0 n r q c k f τb σ τ → σ.1 33 i = nI z → τ.1 14 i = nI z → z ≤ 8 →
    k_CL_joinAllBut_2 fuel (nI i) x (nI j) σ ∧ ∃ r' τ', r ≤ r' ∧ r' ≤ r + d ∧ PK n0 n r' q c k f τb (f_CL_joinAllBut_2 fuel (nI i) x (nI j) σ) τ' ∧ (∀ c0, 5 ≤ c0 → c0 ≤ 13 → τ'.1 c0 = τ.1 c0) ∧ f_Mo_cut_155 fuel' (nI i) x4 x (nI j) τ = ((f_Mo_enter (τ'.1 0 25) x4 τ').1, (f_Mo_enter (τ'.1 0 25) x4 τ').2) ∧ (k_Mo_enter (τ'.1 0 25) x4 τ' → k_Mo_cut_155 fuel' (nI i) x4 x (nI j) τ) := by
  intro d
  induction d with
  | zero =>
    intro j fuel fuel' r σ τ hj h1 h2 h3 hn hP h33 h14 hz
    obtain ⟨fuel, rfl⟩ : ∃ k, fuel = k + 1 := ⟨fuel - 1, by omega⟩
    obtain ⟨fuel', rfl⟩ : ∃ k, fuel' = k + 1 := ⟨fuel' - 1, by omega⟩
    obtain ⟨p1, p2, p3, p4⟩ := hP.2.1.2.2.2.1
    obtain ⟨s1, s2⟩ := sz_C p1 p2 hi h33
    have hcl : (nI i).toNatClampNeg = i := nI_clamp (by omega)
    have a1 : f_St_sizeOf (nI i) σ ≤ nI j := by rw [s2]; exact (nI_le_iff (by omega) (by omega)).mpr (by omega)
    have a2 : τ.1 14 (nI i).toNatClampNeg ≤ nI j := by rw [hcl, h14]; exact (nI_le_iff (by omega) (by omega)).mpr (by omega)
    have f1 : f_CL_joinAllBut_2 (fuel + 1) (nI i) x (nI j) σ = σ := by
      show (if f_St_sizeOf (nI i) σ ≤ nI j then σ else _) = _
      rw [if_pos a1]
    rw [f1]
    refine ⟨⟨s1, fun _ => trivial, fun z => absurd a1 z⟩, r, τ, Nat.le_refl r, by omega, hP, fun _ _ _ => rfl, ?_, fun w => ⟨by rw [in_iff, i_nI (by omega)]; omega, fun _ => ⟨w, trivial⟩, fun z => absurd a2 z⟩⟩
    show (if τ.1 14 (nI i).toNatClampNeg ≤ nI j then ((f_Mo_enter (τ.1 0 25) x4 τ).1, (f_Mo_enter (τ.1 0 25) x4 τ).2) else _) = _
    rw [if_pos a2]
  | succ d ih =>
    intro j fuel fuel' r σ τ hj h1 h2 h3 hn hP h33 h14 hz
    obtain ⟨fuel, rfl⟩ : ∃ k, fuel = k + 1 := ⟨fuel - 1, by omega⟩
    obtain ⟨fuel', rfl⟩ : ∃ k, fuel' = k + 1 := ⟨fuel' - 1, by omega⟩
    have h0 := hP.1.1.2.1
    obtain ⟨p1, p2, p3, p4⟩ := hP.2.1.2.2.2.1
    obtain ⟨s1, s2⟩ := sz_C p1 p2 hi h33
    obtain ⟨t1, t2⟩ := tr_C p1 p2 hi h33 hz (j := j) (by omega)
    have hcl : (nI i).toNatClampNeg = i := nI_clamp (by omega)
    have hin : vp_in (nI i) 60 := by rw [in_iff, i_nI (by omega)]; omega
    have e8 := (nI_8 (k := i) (j := j) (by omega)).2
    have i8 : vp_in (8 * nI i + nI j) 480 := by rw [e8, in_iff, i_nI (by omega)]; omega
    have a1 : ¬ f_St_sizeOf (nI i) σ ≤ nI j := fun z => by rw [s2, nI_le_iff (by omega) (by omega)] at z; omega
    have a2 : ¬ τ.1 14 (nI i).toNatClampNeg ≤ nI j := fun z => by rw [hcl, h14, nI_le_iff (by omega) (by omega)] at z; omega
    obtain ⟨-, -, -, z', w1, w2, w3, -, w4⟩ := p4 i hi
    have ez : z' = z := by
      rw [h33] at w2
      exact ((nI_inj (by omega) (by omega)).mp w2).symm
    obtain ⟨y1, t, y2, y3, y4⟩ := w4 j (by omega)
    have et : f_St_truthOf (nI i) (nI j) σ = nI t := by rw [t2, y1, y3]
    have em : τ.1 15 (8 * nI i + nI j).toNatClampNeg = nI t := by rw [e8, nI_clamp (by omega), y3]
    have fC : f_CL_joinAllBut_2 (fuel + 1) (nI i) x (nI j) σ = if nI t = x then f_CL_joinAllBut_2 fuel (nI i) x (nI j + 1) σ else f_CL_joinAllBut_2 fuel (nI i) x (nI j + 1) (f_Ro_join (nI t) σ) := by
      show (if f_St_sizeOf (nI i) σ ≤ nI j then _ else (if f_St_truthOf (nI i) (nI j) σ = x then f_CL_joinAllBut_2 fuel (nI i) x (nI j + 1) σ else f_CL_joinAllBut_2 fuel (nI i) x (nI j + 1) (f_Ro_join (f_St_truthOf (nI i) (nI j) σ) σ))) = _
      rw [if_neg a1, et]
    have fM : f_Mo_cut_155 (fuel' + 1) (nI i) x4 x (nI j) τ = if nI t = x then f_Mo_cut_155 fuel' (nI i) x4 x (nI j + 1) τ else f_Mo_cut_155 fuel' (nI i) x4 x (nI j + 1) (f_Mo_join (nI t) τ) := by
      show (if τ.1 14 (nI i).toNatClampNeg ≤ nI j then _ else (if τ.1 15 (8 * nI i + nI j).toNatClampNeg = x then f_Mo_cut_155 fuel' (nI i) x4 x (nI j + 1) τ else f_Mo_cut_155 fuel' (nI i) x4 x (nI j + 1) (f_Mo_join (τ.1 15 (8 * nI i + nI j).toNatClampNeg) τ))) = _
      rw [if_neg a2, em]
    by_cases e : nI t = x
    · obtain ⟨g1, r2, τ2, g3, g4, g5, g6, g7, g8⟩ := ih (j + 1) fuel fuel' r σ τ (by omega) (by omega) (by omega) (by omega) hn hP h33 h14 hz
      rw [nI_succ] at g1 g5 g7 g8
      rw [fC, fM, if_pos e, if_pos e]
      refine ⟨⟨s1, fun z => absurd z a1, fun _ => ⟨t1, fun _ => g1, fun z => absurd (et.trans e) z⟩⟩, r2, τ2, g3, by omega, g5, g6, g7, fun w => ⟨hin, fun z => absurd z a2, fun _ => ⟨i8, fun _ => g8 w, fun z => absurd (em.trans e) z⟩⟩⟩
    · obtain ⟨b1, b2, r', b3, b4, b5, b6⟩ := hP.join (t := t) (by omega) ⟨by omega, y4⟩ hn
      obtain ⟨-, -, -, -, -, -, qC, qM, -⟩ := TR.join hP.1 (a := nI t) (by omega) (nI_ne_m1 (by omega))
      obtain ⟨g1, r2, τ2, g3, g4, g5, g6, g7, g8⟩ := ih (j + 1) fuel fuel' r' (f_Ro_join (nI t) σ) (f_Mo_join (nI t) τ) (by omega) (by omega) (by omega) (by omega) hn b5 (by rw [qC.1 33 (by omega)]; exact h33) (by rw [qM.1 14 (by omega)]; exact h14) hz
      rw [nI_succ] at g1 g5 g7 g8
      rw [fC, fM, if_neg e, if_neg e]
      refine ⟨⟨s1, fun z => absurd z a1, fun _ => ⟨t1, fun z => absurd (et.symm.trans z) e, fun _ => ⟨t1, by rw [et]; exact b1, ?_⟩⟩⟩, r2, τ2, by omega, by omega, g5, fun c0 q1 q2 => (g6 c0 q1 q2).trans (b6 c0 q1 q2), g7, fun w => ⟨hin, fun z => absurd z a2, fun _ => ⟨i8, fun z => absurd (em.symm.trans z) e, fun _ => ⟨i8, by rw [em]; exact b2, ?_⟩⟩⟩⟩
      · show k_CL_joinAllBut_2 fuel (nI i) x (nI j + 1) (f_Ro_join (f_St_truthOf (nI i) (nI j) σ) σ)
        rw [et]; exact g1
      · show k_Mo_cut_155 fuel' (nI i) x4 x (nI j + 1) (f_Mo_join (τ.1 15 (8 * nI i + nI j).toNatClampNeg) τ)
        rw [em]; exact g8 w
end CUT
