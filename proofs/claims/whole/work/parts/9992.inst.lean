-- instance on the invariant
theorem IV.congR {n q c k f : Nat} {σ X Y : St} (h : IV n q c k f σ X) (hr : rwM n X Y) (e1 : ∀ x, (1 ≤ x ∧ x < 5) ∨ (14 ≤ x ∧ x < 20) ∨ x = 21 → Y.1 x = X.1 x) (e2 : ∀ j, j = 1 ∨ j = 2 ∨ j = 3 ∨ j = 8 ∨ j = 19 ∨ j = 24 ∨ j = 25 ∨ j = 30 → Y.1 0 j = X.1 0 j) : IV n q c k f σ Y := by
  obtain ⟨h1, hT, hL, hK, h2, h3, h4, hR⟩ := h
  have r : ∀ t, t < n → ∀ c, 5 ≤ c → c ≤ 13 → Y.1 c t = X.1 c t := fun t ht c q1 q2 => hr c q1 q2 t ht
  refine ⟨h1, ⟨hT.1, (e2 8 (by omega)).trans hT.2.1, fun t ht => ⟨?_, (hT.2.2 t ht).2.cong ht (by omega) hr⟩⟩, fun t ht => ?_, ⟨fun t ht => (hK.1 t ht).cong ht (by omega) (hT.2.2 t ht).2.1 (hT.2.2 t ht).2.2.1 hr, hK.2.cong hr (fun c q1 q2 => e1 c (by omega)) (e2 3 (by omega))⟩, h2, h3, fun t ht => by rw [r t ht 7 (by omega) (by omega)]; exact h4 t ht, hR.cong5 (fun _ _ => rfl) e1 (fun j hj => e2 j (by omega)) hr⟩
  · have g := (hT.2.2 t ht).1
    unfold tmE kyR at g ⊢
    rw [r t ht 5 (by omega) (by omega), r t ht 6 (by omega) (by omega), r t ht 7 (by omega) (by omega), r t ht 8 (by omega) (by omega), r t ht 9 (by omega) (by omega), r t ht 10 (by omega) (by omega), r t ht 11 (by omega) (by omega), r t ht 12 (by omega) (by omega), r t ht 13 (by omega) (by omega)]
    exact g
  · have g := hL t ht
    rw [r t ht 5 (by omega) (by omega), r t ht 8 (by omega) (by omega), r t ht 9 (by omega) (by omega), r t ht 11 (by omega) (by omega), r t ht 12 (by omega) (by omega)]
    exact g
theorem fill_C : ∀ (d i fuel : Nat) (X : St), i + d = 100 → d < fuel → k_JA_fill_5 fuel (-1) (nI i) 100 X ∧ (∀ c, ¬ c = 23 → (f_JA_fill_5 fuel (-1) (nI i) 100 X).1 c = X.1 c) ∧ (f_JA_fill_5 fuel (-1) (nI i) 100 X).2 = X.2 ∧ ∀ j, j < 100 → (f_JA_fill_5 fuel (-1) (nI i) 100 X).1 23 j = if j < i then X.1 23 j else -1 := by
  intro d
  induction d with
  | zero =>
    intro i fuel X hi hf
    obtain ⟨fuel, rfl⟩ : ∃ k, fuel = k + 1 := ⟨fuel - 1, by omega⟩
    have pl : (100 : Int32) ≤ nI i := (nI_le_iff (a := 100) (by omega) (by omega)).mpr (by omega)
    have e : f_JA_fill_5 (fuel + 1) (-1) (nI i) 100 X = X := by rw [f_JA_fill_5, if_pos pl]
    rw [e]
    exact ⟨⟨fun _ => trivial, fun z => absurd pl z⟩, fun _ _ => rfl, rfl, fun j hj => by rw [if_pos (by omega)]⟩
  | succ d ih =>
    intro i fuel X hi hf
    obtain ⟨fuel, rfl⟩ : ∃ k, fuel = k + 1 := ⟨fuel - 1, by omega⟩
    have pl : ¬ (100 : Int32) ≤ nI i := fun z => by
      have := (nI_le_iff (a := 100) (by omega) (by omega)).mp z; omega
    have hcl : (nI i).toNatClampNeg = i := nI_clamp (by omega)
    have hin : vp_in (nI i) 100 := by rw [in_iff, i_nI (by omega)]; omega
    obtain ⟨i1, i2, i3, i4⟩ := ih (i + 1) fuel (sA X 23 (nI i) (-1)) (by omega) (by omega)
    rw [nI_succ] at i1 i2 i3 i4
    have e : f_JA_fill_5 (fuel + 1) (-1) (nI i) 100 X = f_JA_fill_5 fuel (-1) (nI i + 1) 100 (sA X 23 (nI i) (-1)) := by rw [f_JA_fill_5, if_neg pl]; rfl
    rw [e]
    refine ⟨⟨fun z => absurd z pl, fun _ => ⟨hin, i1⟩⟩, fun c hc => ?_, i3, fun j hj => ?_⟩
    · rw [i2 c hc]
      show pu X.1 23 _ c = _
      rw [pu_at, if_neg hc]
    · rw [i4 j hj, sA1, if_pos rfl, hcl]
      by_cases z : j = i
      · rw [if_pos (show j < i + 1 by omega), if_pos z, if_neg (show ¬ j < i by omega)]
      · rw [if_neg z]
        by_cases z2 : j < i
        · rw [if_pos (show j < i + 1 by omega), if_pos z2]
        · rw [if_neg (show ¬ j < i + 1 by omega), if_neg z2]
theorem fill_all (X : St) : k_JA_fill (-1) X ∧ ∃ Y, f_JA_fill (-1) X = Y ∧ (∀ c, ¬ c = 23 → Y.1 c = X.1 c) ∧ Y.2 = X.2 ∧ ∀ j, j < 100 → Y.1 23 j = -1 := by
  have h := fill_C 100 0 1000 X (by omega) (by omega)
  rw [nI_0] at h
  unfold k_JA_fill f_JA_fill
  generalize f_JA_fill_5 1000 (-1) 0 100 X = Y at h ⊢
  exact ⟨h.1, Y, rfl, h.2.1, h.2.2.1, fun j hj => (h.2.2.2 j hj).trans (if_neg (by omega))⟩
theorem fl_c {x : Nat} (v : Int32) (τ : St) (h : ¬ x = 0) : (fl v τ).1 x = τ.1 x := by
  show pu (pu (pu τ.1 0 _) 0 _) 0 _ x = _
  rw [pu_at, if_neg h, pu_at, if_neg h, pu_at, if_neg h]
theorem fmP.ofM {X Y : St} (h : frM X Y) : fmP X Y := ⟨fun c hc => h.1 c (by omega), fun j q1 q2 _ => h.2.1 j q1 q2⟩
section INST
variable {n q c k f : Nat} {σ τ : St}
set_option maxHeartbeats 4000000 in
theorem op_instance (a b : Int32) (h : IV n q c k f σ τ) : k_CL_instance a b σ ∧ k_Mo_instance a b τ ∧ RES n τ (f_CL_instance a b σ) (f_Mo_instance a b τ) cd_instance al4 := by
  have hn := h.1
  by_cases hf : f < 60
  · obtain ⟨e1, e2⟩ := (op_shut h).1 hf
    have eC : f_CL_instance a b σ = if f_Te_has a σ = 0 then (.inr 1, un σ) else (if f_Te_has b σ = 0 then (.inr 1, un σ) else (if f_Te_kindOf a σ = 10 then (if f_Te_sortOf b σ = f_Sg_sortOfVariable (f_Te_nameOf a σ) σ then f_CL_instance_89 a b (f_Te_nameOf a σ) (sF σ 25 1 0) else (.inr 2, un σ)) else (.inr 2, un σ))) := by
      show (if f_CL_isShut σ = 0 then (if f_Te_has a σ = 0 then (.inr 1, un σ) else (if f_Te_has b σ = 0 then (.inr 1, un σ) else (if f_Te_kindOf a σ = 10 then (if f_Te_sortOf b σ = f_Sg_sortOfVariable (f_Te_nameOf a σ) σ then f_CL_instance_89 a b (f_Te_nameOf a σ) (sF σ 25 1 0) else (.inr 2, un σ)) else (.inr 2, un σ)))) else _) = _
      rw [if_pos e1]
    have eM : f_Mo_instance a b τ = if f_Mo_isTerm a (bg τ) = 0 then ((f_Mo_fails 1 17185 (bg τ)).1, (f_Mo_fails 1 17185 (bg τ)).2) else (if f_Mo_isTerm b (bg τ) = 0 then ((f_Mo_fails 1 17185 (bg τ)).1, (f_Mo_fails 1 17185 (bg τ)).2) else (if τ.1 5 a.toNatClampNeg = 10 then (if τ.1 6 b.toNatClampNeg = τ.1 4 (τ.1 10 a.toNatClampNeg).toNatClampNeg then f_Mo_instance_82 a b 17185 (τ.1 10 a.toNatClampNeg) (bg τ) else ((f_Mo_fails 2 17185 (bg τ)).1, (f_Mo_fails 2 17185 (bg τ)).2)) else ((f_Mo_fails 2 17185 (bg τ)).1, (f_Mo_fails 2 17185 (bg τ)).2))) := by
      show f_Mo_instance_4 a b (f_Mo_begin τ).1 (f_Mo_begin τ).2 = _
      rw [e2]
      show (if (0 : Int32) = 0 then _ else _) = _
      rw [if_pos rfl]; rfl
    have kM : (¬ f_Mo_isTerm a (bg τ) = 0 → ¬ f_Mo_isTerm b (bg τ) = 0 → vp_in a 400 ∧ (τ.1 5 a.toNatClampNeg = 10 → vp_in b 400 ∧ vp_in (τ.1 10 a.toNatClampNeg) 3 ∧ (τ.1 6 b.toNatClampNeg = τ.1 4 (τ.1 10 a.toNatClampNeg).toNatClampNeg → k_Mo_instance_82 a b 17185 (τ.1 10 a.toNatClampNeg) (bg τ)))) → k_Mo_instance a b τ := fun g => by
      refine ⟨k_begin τ, ?_⟩
      rw [e2]
      refine ⟨fun _ => ⟨kk_isTerm a (bg τ), fun _ => ⟨(fs_1_17185 _).1, trivial⟩, fun z => ⟨kk_isTerm b (bg τ), fun _ => ⟨(fs_1_17185 _).1, trivial⟩, fun z2 => ?_⟩⟩, fun _ => trivial⟩
      obtain ⟨g1, g2⟩ := g z z2
      exact ⟨g1, fun w => ⟨(g2 w).1, g1, (g2 w).2.1, fun w2 => ⟨g1, (g2 w).2.2 w2⟩, fun _ => ⟨(fs_2_17185 _).1, trivial⟩⟩, fun _ => ⟨(fs_2_17185 _).1, trivial⟩⟩
    rcases arg_cases a n with ha | ⟨t, ht, rfl⟩
    · obtain ⟨g1, g2⟩ := (op_has h a).1 ha
      refine ⟨⟨k_shut σ, fun _ => ⟨k_has a σ, fun _ => ⟨kthr1 σ, fun _ _ => trivial⟩, fun z => absurd g1 z⟩, fun _ => trivial⟩, kM (fun z => absurd g2 z), ?_⟩
      rw [eC, eM, if_pos g1, if_pos g2, (fs_1_17185 _).2]
      exact h.refuse0 hf rfl (by decide) (Or.inl rfl)
    obtain ⟨ga1, ga2⟩ := (op_has h (nI t)).2 (nI_arg ht hn)
    rcases arg_cases b n with hb | ⟨u, hu, rfl⟩
    · obtain ⟨g1, g2⟩ := (op_has h b).1 hb
      refine ⟨⟨k_shut σ, fun _ => ⟨k_has _ σ, fun z => absurd z ga1, fun _ => ⟨k_has b σ, fun _ => ⟨kthr1 σ, fun _ _ => trivial⟩, fun z => absurd g1 z⟩⟩, fun _ => trivial⟩, kM (fun _ z => absurd g2 z), ?_⟩
      rw [eC, eM, if_neg ga1, if_neg ga2, if_pos g1, if_pos g2, (fs_1_17185 _).2]
      exact h.refuse0 hf rfl (by decide) (Or.inl rfl)
    obtain ⟨gb1, gb2⟩ := (op_has h (nI u)).2 (nI_arg hu hn)
    have hct : (nI t).toNatClampNeg = t := nI_clamp (by omega)
    have hcu : (nI u).toNatClampNeg = u := nI_clamp (by omega)
    have hit : vp_in (nI t) 400 := by rw [in_iff, i_nI (by omega)]; omega
    have hiu : vp_in (nI u) 400 := by rw [in_iff, i_nI (by omega)]; omega
    obtain ⟨⟨ek, -, -, -, en⟩, kk, -, -, -, kn⟩ := h.acc ht
    obtain ⟨⟨-, es, -⟩, -, ksu, -⟩ := h.acc hu
    have KC : (f_Te_kindOf (nI t) σ = 10 → k_Sg_sortOfVariable (τ.1 10 t) σ ∧ (f_Te_sortOf (nI u) σ = f_Sg_sortOfVariable (τ.1 10 t) σ → k_CL_instance_89 (nI t) (nI u) (τ.1 10 t) (sF σ 25 1 0))) → k_CL_instance (nI t) (nI u) σ := fun g => by
      refine ⟨k_shut σ, fun _ => ⟨k_has _ σ, fun z => absurd z ga1, fun _ => ⟨k_has _ σ, fun z => absurd z gb1, fun _ => ⟨kn, ?_⟩⟩⟩, fun _ => trivial⟩
      rw [en]
      exact ⟨kk, fun z => ⟨ksu, (g z).1, fun z2 => ⟨trivial, (g z).2 z2⟩, fun _ => ⟨kthr2 σ, fun _ _ => trivial⟩⟩, fun _ => ⟨kthr2 σ, fun _ _ => trivial⟩⟩
    rw [eC, eM, if_neg ga1, if_neg ga2, if_neg gb1, if_neg gb2, ek, es, en, hct, hcu]
    by_cases h10 : τ.1 5 t = 10
    case neg =>
      have c10 : ¬ f_Te_kindOf (nI t) σ = 10 := fun z => h10 (ek.symm.trans z)
      refine ⟨KC (fun z => absurd z c10), kM (fun _ _ => ⟨hit, fun z => by rw [hct] at z; exact absurd z h10⟩), ?_⟩
      rw [if_neg h10, if_neg h10, (fs_2_17185 _).2]
      exact h.refuse0 hf rfl (by decide) (Or.inr (Or.inl rfl))
    case pos =>
    have c10 : f_Te_kindOf (nI t) σ = 10 := ek.trans h10
    rw [if_pos h10, if_pos h10]
    obtain ⟨hWt, hKt⟩ := h.row ht
    obtain ⟨w8, w9, l1, l2, w6, w6p⟩ := hKt.2.2.2.2.2.2.2.2.2 h10
    have hx3 : X3 (τ.1 10 t) := X3.of l1 l2
    obtain ⟨x, hxe⟩ : ∃ x, τ.1 10 t = x := ⟨_, rfl⟩
    obtain ⟨i, hi, hxi⟩ : ∃ i, i < 3 ∧ τ.1 10 t = nI i := ⟨(τ.1 10 t).toInt.toNat, by omega, nJ_of l1⟩
    have hi3 : vp_in (τ.1 10 t) 3 := by rw [hxi, in_iff, i_nI (by omega)]; omega
    have isV : ¬ f_Sg_isVariable (nI i) σ = 0 := by
      show ¬ (if nI i < 0 then (0 : Int32) else (if 3 ≤ nI i then 0 else 1)) = 0
      rw [if_neg (nI_pos (by omega)), if_neg (fun z => by have := (nI_le_iff (a := 3) (by omega) (by omega)).mp z; omega)]; decide
    have kV : k_Sg_isVariable (nI i) σ := ⟨fun _ => ⟨rfl, trivial⟩, fun _ => ⟨fun _ => ⟨rfl, trivial⟩, fun _ => ⟨rfl, trivial⟩⟩⟩
    have esv : k_Sg_sortOfVariable (τ.1 10 t) σ ∧ f_Sg_sortOfVariable (τ.1 10 t) σ = τ.1 4 (τ.1 10 t).toNatClampNeg := by
      obtain ⟨ns, ny, s1, s2, s3, s4, s5, s6, s7, s8, s9⟩ := h.2.2.2.2.2.2.2.1
      have hci : (nI i).toNatClampNeg = i := nI_clamp (by omega)
      rw [hxi]
      refine ⟨⟨kV, fun _ => trivial, fun _ => ⟨by rw [← hxi]; exact hi3, trivial⟩⟩, ?_⟩
      show (if f_Sg_isVariable (nI i) σ = 0 then (-1 : Int32) else σ.1 5 (nI i).toNatClampNeg) = _
      rw [if_neg isV, hci, (s9 i hi).1]
    rw [esv.2]
    by_cases hs : τ.1 6 u = τ.1 4 (τ.1 10 t).toNatClampNeg
    case neg =>
      refine ⟨KC (fun _ => ⟨esv.1, fun z => absurd (by rw [es, esv.2] at z; exact z) hs⟩), kM (fun _ _ => ⟨hit, fun _ => ⟨hiu, by rw [hct]; exact hi3, fun z => absurd (by rw [hct, hcu] at z; exact z) hs⟩⟩), ?_⟩
      rw [if_neg hs, if_neg hs, (fs_2_17185 _).2]
      exact h.refuse0 hf rfl (by decide) (Or.inr (Or.inl rfl))
    case pos =>
    rw [if_pos hs, if_pos hs]
    rw [hxe] at hx3 hs ⊢
    obtain ⟨p, p1, p2⟩ := hWt.1.resolve_left w8
    have p6 : τ.1 6 p = 0 := by
      unfold pO at w6p
      rw [p2, if_neg (nI_ne_m1 (by omega)), nI_clamp (by omega)] at w6p
      exact w6p
    have hW0 : ∀ t, t < n → tmW τ t := fun t ht => (h.2.1.2.2 t ht).2
    have hK0 : KD n τ := h.2.2.2.1
    have hW1 : ∀ t, t < n → tmW (bg τ) t := fun t ht => (h.2.1.2.2 t ht).2
    have hK1 : ∀ t, t < n → kdW (bg τ) t := fun t ht => h.2.2.2.1.1 t ht
    have b8 : ∀ t, t < n → B8 (τ.1 13 t) := free8 hW0 hK0.1 (by omega)
    have b8' : ∀ t, t < n → B8 ((bg τ).1 13 t) := b8
    have P0 := PK.start h
    obtain ⟨kN, Y, eN, mY, clY⟩ := need_for (τ := bg τ) (u := u) (t0 := p) (x := x) (n := n) hW1 hK1 hn h.2.1.2.1 (by omega) hx3
    have clY : cln τ x u p ↔ ∀ j, j ≤ p → ¬ Y.1 29 j = 0 → fr (bg τ) x j → ¬ cau (bg τ) u j := clY
    have P1 : PK n n 0 q c k f τ (sF σ 25 1 0) Y := P0.cg (cgC.rf _) ⟨fun y _ _ _ q3 => mY.1 y q3, fun j _ => by rw [mY.1 0 (by omega)]⟩
    have w6Y : Y.1 6 t = 0 := by rw [mY.1 6 (by omega)]; exact w6
    obtain ⟨a1, a3, m0, n1, σa, τa, fa1, fa2, ta, na1, na2, TRa, rwa, fcA, fmA, h20a⟩ := TT.opposite P1.1 (by omega) (t := t) ⟨ht, w6Y⟩
    have Pa : PK n n1 0 q c k f τ σa τa := P1.made na1 TRa rwa fcA fmA h20a
    have hm0 : m0 < n1 := ta.1
    obtain ⟨b1, b2, r1, rb1, rb2, Pb, -⟩ := Pa.join (by omega) ta (by omega)
    obtain ⟨-, -, -, -, -, -, -, fmB, -⟩ := TR.join TRa (by omega) (a := nI m0) (nI_ne_m1 (by omega))
    obtain ⟨τ1, hτ1⟩ : ∃ y, f_Mo_join (nI m0) τa = y := ⟨_, rfl⟩
    obtain ⟨σ1, hσ1⟩ : ∃ y, f_Ro_join (nI m0) σa = y := ⟨_, rfl⟩
    rw [hτ1] at fmB
    rw [hτ1, hσ1] at Pb
    have eJ : f_Mo_joinAs (nI t) 0 Y = τ1 := by
      show (if (0 : Int32) = 0 then f_Mo_join (f_Mo_opposite (nI t) Y).1 (f_Mo_opposite (nI t) Y).2 else _) = _
      rw [if_pos rfl, fa2]; exact hτ1
    have kJ : k_Mo_joinAs (nI t) 0 Y := ⟨fun _ => ⟨a3, by rw [fa2]; exact ⟨b2, trivial⟩⟩, fun z => absurd rfl z⟩
    have rw1 : rwM n τ τ1 := Pb.2.2.1
    obtain ⟨Y2, m2, v2, e3, k3⟩ := pt3 (τ := τ) (n := n) (t0 := p) (u := u) (x := x) (by omega) (by omega) b8 hx3 (p + 1) 0 100000 τ1 (by omega) (by omega) (fun c q1 q2 j hj => rw1 c q1 q2 j hj)
    rw [nI_0] at e3 k3
    obtain ⟨X0, hX0⟩ : ∃ y, sF Y2 0 34 0 = y := ⟨_, rfl⟩
    have cX : ∀ y, ¬ y = 0 → X0.1 y = Y2.1 y := fun y hy => by
      rw [← hX0]
      show pu Y2.1 0 _ y = _
      rw [pu_at, if_neg hy]
    have c0 : ∀ j, ¬ j = 34 → X0.1 0 j = Y2.1 0 j := fun j hj => by
      rw [← hX0]
      show pu (Y2.1 0) 34 _ j = _
      rw [pu_at, if_neg hj]
    have c34 : X0.1 0 34 = 0 := by rw [← hX0]; rfl
    rw [hX0] at e3 k3
    have cgX : cgM τ1 X0 := ⟨fun y q0 _ q2 _ => (cX y q0).trans (m2.1 y q2), fun j hj => (c0 j hj).trans (by rw [m2.1 0 (by omega)])⟩
    have fm0 : fmP τ1 X0 := ⟨fun y hy => (cX y (by omega)).trans (m2.1 y (by omega)), fun j _ _ q3 => (c0 j q3).trans (by rw [m2.1 0 (by omega)])⟩
    obtain ⟨kF, σF, eF, fl1, fl2, fl3⟩ := fill_all σ1
    obtain ⟨σ2, hσ2⟩ : ∃ y, sF (sF (sF σF 22 2 x) 22 3 (nI u)) 22 4 0 = y := ⟨_, rfl⟩
    have c22 : ∀ y, ¬ y = 22 → ¬ y = 23 → σ2.1 y = σ1.1 y := fun y h1 h2 => by
      rw [← hσ2]
      show pu (pu (pu σF.1 22 _) 22 _) 22 _ y = _
      rw [pu_at, if_neg h1, pu_at, if_neg h1, pu_at, if_neg h1]; exact fl1 y h2
    have c23 : ∀ j, j < 100 → σ2.1 23 j = -1 := fun j hj => by
      rw [← hσ2]
      exact fl3 j hj
    have s2 : σ2.2 = σ1.2 := by rw [← hσ2]; exact fl2
    have hJ : PJ n r1 q c k f u x τ n1 σ2 X0 := ⟨Pb.cg ⟨c22, s2⟩ cgX, by rw [← hσ2]; rfl, by rw [← hσ2]; rfl, fun j hj => Or.inl (c23 j (by omega)), by have := unr_le (σ2.1 23) n; omega, Or.inl (by rw [← hσ2]; rfl)⟩
    have d12 : (τ.1 7 t).toInt ≤ 12 := by
      have := h.2.2.2.2.2.2.1 t ht
      rw [Int32.le_iff_toInt_le] at this
      exact this
    have dp := dep_part hWt (by omega) (fun j hj => by have := (hW0 j (by omega)).2.2.2.2.2.2.2.2.2.2; omega) p1 (Or.inl p2)
    obtain ⟨kP, m, n2, σ3, XE, eP, ⟨o1, o2, o3, o4, o5, o6, o7, o8, o9, o10⟩, hE⟩ := psim (n0 := n) (r := r1) (q := q) (c := c) (k := k) (f := f) (u := u) (t0 := p) (x := x) (τb := τ) hn hW0 hK0 hx3 hu hs (by omega) 10 20 (by omega) p 1 n1 σ2 X0 (by omega) (by omega) (by omega) hJ
    have eP : F_Pu_putIn 20 (nI p) 1 σ2 = (nI m, σ3) := eP
    have kP : K_Pu_putIn 20 (nI p) 1 σ2 := kP
    have ePut : f_Pu_put (nI u) x (nI p) σ1 = (nI m, σ3) := by
      show ((F_Pu_putIn 20 (nI p) 1 (sF (sF (sF (f_JA_fill (-1) σ1) 22 2 x) 22 3 (nI u)) 22 4 0)).1, (F_Pu_putIn 20 (nI p) 1 (sF (sF (sF (f_JA_fill (-1) σ1) 22 2 x) 22 3 (nI u)) 22 4 0)).2) = _
      rw [eF, hσ2, eP]
    have kPut : k_Pu_put (nI u) x (nI p) σ1 := by
      refine ⟨kF, ?_⟩
      show K_Pu_putIn 20 (nI p) 1 (sF (sF (sF (f_JA_fill (-1) σ1) 22 2 x) 22 3 (nI u)) 22 4 0) ∧ True
      rw [eF, hσ2]; exact ⟨kP, trivial⟩
    have hn2 : n2 ≤ 204 := by have := o3.2.2.2.2.1; omega
    have trm : tru XE n2 m := ⟨o1, by rw [o5]; exact p6⟩
    obtain ⟨c1, c2, r2, cr1, cr2, Pc, -⟩ := o3.1.join (by omega) trm (by omega)
    obtain ⟨-, -, -, -, -, -, fcC, fmC, -⟩ := TR.join o3.1.1 (by omega) (a := nI m) (nI_ne_m1 (by omega))
    have iffc := (o10 (by rw [← hσ2]; rfl) (fun j hj z => absurd (c23 j (by omega)) z)).1
    obtain ⟨⟨-, -, e1st, -⟩, -, -, k1st, -⟩ := Pb.acc (by omega) (t := t) (by omega)
    have e1st : f_Te_firstOf (nI t) σ1 = nI p := e1st.trans ((rw1 8 (by omega) (by omega) t ht).trans p2)
    obtain ⟨σf, hσf⟩ : ∃ y, f_Ro_join (nI m) σ3 = y := ⟨_, rfl⟩
    obtain ⟨Xf, hXf⟩ : ∃ y, f_Mo_join (nI m) XE = y := ⟨_, rfl⟩
    rw [hσf] at fcC
    rw [hXf] at fmC
    rw [hσf, hXf] at Pc
    have eCl : f_CL_instance_89 (nI t) (nI u) x (sF σ 25 1 0) = f_CL_instance_128 σf := by
      show f_CL_instance_104 (nI t) (nI u) x (f_Ro_join (f_Te_opposite (nI t) (sF σ 25 1 0)).1 (f_Te_opposite (nI t) (sF σ 25 1 0)).2) = _
      rw [fa1]
      show f_CL_instance_104 (nI t) (nI u) x (f_Ro_join (nI m0) σa) = _
      rw [hσ1]
      show f_CL_instance_128 (f_Ro_join (f_Pu_put (nI u) x (f_Te_firstOf (nI t) σ1) σ1).1 (f_Pu_put (nI u) x (f_Te_firstOf (nI t) σ1) σ1).2) = _
      rw [e1st, ePut]
      show f_CL_instance_128 (f_Ro_join (nI m) σ3) = _
      rw [hσf]
    have kCl : k_CL_instance_128 σf → k_CL_instance_89 (nI t) (nI u) x (sF σ 25 1 0) := fun w => by
      refine ⟨a1, ?_⟩
      rw [fa1]
      refine ⟨b1, ?_⟩
      show k_CL_instance_104 (nI t) (nI u) x (f_Ro_join (nI m0) σa)
      rw [hσ1]
      refine ⟨k1st, ?_⟩
      rw [e1st, ePut]
      refine ⟨kPut, c1, ?_⟩
      show k_CL_instance_128 (f_Ro_join (nI m) σ3)
      rw [hσf]; exact w
    have f4 : f_Pu_failed σf = σ3.1 22 4 := by
      show σf.1 22 4 = _
      rw [fcC.1 22 (by omega)]
    have s4 := o3.2.2.2.2.2
    have kfa : k_Pu_failed σf := by
      refine ⟨?_, trivial⟩
      show narrow .boolean (.int (f_Pu_failed σf)) = .int (f_Pu_failed σf)
      rw [f4]
      rcases s4 with z | z
      · rw [z]; rfl
      · rw [z]; rfl
    have e8 : (bg τ).1 8 (nI t).toNatClampNeg = nI p := by rw [hct]; exact p2
    have eMo : f_Mo_instance_82 (nI t) (nI u) 17185 x (bg τ) = f_Mo_instance_104 1000 (nI t) (nI u) 17185 x (nI p) 0 0 Y := by
      show f_Mo_instance_98 (nI t) (nI u) 17185 x ((bg τ).1 8 (nI t).toNatClampNeg) (f_Mo_needFor ((bg τ).1 8 (nI t).toNatClampNeg) x (bg τ)) = _
      rw [e8, eN]; rfl
    have kMo : k_Mo_instance_104 1000 (nI t) (nI u) 17185 x (nI p) 0 0 Y → k_Mo_instance_82 (nI t) (nI u) 17185 x (bg τ) := fun w => by
      refine ⟨hit, ?_⟩
      show k_Mo_needFor ((bg τ).1 8 (nI t).toNatClampNeg) x (bg τ) ∧ k_Mo_instance_98 (nI t) (nI u) 17185 x ((bg τ).1 8 (nI t).toNatClampNeg) (f_Mo_needFor ((bg τ).1 8 (nI t).toNatClampNeg) x (bg τ))
      rw [e8, eN]; exact ⟨kN, w⟩
    obtain ⟨-, cA, cB⟩ := ck104 (τ := bg τ) (n := n) (t0 := p) (u := u) (t1 := t) (x := x) (a2 := 0) (nm := 17185) (by omega) (by omega) hu b8' hx3 hW1 hK1 (X := Y) mY.1 (fs_2_17185 Y).1 (p + 1) 0 1000 (by omega) (by omega)
    rw [nI_0] at cA cB
    have KK : k_CL_instance_128 σf → k_Mo_instance_104 1000 (nI t) (nI u) 17185 x (nI p) 0 0 Y → k_CL_instance (nI t) (nI u) σ ∧ k_Mo_instance (nI t) (nI u) τ := fun w1 w2 => ⟨KC (fun _ => ⟨esv.1, fun _ => by rw [hxe]; exact kCl w1⟩), kM (fun _ _ => ⟨hit, fun _ => ⟨hiu, by rw [hct]; exact hi3, fun _ => by rw [hct, hxe]; exact kMo w2⟩⟩)⟩
    rw [eCl, eMo]
    by_cases hc : cln τ x u p
    · obtain ⟨f104, k104⟩ := cA (fun j _ hj => clY.mp hc j hj)
      rw [f104, eJ]
      rw [eJ] at k104
      have z4 : σ3.1 22 4 = 0 := iffc.mpr hc
      have ePM : f_Mo_put (nI p) x (nI u) τ1 = PM p 0 (nI p) X0 := by
        unfold PM
        rw [Nat.sub_zero, nI_0]; exact e3
      have kPM : KPM p 0 (nI p) X0 → k_Mo_put (nI p) x (nI u) τ1 := fun w => k3 (by
        unfold KPM at w
        rw [Nat.sub_zero, nI_0] at w; exact w)
      have agX : AG τ x u p 0 σ2 X0 := ⟨by rw [c34, nI_0], fun j hj => by
        have g : X0.1 26 j = re0 τ x u j := by rw [cX 26 (by omega), v2 j hj, if_neg (by omega)]
        rw [g]
        unfold re0 rv
        rw [c23 j (by omega)]⟩
      obtain ⟨g1, g2⟩ := hE z4 0 0 agX
      have MP : f_Mo_put (nI p) x (nI u) τ1 = (nI m, XE) ∧ k_Mo_put (nI p) x (nI u) τ1 := by
        have cst : cost 10 = 3069 := rfl
        by_cases w : nrd τ x σ2 p
        · obtain ⟨q1, q2, q3, s', q4, q5, q6⟩ := g2 w (Nat.le_refl p) w (Or.inl ⟨rfl, rfl⟩) (by omega) (by omega)
          rw [if_pos rfl] at q5 q6
          have c26 : XE.1 26 p = nI m := by rw [q2.2 p (Nat.le_refl p), rv_in w.1 w.2.1]; exact q1
          obtain ⟨r1', r2'⟩ := pm_E (s := s') (t0 := p) (x4 := nI p) (by omega) (by omega) c26 (by omega)
          exact ⟨ePM.trans (q5.trans r1'), kPM (q6 r2')⟩
        · obtain ⟨q1, q2, q3⟩ := g1 w
          have c26 : X0.1 26 p = nI m := by rw [agX.2 p (Nat.le_refl p)]; exact q3.symm
          obtain ⟨r1', r2'⟩ := pm_E (s := 0) (t0 := p) (x4 := nI p) (by omega) (by omega) c26 (by omega)
          rw [q1]
          exact ⟨ePM.trans r1', kPM r2'⟩
      obtain ⟨d1, d2, d3⟩ := Pc.enter (cd := cd_instance) (al := al4) (nm := 17185) (c3 := 3) (c4 := 4) (by omega) hf (fun _ => ⟨fs_3_17185 _, rfl, by decide, Or.inr (Or.inr (Or.inl rfl))⟩) (fs_4_17185 _) ⟨rfl, by decide, Or.inr (Or.inr (Or.inr rfl))⟩
      have z4' : f_Pu_failed σf = 0 := f4.trans z4
      have e205 : f_Mo_instance_205 (nI u) 17185 x (nI p) τ1 = ((f_Mo_enter (Xf.1 0 25) 17185 Xf).1, (f_Mo_enter (Xf.1 0 25) 17185 Xf).2) := by
        show f_Mo_instance_222 17185 (f_Mo_join (f_Mo_put (nI p) x (nI u) τ1).1 (f_Mo_put (nI p) x (nI u) τ1).2) = _
        rw [MP.1]
        show f_Mo_instance_222 17185 (f_Mo_join (nI m) XE) = _
        rw [hXf]; rfl
      have e128 : f_CL_instance_128 σf = xb (f_CL_enterRow (f_Sc_innermost σf) 0 σf) (fun x u => (.inl x, u)) := by
        show (if f_Pu_failed σf = 0 then xb (f_CL_enterRow (f_Sc_innermost σf) 0 σf) (fun x u => (.inl x, u)) else _) = _
        rw [if_pos z4']
      obtain ⟨K1, K2⟩ := KK ⟨kfa, fun _ => ⟨trivial, d1, fun _ _ => trivial⟩, fun z => absurd z4' z⟩ (k104 ⟨kJ, ⟨MP.2, by
        rw [MP.1]
        refine ⟨c2, ?_⟩
        show k_Mo_instance_222 17185 (f_Mo_join (nI m) XE)
        rw [hXf]; exact ⟨d2, trivial⟩⟩⟩)
      refine ⟨K1, K2, ?_⟩
      rw [e128, e205, xb_id]; exact d3
    · obtain ⟨k104, f104⟩ := cB (fun z => hc (clY.mpr (fun j hj => z j (Nat.zero_le j) hj)))
      have z4 : ¬ σ3.1 22 4 = 0 := fun z => hc (iffc.mp z)
      have z4' : ¬ f_Pu_failed σf = 0 := fun z => z4 (f4.symm.trans z)
      have e128 : f_CL_instance_128 σf = (.inr 2, un σf) := by
        show (if f_Pu_failed σf = 0 then _ else ((.inr 2, un σf) : XR)) = _
        rw [if_neg z4']
      obtain ⟨K1, K2⟩ := KK ⟨kfa, fun z => absurd z z4', fun _ => ⟨kthr2 σf, fun _ _ => trivial⟩⟩ k104
      refine ⟨K1, K2, ?_⟩
      rw [f104, e128, (fs_2_17185 Y).2]
      have fmYX : fmP Y Xf := (((fmP.ofM fmA).tr (fmP.ofM fmB)).tr fm0).tr (o7.tr (fmP.ofM fmC))
      have ivf := IV.refuse Pc.1.1 Pc.2.1 Pc.2.2.2.2.1 hf 2
      have rwY : rwM n τ Y := fun c q1 q2 j hj => by rw [mY.1 c (by omega)]; exact rw_bg n τ c q1 q2 j hj
      have ivY : IV n q c k (f + 1) (un σf) (fl 2 Y) := by
        refine ivf.congR (fun c q1 q2 j hj => ?_) (fun y hy => ?_) (fun j hj => ?_)
        · rw [rw_fl n Y 2 c q1 q2 j hj, rw_fl n Xf 2 c q1 q2 j hj, rwY c q1 q2 j hj, Pc.2.2.1 c q1 q2 j hj]
        · rw [fl_c 2 Y (by omega), fl_c 2 Xf (by omega), fmYX.1 y (by omega)]
        · rcases hj with rfl | rfl | rfl | rfl | rfl | rfl | rfl | rfl
          · show Y.1 0 1 + 1 = Xf.1 0 1 + 1
            rw [fmYX.2 1 (by omega) (by omega) (by omega)]
          · show Y.1 0 2 = Xf.1 0 2
            rw [fmYX.2 2 (by omega) (by omega) (by omega)]
          · show Y.1 0 3 = Xf.1 0 3
            rw [fmYX.2 3 (by omega) (by omega) (by omega)]
          · show Y.1 0 9 = Xf.1 0 9
            rw [fmYX.2 9 (by omega) (by omega) (by omega)]
          · show Y.1 0 19 = Xf.1 0 19
            rw [fmYX.2 19 (by omega) (by omega) (by omega)]
          · show Y.1 0 24 = Xf.1 0 24
            rw [fmYX.2 24 (by omega) (by omega) (by omega)]
          · show Y.1 0 25 = Xf.1 0 25
            rw [fmYX.2 25 (by omega) (by omega) (by omega)]
          · show Y.1 0 30 = Xf.1 0 30
            rw [fmYX.2 30 (by omega) (by omega) (by omega)]
      refine ⟨⟨fun x hx => ?_, fun E hE => ?_⟩, fun E hE => ?_, ⟨n, q, c, k, f + 1, Nat.le_refl n, ivY⟩, rwY.tr (rw_fl n Y 2) (Nat.le_refl n)⟩
      · cases hx
      · cases hE; exact ⟨rfl, by decide⟩
      · cases hE; exact Or.inr (Or.inl rfl)
  · obtain ⟨e1, e2⟩ := (op_shut h).2 hf
    have eC : f_CL_instance a b σ = (.inl (-1), σ) := by
      show (if f_CL_isShut σ = 0 then _ else _) = _
      rw [if_neg e1]
    have eM : f_Mo_instance a b τ = (-1, bg τ) := by
      show f_Mo_instance_4 a b (f_Mo_begin τ).1 (f_Mo_begin τ).2 = _
      rw [e2]
      show (if (1 : Int32) = 0 then _ else _) = _
      rw [if_neg (by decide)]
    refine ⟨⟨k_shut σ, fun z => absurd z e1, fun _ => trivial⟩, ⟨k_begin τ, ?_⟩, ?_⟩
    · rw [e2]; exact ⟨fun z => absurd z (show ¬ (1 : Int32) = 0 by decide), fun _ => trivial⟩
    · rw [eC, eM]; exact res_shut h
end INST
