-- replace
theorem frM.sy {a b : St} (h : frM a b) : frM b a := ⟨fun k hk => (h.1 k hk).symm, fun j q1 q2 => (h.2.1 j q1 q2).symm, h.2.2.symm⟩
theorem rwM.sy {n : Nat} {a b : St} (h : rwM n a b) : rwM n b a := fun c0 q1 q2 j hj => (h c0 q1 q2 j hj).symm
section RPL
variable {n0 n r q c k f : Nat} {τb σ τ : St}
/-- two parts side by side: alike, of unlike sorts, or their inequality joins the row -/
theorem PK.diff {p p2 : Nat} (h : PK n0 n r q c k f τb σ τ) (hn : n ≤ 205) (hr : r < 68) (hp : p < n) (hp2 : p2 < n) :
    k_CL_joinDifference (nI p) (nI p2) σ ∧ ((¬ τ.1 6 p = τ.1 6 p2 ∧ f_CL_joinDifference (nI p) (nI p2) σ = (0, σ)) ∨ (τ.1 6 p = τ.1 6 p2 ∧ k_Mo_joinUnequal (nI p) (nI p2) τ ∧
      ∃ n' r' σ' τ', f_CL_joinDifference (nI p) (nI p2) σ = (1, σ') ∧ f_Mo_joinUnequal (nI p) (nI p2) τ = τ' ∧ n ≤ n' ∧ n' ≤ n + 2 ∧ r ≤ r' ∧ r' ≤ r + 1 ∧ PK n0 n' r' q c k f τb σ' τ' ∧ rwM n τ τ' ∧ frM τ τ')) := by
  by_cases e : p = p2
  · subst e
    refine ⟨⟨fun _ => trivial, fun z => absurd rfl z⟩, Or.inr ⟨rfl, ⟨fun _ => trivial, fun z => absurd rfl z⟩, n, r, σ, τ, ?_, ?_, Nat.le_refl n, by omega, Nat.le_refl r, by omega, h, fun _ _ _ _ _ => rfl, frM.rf τ⟩⟩
    · show (if nI p = nI p then ((1 : Int32), σ) else _) = _
      rw [if_pos rfl]
    · show (if nI p = nI p then τ else _) = _
      rw [if_pos rfl]
  · have ne : ¬ nI p = nI p2 := fun z => e ((nI_inj (by omega) (by omega)).mp z)
    obtain ⟨⟨-, s1, -⟩, -, k1, -⟩ := h.acc (by omega) hp
    obtain ⟨⟨-, s2, -⟩, -, k2, -⟩ := h.acc (by omega) hp2
    have eC : f_CL_joinDifference (nI p) (nI p2) σ = if τ.1 6 p = τ.1 6 p2 then f_CL_joinDifference_45 (f_Te_equation (nI p) (nI p2) σ).1 (f_Te_equation (nI p) (nI p2) σ).2 else (0, σ) := by
      show (if nI p = nI p2 then _ else (if f_Te_sortOf (nI p) σ = f_Te_sortOf (nI p2) σ then f_CL_joinDifference_45 (f_Te_equation (nI p) (nI p2) σ).1 (f_Te_equation (nI p) (nI p2) σ).2 else (0, σ))) = _
      rw [if_neg ne, s1, s2]
    by_cases hs : τ.1 6 p = τ.1 6 p2
    · obtain ⟨a1, a2, m, n1, σ1, τ1, f1, f2, a3, a4, a5, a6, a7, a8, a9, a10⟩ := TT.equation h.1 (by omega) hp hp2 hs
      have P1 := h.made a4 a6 a7 a8 a9 a10
      obtain ⟨b1, b2, m2, n2, σ2, τ2, f3, f4, b3, b4, b5, b6, b7, b8, b9, b10⟩ := TT.opposite P1.1 (by omega) a3
      have P2 := P1.made b4 b6 b7 b8 b9 b10
      obtain ⟨d1, d2, r', d3, d4, d5, d6⟩ := P2.join hr b3 (by omega)
      obtain ⟨_, _, _, _, _, _, _, d7, _⟩ := TR.join P2.1 hr (nI_ne_m1 (i := m2) (by have := b3.1; omega))
      refine ⟨⟨fun z => absurd z ne, fun _ => ⟨k1, k2, fun _ => ⟨a1, ?_⟩, fun _ => trivial⟩⟩, Or.inr ⟨hs, ⟨fun z => absurd z ne, fun _ => ⟨a2, ?_⟩⟩, n2, r', f_Ro_join (nI m2) σ2, f_Mo_join (nI m2) τ2, ?_, ?_, by omega, by omega, d3, d4, d5, ?_, (a9.tr b9).tr d7⟩⟩
      · rw [f1]; refine ⟨b1, ?_⟩; rw [f3]; exact ⟨d1, trivial⟩
      · rw [f2]; refine ⟨⟨fun _ => ⟨b2, ?_⟩, fun z => absurd rfl z⟩, trivial⟩; rw [f4]; exact ⟨d2, trivial⟩
      · rw [eC, if_pos hs, f1]
        show (1, f_Ro_join (f_Te_opposite (nI m) σ1).1 (f_Te_opposite (nI m) σ1).2) = _
        rw [f3]
      · show (if nI p = nI p2 then _ else f_Mo_joinAs (f_Mo_made 5 (nI p) (nI p2) τ).1 0 (f_Mo_made 5 (nI p) (nI p2) τ).2) = _
        rw [if_neg ne, f2]
        show (if (0 : Int32) = 0 then f_Mo_join (f_Mo_opposite (nI m) τ1).1 (f_Mo_opposite (nI m) τ1).2 else _) = _
        rw [if_pos rfl, f4]
      · exact fun c0 q1 q2 j hj => by rw [d6 c0 q1 q2]; exact (a7.tr b7 a4) c0 q1 q2 j hj
    · exact ⟨⟨fun z => absurd z ne, fun _ => ⟨k1, k2, fun z => absurd (s1.symm.trans (z.trans s2)) hs, fun _ => trivial⟩⟩, Or.inl ⟨hs, by rw [eC, if_neg hs]⟩⟩
/-- two rows of one kind and one name have as many parts, and one sort -/
theorem IV.arity {t u : Nat} (h : IV n q c k f σ τ) (ht : t < n) (hu : u < n) (hk : τ.1 5 t = τ.1 5 u) (hl : τ.1 10 t = τ.1 10 u) (h8 : ¬ τ.1 8 t = -1) (h10 : ¬ τ.1 5 t = 10) : ¬ τ.1 8 u = -1 ∧ (τ.1 9 t = -1 ↔ τ.1 9 u = -1) ∧ τ.1 6 t = τ.1 6 u := by
  obtain ⟨hW, hK⟩ := h.row ht
  obtain ⟨hWu, hKu⟩ := h.row hu
  obtain ⟨ny, y1, y2, y3⟩ := h.2.2.2.1.2
  obtain ⟨sk, sk1, sk2⟩ := hW.2.2.2.1
  have key : ∀ x : Int32, τ.1 5 t = x → τ.1 5 u = x := fun x hx => hk.symm.trans hx
  by_cases z0 : τ.1 5 t = 0
  · obtain ⟨i, i1, i2, i3, i4, i5⟩ := (y3 t ht).1 z0
    obtain ⟨j, j1, j2, j3, j4, j5⟩ := (y3 u hu).1 (key 0 z0)
    have e : i = j := (nI_inj (by omega) (by omega)).mp (i2.symm.trans (hl.trans j2))
    subst e
    exact ⟨fun z => h8 (i3.mpr (j3.mp z)), i4.trans j4.symm, i5.trans j5.symm⟩
  by_cases z1 : τ.1 5 t = 1
  · exact absurd (hK.2.1 z1).1 h8
  by_cases z2 : τ.1 5 t = 2
  · exact absurd (hW.2.2.2.2.2.2.1 z2).1 h8
  by_cases z3 : τ.1 5 t = 3
  · obtain ⟨a1, a2, -, a4, -⟩ := hK.2.2.1 z3
    obtain ⟨b1, b2, -, b4, -⟩ := hKu.2.2.1 (key 3 z3)
    exact ⟨b1, ⟨fun z => absurd z a2, fun z => absurd z b2⟩, a4.trans b4.symm⟩
  by_cases z4 : τ.1 5 t = 4
  · obtain ⟨a1, a2, -, a4, -⟩ := hK.2.2.2.1 z4
    obtain ⟨b1, b2, -, b4, -⟩ := hKu.2.2.2.1 (key 4 z4)
    exact ⟨b1, ⟨fun z => absurd z a2, fun z => absurd z b2⟩, a4.trans b4.symm⟩
  by_cases z5 : τ.1 5 t = 5
  · obtain ⟨a1, a2, -, a4, -⟩ := hK.2.2.2.2.1 z5
    obtain ⟨b1, b2, -, b4, -⟩ := hKu.2.2.2.2.1 (key 5 z5)
    exact ⟨b1, ⟨fun z => absurd z a2, fun z => absurd z b2⟩, a4.trans b4.symm⟩
  by_cases z6 : τ.1 5 t = 6
  · obtain ⟨a1, a2, -, a4, -⟩ := hK.2.2.2.2.2.1 z6
    obtain ⟨b1, b2, -, b4, -⟩ := hKu.2.2.2.2.2.1 (key 6 z6)
    exact ⟨b1, ⟨fun z => absurd z a2, fun z => absurd z b2⟩, a4.trans b4.symm⟩
  by_cases z7 : τ.1 5 t = 7
  · obtain ⟨a1, a2, -, a4, -⟩ := hK.2.2.2.2.2.2.1 z7
    obtain ⟨b1, b2, -, b4, -⟩ := hKu.2.2.2.2.2.2.1 (key 7 z7)
    exact ⟨b1, ⟨fun _ => b2, fun _ => a2⟩, a4.trans b4.symm⟩
  by_cases z8 : τ.1 5 t = 8
  · obtain ⟨a1, a2, -, a4, -⟩ := hK.2.2.2.2.2.2.2.1 z8
    obtain ⟨b1, b2, -, b4, -⟩ := hKu.2.2.2.2.2.2.2.1 (key 8 z8)
    exact ⟨b1, ⟨fun z => absurd z a2, fun z => absurd z b2⟩, a4.trans b4.symm⟩
  by_cases z9 : τ.1 5 t = 9
  · obtain ⟨a1, a2, -, a4, -⟩ := hK.2.2.2.2.2.2.2.2.1 z9
    obtain ⟨b1, b2, -, b4, -⟩ := hKu.2.2.2.2.2.2.2.2.1 (key 9 z9)
    exact ⟨b1, ⟨fun z => absurd z a2, fun z => absurd z b2⟩, a4.trans b4.symm⟩
  exfalso
  have hs : sk = 0 ∨ sk = 1 ∨ sk = 2 ∨ sk = 3 ∨ sk = 4 ∨ sk = 5 ∨ sk = 6 ∨ sk = 7 ∨ sk = 8 ∨ sk = 9 ∨ sk = 10 := by omega
  rcases hs with rfl | rfl | rfl | rfl | rfl | rfl | rfl | rfl | rfl | rfl | rfl
  · exact z0 (sk2.trans (by decide +kernel))
  · exact z1 (sk2.trans (by decide +kernel))
  · exact z2 (sk2.trans (by decide +kernel))
  · exact z3 (sk2.trans (by decide +kernel))
  · exact z4 (sk2.trans (by decide +kernel))
  · exact z5 (sk2.trans (by decide +kernel))
  · exact z6 (sk2.trans (by decide +kernel))
  · exact z7 (sk2.trans (by decide +kernel))
  · exact z8 (sk2.trans (by decide +kernel))
  · exact z9 (sk2.trans (by decide +kernel))
  · exact h10 (sk2.trans (by decide +kernel))
/-- how both sides end -/
theorem rp_fin {t u n1 r1 : Nat} {σ1 τ1 : St} (h : PK n n1 r1 q c k f τ σ1 τ1) (hn : n1 ≤ 205) (hr : r1 < 68) (ht : t < n1) (hu : u < n1) (hs : τ1.1 6 t = τ1.1 6 u) (hf : f < 60) :
    k_CL_replace_95 (nI t) (nI u) 1 σ1 ∧ k_Mo_replace_229 (nI t) (nI u) 17185 τ1 ∧ RES n τ (f_CL_replace_95 (nI t) (nI u) 1 σ1) (f_Mo_replace_229 (nI t) (nI u) 17185 τ1) cd_replace al4 := by
  obtain ⟨w1, w2, w3, w4, n3, r3, σ3, τ3, s5, s6, w5, w6, w7, w8, w9, w10⟩ := h.joinEqn (p := t) (p2 := u) (by omega) (by omega) ht hu hs
  obtain ⟨d1, d2, d3⟩ := w9.enter (cd := cd_replace) (al := al4) (nm := 17185) (c3 := 3) (c4 := 4) (by omega) hf (fun _ => ⟨fs_3_17185 _, rfl, by decide, Or.inr (Or.inr (Or.inl rfl))⟩) (fs_4_17185 _) ⟨rfl, by decide, Or.inr (Or.inr (Or.inr rfl))⟩
  refine ⟨⟨fun z => absurd z (by decide), fun _ => ⟨w1, w2, ?_⟩⟩, ⟨w3, w4, ?_⟩, ?_⟩
  · rw [s5]; exact ⟨trivial, d1, fun _ _ => trivial⟩
  · rw [s6]; exact ⟨d2, trivial⟩
  · have e1 : f_CL_replace_95 (nI t) (nI u) 1 σ1 = f_CL_replace_119 (f_Ro_join (f_Te_equation (nI t) (nI u) σ1).1 (f_Te_equation (nI t) (nI u) σ1).2) := by
      show (if (1 : Int32) = 0 then _ else f_CL_replace_119 (f_Ro_join (f_Te_equation (nI t) (nI u) σ1).1 (f_Te_equation (nI t) (nI u) σ1).2)) = _
      rw [if_neg (by decide)]
    rw [e1, s5]
    show RES n τ (xb (f_CL_enterRow (f_Sc_innermost σ3) 0 σ3) (fun x u => (.inl x, u))) (f_Mo_replace_240 17185 (f_Mo_join (f_Mo_made 5 (nI t) (nI u) τ1).1 (f_Mo_made 5 (nI t) (nI u) τ1).2)) _ _
    rw [s6, xb_id]; exact d3
theorem op_replace (a b : Int32) (h : IV n q c k f σ τ) : k_CL_replace a b σ ∧ k_Mo_replace a b τ ∧ RES n τ (f_CL_replace a b σ) (f_Mo_replace a b τ) cd_replace al4 := by
  have hn := h.1
  by_cases hf : f < 60
  · obtain ⟨e1, e2⟩ := (op_shut h).1 hf
    have eC : f_CL_replace a b σ = if f_Te_has a σ = 0 then (.inr 1, un σ) else (if f_Te_has b σ = 0 then (.inr 1, un σ) else f_CL_replace_43 a b (sF σ 25 1 0)) := by
      show (if f_CL_isShut σ = 0 then (if f_Te_has a σ = 0 then (.inr 1, un σ) else (if f_Te_has b σ = 0 then (.inr 1, un σ) else f_CL_replace_43 a b (sF σ 25 1 0))) else _) = _
      rw [if_pos e1]
    have eM : f_Mo_replace a b τ = if f_Mo_isTerm a (bg τ) = 0 then f_Mo_replace_29 17185 (bg τ) else (if f_Mo_isTerm b (bg τ) = 0 then f_Mo_replace_29 17185 (bg τ) else f_Mo_replace_44 a b 17185 (τ.1 5 a.toNatClampNeg) (bg τ)) := by
      show f_Mo_replace_4 a b (f_Mo_begin τ).1 (f_Mo_begin τ).2 = _
      rw [e2]
      show (if (0 : Int32) = 0 then _ else _) = _
      rw [if_pos rfl]; rfl
    have e29 : f_Mo_replace_29 17185 (bg τ) = (0, fl 1 (bg τ)) := by
      show ((f_Mo_fails 1 17185 (bg τ)).1, (f_Mo_fails 1 17185 (bg τ)).2) = _
      rw [(fs_1_17185 _).2]
    have k29 : k_Mo_replace_29 17185 (bg τ) := ⟨(fs_1_17185 _).1, trivial⟩
    have k31 : k_CL_replace_31 σ := ⟨kthr1 σ, fun _ _ => trivial⟩
    have R1 : RES n τ (.inr 1, un σ) (0, fl 1 (bg τ)) cd_replace al4 := h.refuse0 hf rfl (by decide) (Or.inl rfl)
    rcases arg_cases a n with ha | ⟨t, ht, rfl⟩
    · obtain ⟨g1, g2⟩ := (op_has h a).1 ha
      refine ⟨⟨k_shut σ, fun _ => ⟨k_has a σ, fun _ => k31, fun z => absurd g1 z⟩, fun _ => trivial⟩, ⟨k_begin τ, ?_⟩, ?_⟩
      · rw [e2]; exact ⟨fun _ => ⟨kk_isTerm a (bg τ), fun _ => k29, fun z => absurd g2 z⟩, fun _ => trivial⟩
      · rw [eC, eM, if_pos g1, if_pos g2, e29]; exact R1
    · obtain ⟨g1, g2⟩ := (op_has h (nI t)).2 (nI_arg ht hn)
      have hcl : (nI t).toNatClampNeg = t := nI_clamp (by omega)
      have hin : vp_in (nI t) 400 := by rw [in_iff, i_nI (by omega)]; omega
      rcases arg_cases b n with hb | ⟨u, hu, rfl⟩
      · obtain ⟨g3, g4⟩ := (op_has h b).1 hb
        refine ⟨⟨k_shut σ, fun _ => ⟨k_has _ σ, fun z => absurd z g1, fun _ => ⟨k_has b σ, fun _ => k31, fun z => absurd g3 z⟩⟩, fun _ => trivial⟩, ⟨k_begin τ, ?_⟩, ?_⟩
        · rw [e2]; exact ⟨fun _ => ⟨kk_isTerm _ (bg τ), fun z => absurd z g2, fun _ => ⟨kk_isTerm b (bg τ), fun _ => k29, fun z => absurd g4 z⟩⟩, fun _ => trivial⟩
        · rw [eC, eM, if_neg g1, if_neg g2, if_pos g3, if_pos g4, e29]; exact R1
      · obtain ⟨g3, g4⟩ := (op_has h (nI u)).2 (nI_arg hu hn)
        have hcu : (nI u).toNatClampNeg = u := nI_clamp (by omega)
        have hiu : vp_in (nI u) 400 := by rw [in_iff, i_nI (by omega)]; omega
        have P0 := PK.start h
        generalize hσ : sF σ 25 1 0 = σ0 at P0
        obtain ⟨⟨ek, -, ef, es, en⟩, kk, -, kf, ks, kn⟩ := P0.acc (by omega) ht
        obtain ⟨⟨eku, -, efu, esu, enu⟩, kku, -, kfu, ksu, knu⟩ := P0.acc (by omega) hu
        have ek : f_Te_kindOf (nI t) σ0 = τ.1 5 t := ek
        have ef : f_Te_firstOf (nI t) σ0 = τ.1 8 t := ef
        have es : f_Te_secondOf (nI t) σ0 = τ.1 9 t := es
        have en : f_Te_nameOf (nI t) σ0 = τ.1 10 t := en
        have eku : f_Te_kindOf (nI u) σ0 = τ.1 5 u := eku
        have efu : f_Te_firstOf (nI u) σ0 = τ.1 8 u := efu
        have esu : f_Te_secondOf (nI u) σ0 = τ.1 9 u := esu
        have enu : f_Te_nameOf (nI u) σ0 = τ.1 10 u := enu
        have k98 : ∀ X : St, k_CL_replace_98 X := fun X => ⟨kthr2 X, fun _ _ => trivial⟩
        have e98 : ∀ X : St, f_CL_replace_98 X = (.inr 2, un X) := fun X => rfl
        have e173 : f_Mo_replace_173 (nI t) (nI u) 17185 (bg τ) = (0, fl 2 (bg τ)) := by
          rw [f_Mo_replace_173, f_Mo_replace_174, if_pos rfl]
          show ((f_Mo_fails 2 17185 (bg τ)).1, (f_Mo_fails 2 17185 (bg τ)).2) = _
          rw [(fs_2_17185 _).2]
        have k173 : k_Mo_replace_173 (nI t) (nI u) 17185 (bg τ) := ⟨fun _ => ⟨(fs_2_17185 _).1, trivial⟩, fun z => absurd rfl z⟩
        have e102 : f_Mo_replace_102 (nI t) (nI u) 17185 (bg τ) = (0, fl 2 (bg τ)) := by
          rw [f_Mo_replace_102, f_Mo_replace_103, if_pos rfl, e173]
        have k102 : k_Mo_replace_102 (nI t) (nI u) 17185 (bg τ) := ⟨fun _ => k173, fun z => absurd rfl z⟩
        have KC : k_CL_replace_43 (nI t) (nI u) σ0 → k_CL_replace (nI t) (nI u) σ := fun g => ⟨k_shut σ, fun _ => ⟨k_has _ σ, fun z => absurd z g1, fun _ => ⟨k_has _ σ, fun z => absurd z g3, fun _ => ⟨trivial, by
          show k_CL_replace_43 (nI t) (nI u) (sF σ 25 1 0)
          rw [hσ]; exact g⟩⟩⟩, fun _ => trivial⟩
        have KM : k_Mo_replace_44 (nI t) (nI u) 17185 (τ.1 5 t) (bg τ) → k_Mo_replace (nI t) (nI u) τ := fun g => by
          refine ⟨k_begin τ, ?_⟩
          rw [e2]
          refine ⟨fun _ => ⟨kk_isTerm _ (bg τ), fun z => absurd z g2, fun _ => ⟨kk_isTerm _ (bg τ), fun z => absurd z g4, fun _ => ⟨hin, ?_⟩⟩⟩, fun _ => trivial⟩
          show k_Mo_replace_44 (nI t) (nI u) 17185 (τ.1 5 (nI t).toNatClampNeg) (bg τ)
          rw [hcl]; exact g
        have eR : f_CL_isReplaceable (nI t) (nI u) σ0 = if τ.1 5 t = τ.1 5 u then (if τ.1 5 t = 10 then 0 else (if τ.1 8 t = -1 then 0 else (if τ.1 10 t = τ.1 10 u then 1 else 0))) else 0 := by
          show (if f_Te_kindOf (nI t) σ0 = f_Te_kindOf (nI u) σ0 then (if f_Te_kindOf (nI t) σ0 = 10 then (0 : Int32) else (if f_Te_firstOf (nI t) σ0 = -1 then 0 else (if f_Te_nameOf (nI t) σ0 = f_Te_nameOf (nI u) σ0 then 1 else 0))) else 0) = _
          rw [ek, eku, ef, en, enu]
        have kR : k_CL_isReplaceable (nI t) (nI u) σ0 := ⟨kk, kku, fun _ => ⟨fun _ => ⟨rfl, trivial⟩, fun _ => ⟨kf, fun _ => ⟨rfl, trivial⟩, fun _ => ⟨kn, knu, fun _ => ⟨rfl, trivial⟩, fun _ => ⟨rfl, trivial⟩⟩⟩⟩, fun _ => ⟨rfl, trivial⟩⟩
        have e44 : f_Mo_replace_44 (nI t) (nI u) 17185 (τ.1 5 t) (bg τ) = if τ.1 5 t = τ.1 5 u then (if τ.1 5 t = 1 then (0, fl 2 (bg τ)) else (if τ.1 5 t = 2 then (0, fl 2 (bg τ)) else (if τ.1 5 t = 10 then (0, fl 2 (bg τ)) else (if τ.1 10 t = τ.1 10 u then (if τ.1 8 t < 0 then (0, fl 2 (bg τ)) else f_Mo_replace_103 (nI t) (nI u) 17185 1 (bg τ)) else (0, fl 2 (bg τ)))))) else (0, fl 2 (bg τ)) := by
          show (if τ.1 5 t = τ.1 5 (nI u).toNatClampNeg then (if τ.1 5 t = 1 then f_Mo_replace_102 (nI t) (nI u) 17185 (bg τ) else (if τ.1 5 t = 2 then f_Mo_replace_102 (nI t) (nI u) 17185 (bg τ) else (if τ.1 5 t = 10 then f_Mo_replace_102 (nI t) (nI u) 17185 (bg τ) else (if τ.1 10 (nI t).toNatClampNeg = τ.1 10 (nI u).toNatClampNeg then (if τ.1 8 (nI t).toNatClampNeg < 0 then f_Mo_replace_102 (nI t) (nI u) 17185 (bg τ) else f_Mo_replace_103 (nI t) (nI u) 17185 1 (bg τ)) else f_Mo_replace_102 (nI t) (nI u) 17185 (bg τ))))) else f_Mo_replace_102 (nI t) (nI u) 17185 (bg τ)) = _
          rw [hcl, hcu, e102]
        have k44 : (τ.1 5 t = τ.1 5 u → ¬ τ.1 5 t = 10 → ¬ τ.1 8 t = -1 → τ.1 10 t = τ.1 10 u → k_Mo_replace_103 (nI t) (nI u) 17185 1 (bg τ)) → k_Mo_replace_44 (nI t) (nI u) 17185 (τ.1 5 t) (bg τ) := fun g => by
          refine ⟨hiu, fun z1 => ⟨fun _ => k102, fun _ => ⟨fun _ => k102, fun _ => ⟨fun _ => k102, fun z2 => ⟨hin, hiu, fun z3 => ⟨hin, fun _ => k102, fun z4 => ?_⟩, fun _ => k102⟩⟩⟩⟩, fun _ => k102⟩
          have z1 : τ.1 5 t = τ.1 5 (nI u).toNatClampNeg := z1
          have z3 : τ.1 10 (nI t).toNatClampNeg = τ.1 10 (nI u).toNatClampNeg := z3
          have z4 : ¬ τ.1 8 (nI t).toNatClampNeg < 0 := z4
          rw [hcu] at z1; rw [hcl, hcu] at z3; rw [hcl] at z4
          exact g z1 z2 (fun z => z4 (by rw [z]; decide)) z3
        rw [eC, eM, if_neg g1, if_neg g2, if_neg g3, if_neg g4, hcl, hσ]
        by_cases hp : τ.1 5 t = τ.1 5 u ∧ ¬ τ.1 5 t = 10 ∧ ¬ τ.1 8 t = -1 ∧ τ.1 10 t = τ.1 10 u
        · obtain ⟨p1, p2, p3, p4⟩ := hp
          have r1 : f_CL_isReplaceable (nI t) (nI u) σ0 = 1 := by rw [eR, if_pos p1, if_neg p2, if_neg p3, if_pos p4]
          obtain ⟨hW, hK⟩ := h.row ht
          obtain ⟨hWu, -⟩ := h.row hu
          have c1 : ¬ τ.1 5 t = 1 := fun z => p3 (hK.2.1 z).1
          have c2 : ¬ τ.1 5 t = 2 := fun z => p3 (hW.2.2.2.2.2.2.1 z).1
          obtain ⟨q1, q2, q3⟩ := h.arity ht hu p1 p4 p3 p2
          obtain ⟨i, i1, i2⟩ := hW.1.resolve_left p3
          obtain ⟨j, j1, j2⟩ := hWu.1.resolve_left q1
          have hci : (nI i).toNatClampNeg = i := nI_clamp (by omega)
          have hcj : (nI j).toNatClampNeg = j := nI_clamp (by omega)
          have c4 : ¬ τ.1 8 t < 0 := by rw [i2]; exact nI_pos (by omega)
          have E103 : f_Mo_replace_44 (nI t) (nI u) 17185 (τ.1 5 t) (bg τ) = f_Mo_replace_103 (nI t) (nI u) 17185 1 (bg τ) := by rw [e44, if_pos p1, if_neg c1, if_neg c2, if_neg p2, if_pos p4, if_neg c4]
          have C72 : f_CL_replace_43 (nI t) (nI u) σ0 = f_CL_replace_72 (nI t) (nI u) (f_CL_joinDifference (nI i) (nI j) σ0).1 (f_CL_joinDifference (nI i) (nI j) σ0).2 := by
            show (if f_CL_isReplaceable (nI t) (nI u) σ0 = 0 then _ else f_CL_replace_72 (nI t) (nI u) (f_CL_joinDifference (f_Te_firstOf (nI t) σ0) (f_Te_firstOf (nI u) σ0) σ0).1 (f_CL_joinDifference (f_Te_firstOf (nI t) σ0) (f_Te_firstOf (nI u) σ0) σ0).2) = _
            rw [r1, if_neg (by decide), ef, efu, i2, j2]
          obtain ⟨x1, hc⟩ := P0.diff (p := i) (p2 := j) (by omega) (by omega) (by omega) (by omega)
          have K43 : k_CL_replace_72 (nI t) (nI u) (f_CL_joinDifference (nI i) (nI j) σ0).1 (f_CL_joinDifference (nI i) (nI j) σ0).2 → k_CL_replace (nI t) (nI u) σ := fun g => by
            refine KC ⟨kR, fun z => absurd (r1.symm.trans z) (by decide), fun _ => ⟨kf, kfu, ?_, ?_⟩⟩
            · rw [ef, efu, i2, j2]; exact x1
            · rw [ef, efu, i2, j2]; exact g
          have hii : vp_in (nI i) 400 := by rw [in_iff, i_nI (by omega)]; omega
          have hij : vp_in (nI j) 400 := by rw [in_iff, i_nI (by omega)]; omega
          have E0 : f_Mo_replace_103 (nI t) (nI u) 17185 1 (bg τ) = if τ.1 6 i = τ.1 6 j then (if τ.1 9 t < 0 then f_Mo_replace_169 (nI t) (nI u) 17185 (bg τ) else (if τ.1 6 (τ.1 9 t).toNatClampNeg = τ.1 6 (τ.1 9 u).toNatClampNeg then f_Mo_replace_169 (nI t) (nI u) 17185 (bg τ) else (0, fl 2 (bg τ)))) else (0, fl 2 (bg τ)) := by
            show (if (1 : Int32) = 0 then _ else (if τ.1 6 (τ.1 8 (nI t).toNatClampNeg).toNatClampNeg = τ.1 6 (τ.1 8 (nI u).toNatClampNeg).toNatClampNeg then (if τ.1 9 (nI t).toNatClampNeg < 0 then f_Mo_replace_169 (nI t) (nI u) 17185 (bg τ) else (if τ.1 6 (τ.1 9 (nI t).toNatClampNeg).toNatClampNeg = τ.1 6 (τ.1 9 (nI u).toNatClampNeg).toNatClampNeg then f_Mo_replace_169 (nI t) (nI u) 17185 (bg τ) else f_Mo_replace_173 (nI t) (nI u) 17185 (bg τ))) else f_Mo_replace_173 (nI t) (nI u) 17185 (bg τ))) = _
            rw [if_neg (by decide), hcl, hcu, i2, j2, hci, hcj, e173]
          have KM0 : (τ.1 6 i = τ.1 6 j → (¬ τ.1 9 t < 0 → vp_in (τ.1 9 t) 400 ∧ vp_in (τ.1 9 u) 400) ∧ ((τ.1 9 t < 0 ∨ τ.1 6 (τ.1 9 t).toNatClampNeg = τ.1 6 (τ.1 9 u).toNatClampNeg) → k_Mo_replace_169 (nI t) (nI u) 17185 (bg τ))) → k_Mo_replace (nI t) (nI u) τ := fun g => by
            refine KM (k44 (fun _ _ _ _ => ?_))
            refine ⟨fun z => absurd z (by decide), fun _ => ⟨hin, ?_, hiu, ?_, fun z1 => ?_, fun _ => k173⟩⟩
            · show vp_in (τ.1 8 (nI t).toNatClampNeg) 400
              rw [hcl, i2]; exact hii
            · show vp_in (τ.1 8 (nI u).toNatClampNeg) 400
              rw [hcu, j2]; exact hij
            · have z1 : τ.1 6 (τ.1 8 (nI t).toNatClampNeg).toNatClampNeg = τ.1 6 (τ.1 8 (nI u).toNatClampNeg).toNatClampNeg := z1
              rw [hcl, hcu, i2, j2, hci, hcj] at z1
              obtain ⟨g5, g6⟩ := g z1
              refine ⟨hin, fun z2 => ?_, fun z2 => ?_⟩
              · have z2 : τ.1 9 (nI t).toNatClampNeg < 0 := z2
                rw [hcl] at z2
                exact g6 (Or.inl z2)
              · have z2 : ¬ τ.1 9 (nI t).toNatClampNeg < 0 := z2
                rw [hcl] at z2
                refine ⟨hin, ?_, hiu, ?_, fun z3 => ?_, fun _ => k173⟩
                · show vp_in (τ.1 9 (nI t).toNatClampNeg) 400
                  rw [hcl]; exact (g5 z2).1
                · show vp_in (τ.1 9 (nI u).toNatClampNeg) 400
                  rw [hcu]; exact (g5 z2).2
                · have z3 : τ.1 6 (τ.1 9 (nI t).toNatClampNeg).toNatClampNeg = τ.1 6 (τ.1 9 (nI u).toNatClampNeg).toNatClampNeg := z3
                  rw [hcl, hcu] at z3
                  exact g6 (Or.inr z3)
          have hv : ¬ τ.1 9 t < 0 → vp_in (τ.1 9 t) 400 ∧ vp_in (τ.1 9 u) 400 := fun z => by
            have z1 : ¬ τ.1 9 t = -1 := fun w => z (by rw [w]; decide)
            exact ⟨fd_hino (n := t) (by omega) hW.2.1 z1, fd_hino (n := u) (by omega) hWu.2.1 (fun w => z1 (q2.mpr w))⟩
          have E169 : ∀ τ1 : St, f_Mo_joinUnequal (nI i) (nI j) (bg τ) = τ1 → f_Mo_replace_169 (nI t) (nI u) 17185 (bg τ) = f_Mo_replace_204 (nI t) (nI u) 17185 τ1 := fun τ1 e => by
            rw [f_Mo_replace_169, f_Mo_replace_174, if_neg (by decide)]
            show f_Mo_replace_204 (nI t) (nI u) 17185 (f_Mo_joinUnequal (τ.1 8 (nI t).toNatClampNeg) (τ.1 8 (nI u).toNatClampNeg) (bg τ)) = _
            rw [hcl, hcu, i2, j2, e]
          have K169 : ∀ τ1 : St, f_Mo_joinUnequal (nI i) (nI j) (bg τ) = τ1 → k_Mo_joinUnequal (nI i) (nI j) (bg τ) → k_Mo_replace_204 (nI t) (nI u) 17185 τ1 → k_Mo_replace_169 (nI t) (nI u) 17185 (bg τ) := fun τ1 e w1 w2 => by
            refine ⟨fun z => absurd z (by decide), fun _ => ⟨hin, hiu, ?_, ?_⟩⟩
            · show k_Mo_joinUnequal (τ.1 8 (nI t).toNatClampNeg) (τ.1 8 (nI u).toNatClampNeg) (bg τ)
              rw [hcl, hcu, i2, j2]; exact w1
            · show k_Mo_replace_204 (nI t) (nI u) 17185 (f_Mo_joinUnequal (τ.1 8 (nI t).toNatClampNeg) (τ.1 8 (nI u).toNatClampNeg) (bg τ))
              rw [hcl, hcu, i2, j2, e]; exact w2
          rw [E103, C72, E0]
          rcases hc with ⟨s1, f1⟩ | ⟨s1, x2, n1, r1, σ1, τ1, f1, f2, y1, y2, y3, y4, P1, y5, y6⟩
          · have s1 : ¬ τ.1 6 i = τ.1 6 j := s1
            rw [f1, if_neg s1]
            refine ⟨K43 (by rw [f1]; exact ⟨fun _ => k98 _, fun z => absurd rfl z⟩), KM0 (fun z => absurd z s1), ?_⟩
            show RES n τ (if (0 : Int32) = 0 then f_CL_replace_98 σ0 else _) _ _ _
            rw [if_pos rfl, e98]
            exact P0.refuse hf rfl (by decide) (Or.inr (Or.inl rfl))
          · have s1 : τ.1 6 i = τ.1 6 j := s1
            have ag : ∀ c0, 5 ≤ c0 → c0 ≤ 13 → ∀ x, x < n → τ1.1 c0 x = τ.1 c0 x := fun c0 w1 w2 x hx => (y5 c0 w1 w2 x hx).trans (rw_bg n τ c0 w1 w2 x hx)
            obtain ⟨⟨-, -, -, es1, -⟩, -, -, -, ks1, -⟩ := P1.acc (by omega) (t := t) (by omega)
            obtain ⟨⟨-, -, -, esu1, -⟩, -, -, -, ksu1, -⟩ := P1.acc (by omega) (t := u) (by omega)
            rw [ag 9 (by omega) (by omega) t ht] at es1
            rw [ag 9 (by omega) (by omega) u hu] at esu1
            rw [if_pos s1]
            have C95 : f_CL_replace_72 (nI t) (nI u) 1 σ1 = f_CL_replace_95 (nI t) (nI u) (f_CL_joinDifference (τ.1 9 t) (τ.1 9 u) σ1).1 (f_CL_joinDifference (τ.1 9 t) (τ.1 9 u) σ1).2 := by
              show (if (1 : Int32) = 0 then _ else f_CL_replace_95 (nI t) (nI u) (f_CL_joinDifference (f_Te_secondOf (nI t) σ1) (f_Te_secondOf (nI u) σ1) σ1).1 (f_CL_joinDifference (f_Te_secondOf (nI t) σ1) (f_Te_secondOf (nI u) σ1) σ1).2) = _
              rw [if_neg (by decide), es1, esu1]
            have K72 : k_CL_joinDifference (τ.1 9 t) (τ.1 9 u) σ1 → k_CL_replace_95 (nI t) (nI u) (f_CL_joinDifference (τ.1 9 t) (τ.1 9 u) σ1).1 (f_CL_joinDifference (τ.1 9 t) (τ.1 9 u) σ1).2 → k_CL_replace (nI t) (nI u) σ := fun w1 w2 => by
              refine K43 ?_
              rw [f1]
              refine ⟨fun z => absurd z (show ¬ (1 : Int32) = 0 by decide), fun _ => ⟨ks1, ksu1, ?_, ?_⟩⟩
              · rw [es1, esu1]; exact w1
              · rw [es1, esu1]; exact w2
            have E204 : f_Mo_replace_204 (nI t) (nI u) 17185 τ1 = if τ.1 9 t < 0 then f_Mo_replace_229 (nI t) (nI u) 17185 τ1 else f_Mo_replace_229 (nI t) (nI u) 17185 (f_Mo_joinUnequal (τ.1 9 t) (τ.1 9 u) τ1) := by
              show (if τ1.1 9 (nI t).toNatClampNeg < 0 then f_Mo_replace_229 (nI t) (nI u) 17185 τ1 else f_Mo_replace_229 (nI t) (nI u) 17185 (f_Mo_joinUnequal (τ1.1 9 (nI t).toNatClampNeg) (τ1.1 9 (nI u).toNatClampNeg) τ1)) = _
              rw [hcl, hcu, ag 9 (by omega) (by omega) t ht, ag 9 (by omega) (by omega) u hu]
            have K204 : (τ.1 9 t < 0 → k_Mo_replace_229 (nI t) (nI u) 17185 τ1) → (¬ τ.1 9 t < 0 → k_Mo_joinUnequal (τ.1 9 t) (τ.1 9 u) τ1 ∧ k_Mo_replace_229 (nI t) (nI u) 17185 (f_Mo_joinUnequal (τ.1 9 t) (τ.1 9 u) τ1)) → k_Mo_replace_204 (nI t) (nI u) 17185 τ1 := fun w1 w2 => by
              refine ⟨hin, ?_⟩
              rw [hcl, hcu, ag 9 (by omega) (by omega) t ht, ag 9 (by omega) (by omega) u hu]
              exact ⟨w1, fun z => ⟨hin, hiu, (w2 z).1, (w2 z).2⟩⟩
            have q31 : τ1.1 6 t = τ1.1 6 u := by rw [ag 6 (by omega) (by omega) t ht, ag 6 (by omega) (by omega) u hu]; exact q3
            by_cases h9 : τ.1 9 t = -1
            · have h9u := q2.mp h9
              have hlt : τ.1 9 t < 0 := by rw [h9]; decide
              obtain ⟨d1, d2, d3⟩ := rp_fin P1 (by omega) (by omega) (t := t) (u := u) (by omega) (by omega) q31 hf
              have ej : f_CL_joinDifference (τ.1 9 t) (τ.1 9 u) σ1 = (1, σ1) := by
                rw [h9, h9u]
                show (if (-1 : Int32) = -1 then ((1 : Int32), σ1) else _) = _
                rw [if_pos rfl]
              refine ⟨K72 (by rw [h9, h9u]; exact ⟨fun _ => trivial, fun z => absurd rfl z⟩) (by rw [ej]; exact d1), KM0 (fun _ => ⟨hv, fun _ => K169 τ1 f2 x2 (K204 (fun _ => d2) (fun z => absurd hlt z))⟩), ?_⟩
              rw [f1, if_pos hlt, E169 τ1 f2, E204, if_pos hlt]
              show RES n τ (f_CL_replace_72 (nI t) (nI u) 1 σ1) _ _ _
              rw [C95, ej]
              exact d3
            · obtain ⟨i', i3, i4⟩ := hW.2.1.resolve_left h9
              obtain ⟨j', j3, j4⟩ := hWu.2.1.resolve_left (fun w => h9 (q2.mpr w))
              have hnl : ¬ τ.1 9 t < 0 := by rw [i4]; exact nI_pos (by omega)
              obtain ⟨x3, hc2⟩ := P1.diff (p := i') (p2 := j') (by omega) (by omega) (by omega) (by omega)
              rw [ag 6 (by omega) (by omega) i' (by omega), ag 6 (by omega) (by omega) j' (by omega)] at hc2
              have es6 : (τ.1 6 (τ.1 9 t).toNatClampNeg = τ.1 6 (τ.1 9 u).toNatClampNeg) ↔ τ.1 6 i' = τ.1 6 j' := by
                rw [i4, j4, nI_clamp (by omega), nI_clamp (by omega)]
              rcases hc2 with ⟨s2, f3⟩ | ⟨s2, x4, n2, r2, σ2, τ2, f3, f4, v1, v2, v3, v4, P2, v5, v6⟩
              · rw [← i4, ← j4] at f3 x3
                refine ⟨K72 x3 (by rw [f3]; exact ⟨fun _ => k98 _, fun z => absurd rfl z⟩), KM0 (fun _ => ⟨hv, fun z => ?_⟩), ?_⟩
                · rcases z with z | z
                  · exact absurd z hnl
                  · exact absurd (es6.mp z) s2
                · rw [f1, if_neg hnl, if_neg (fun z => s2 (es6.mp z))]
                  show RES n τ (f_CL_replace_72 (nI t) (nI u) 1 σ1) _ _ _
                  rw [C95, f3]
                  show RES n τ (if (0 : Int32) = 0 then f_CL_replace_98 σ1 else _) _ _ _
                  rw [if_pos rfl, e98]
                  have hR1 : RR n σ1 (bg τ) := (RR.ofT P1.1.1).cong (by omega) y5.sy y6.sy
                  have hS1 : RS n q c k f σ1 (bg τ) := P1.2.1.cong (frC.rf σ1) y6.sy y5.sy
                  exact hR1.res hn hS1 h.2.1.2.1 h.2.2.2.2.2.2.1 (rw_bg n τ) hf rfl (by decide) (Or.inr (Or.inl rfl))
              · rw [← i4, ← j4] at f3 x3 x4 f4
                have q32 : τ2.1 6 t = τ2.1 6 u := by rw [v5 6 (by omega) (by omega) t (by omega), v5 6 (by omega) (by omega) u (by omega)]; exact q31
                obtain ⟨d1, d2, d3⟩ := rp_fin P2 (by omega) (by omega) (t := t) (u := u) (by omega) (by omega) q32 hf
                refine ⟨K72 x3 (by rw [f3]; exact d1), KM0 (fun _ => ⟨hv, fun _ => K169 τ1 f2 x2 (K204 (fun z => absurd z hnl) (fun _ => ⟨x4, by rw [f4]; exact d2⟩))⟩), ?_⟩
                rw [f1, if_neg hnl, if_pos (es6.mpr s2), E169 τ1 f2, E204, if_neg hnl, f4]
                show RES n τ (f_CL_replace_72 (nI t) (nI u) 1 σ1) _ _ _
                rw [C95, f3]
                exact d3
        · have r0 : f_CL_isReplaceable (nI t) (nI u) σ0 = 0 := by
            rw [eR]
            by_cases z1 : τ.1 5 t = τ.1 5 u
            · rw [if_pos z1]
              by_cases z2 : τ.1 5 t = 10
              · rw [if_pos z2]
              · rw [if_neg z2]
                by_cases z3 : τ.1 8 t = -1
                · rw [if_pos z3]
                · rw [if_neg z3]
                  by_cases z4 : τ.1 10 t = τ.1 10 u
                  · exact absurd ⟨z1, z2, z3, z4⟩ hp
                  · rw [if_neg z4]
            · rw [if_neg z1]
          have m0 : f_Mo_replace_44 (nI t) (nI u) 17185 (τ.1 5 t) (bg τ) = (0, fl 2 (bg τ)) := by
            rw [e44]
            by_cases z1 : τ.1 5 t = τ.1 5 u
            · rw [if_pos z1]
              by_cases z5 : τ.1 5 t = 1
              · rw [if_pos z5]
              · rw [if_neg z5]
                by_cases z6 : τ.1 5 t = 2
                · rw [if_pos z6]
                · rw [if_neg z6]
                  by_cases z2 : τ.1 5 t = 10
                  · rw [if_pos z2]
                  · rw [if_neg z2]
                    by_cases z4 : τ.1 10 t = τ.1 10 u
                    · rw [if_pos z4]
                      by_cases z3 : τ.1 8 t = -1
                      · rw [if_pos (by rw [z3]; decide)]
                      · exact absurd ⟨z1, z2, z3, z4⟩ hp
                    · rw [if_neg z4]
            · rw [if_neg z1]
          refine ⟨KC ⟨kR, fun _ => k98 σ0, fun z => absurd r0 z⟩, KM (k44 (fun z1 z2 z3 z4 => absurd ⟨z1, z2, z3, z4⟩ hp)), ?_⟩
          rw [m0]
          show RES n τ (if f_CL_isReplaceable (nI t) (nI u) σ0 = 0 then f_CL_replace_98 σ0 else _) _ _ _
          rw [if_pos r0, e98]
          exact P0.refuse hf rfl (by decide) (Or.inr (Or.inl rfl))
  · obtain ⟨e1, e2⟩ := (op_shut h).2 hf
    have eC : f_CL_replace a b σ = (.inl (-1), σ) := by
      show (if f_CL_isShut σ = 0 then _ else _) = _
      rw [if_neg e1]
    have eM : f_Mo_replace a b τ = (-1, bg τ) := by
      show f_Mo_replace_4 a b (f_Mo_begin τ).1 (f_Mo_begin τ).2 = _
      rw [e2]
      show (if (1 : Int32) = 0 then _ else _) = _
      rw [if_neg (by decide)]
    refine ⟨⟨k_shut σ, fun z => absurd z e1, fun _ => trivial⟩, ⟨k_begin τ, ?_⟩, ?_⟩
    · rw [e2]; exact ⟨fun z => absurd z (show ¬ (1 : Int32) = 0 by decide), fun _ => trivial⟩
    · rw [eC, eM]; exact res_shut h
end RPL
