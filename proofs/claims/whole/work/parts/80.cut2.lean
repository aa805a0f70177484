-- cut, the call
section CUT2
variable {n q c k f : Nat} {σ τ : St}
theorem fo_sim {t : Nat} (h : IV n q c k f σ τ) (ht : t < n) : k_Te_findOpposite (nI t) σ ∧ (¬ τ.1 6 t = 0 → f_Te_findOpposite (nI t) σ = -1) ∧ (τ.1 6 t = 0 → k_Mo_opposite (nI t) (bg τ) ∧ ((∃ m, m < n ∧ f_Te_findOpposite (nI t) σ = nI m ∧ f_Mo_opposite (nI t) (bg τ) = (nI m, bg τ)) ∨ (f_Te_findOpposite (nI t) σ = -1 ∧ ∃ τ1, f_Mo_opposite (nI t) (bg τ) = (nI n, τ1) ∧ rwM n (bg τ) τ1 ∧ frM (bg τ) τ1))) := by
  have hn := h.1
  have hT := h.2.1
  obtain ⟨⟨ek, -, ef, -⟩, kk, -, kf, -⟩ := h.acc ht
  obtain ⟨hW, hK⟩ := h.row ht
  have hcl : (nI t).toNatClampNeg = t := nI_clamp (by omega)
  by_cases h7 : τ.1 5 t = 7
  · obtain ⟨a1, a2, a3, a4, a5⟩ := hK.2.2.2.2.2.2.1 h7
    obtain ⟨i, hi, ei⟩ := hW.1.resolve_left a1
    have c1 : f_Te_kindOf (nI t) σ = 7 := ek.trans h7
    have c2 : (bg τ).1 5 (nI t).toNatClampNeg = 7 := by rw [hcl]; exact h7
    have hin : vp_in (nI t) 400 := by rw [in_iff, i_nI (by omega)]; omega
    refine ⟨⟨kk, fun _ => ⟨kf, trivial⟩, fun z => absurd c1 z⟩, fun z => absurd a4 z, fun _ => ⟨⟨hin, fun _ => ⟨hin, trivial⟩, fun z => absurd c2 z⟩, Or.inl ⟨i, by omega, ?_, ?_⟩⟩⟩
    · show (if f_Te_kindOf (nI t) σ = 7 then f_Te_firstOf (nI t) σ else _) = _
      rw [if_pos c1, ef, ei]
    · show (if (bg τ).1 5 (nI t).toNatClampNeg = 7 then ((bg τ).1 8 (nI t).toNatClampNeg, bg τ) else _) = _
      rw [if_pos c2, hcl]
      show (τ.1 8 t, bg τ) = _
      rw [ei]
  · have c1 : ¬ f_Te_kindOf (nI t) σ = 7 := fun z => h7 (ek.symm.trans z)
    have c2 : ¬ (bg τ).1 5 (nI t).toNatClampNeg = 7 := by rw [hcl]; exact h7
    have hM : ∀ s, s < n → (σ.2 17 s = ky 7 (-1) (nI t) (-1) ↔ fdM τ 7 (nI t) (-1) (-1) 0 0 s) := fun s hs => key_row (by omega) hs hT (by decide) (by decide) (by decide) (Or.inr ⟨t, ht, rfl⟩) (Or.inl rfl)
    have e0 : f_Te_findOpposite (nI t) σ = f_Te_find_7 1000 (ky 7 (-1) (nI t) (-1)) (nI (t + 1)) σ := by
      show (if f_Te_kindOf (nI t) σ = 7 then _ else f_Te_find_7 1000 (ky 7 (-1) (nI t) (-1)) (if nI t + 1 < 0 then 0 else nI t + 1) σ) = _
      rw [if_neg c1, ← nI_succ, if_neg (nI_pos (by omega))]
    have k0 : k_Te_find_7 1000 (ky 7 (-1) (nI t) (-1)) (nI (t + 1)) σ → k_Te_findOpposite (nI t) σ := fun w => by
      refine ⟨kk, fun z => absurd z c1, fun _ => ⟨trivial, ?_, trivial⟩⟩
      show k_Te_find_7 1000 (ky 7 (-1) (nI t) (-1)) (if nI t + 1 < 0 then 0 else nI t + 1) σ
      rw [← nI_succ, if_neg (nI_pos (by omega))]; exact w
    have em : f_Mo_opposite (nI t) (bg τ) = f_Mo_found_3 1000 7 0 (nI t) (-1) (-1) 0 0 (nI 0) (bg τ) := by
      show (if (bg τ).1 5 (nI t).toNatClampNeg = 7 then _ else ((f_Mo_made 7 (nI t) (-1) (bg τ)).1, (f_Mo_made 7 (nI t) (-1) (bg τ)).2)) = _
      have ex : f_Mo_made 7 (nI t) (-1) (bg τ) = f_Mo_found 7 0 (nI t) (-1) (-1) 0 0 (bg τ) := by
        show (if (7 : Int32) = 3 then _ else (if (7 : Int32) = 4 then _ else ((f_Mo_found 7 0 (nI t) (-1) (-1) 0 0 (bg τ)).1, (f_Mo_found 7 0 (nI t) (-1) (-1) 0 0 (bg τ)).2))) = _
        rw [if_neg (by decide), if_neg (by decide)]
      rw [if_neg c2, ex, nI_0]; rfl
    rcases first_of (fdM τ 7 (nI t) (-1) (-1) 0 0) n with ⟨m, hm, h1, h2⟩ | hno
    · have hfm : t + 1 ≤ m := by
        obtain ⟨g1, -⟩ := (hT.2.2 m hm).2
        rw [h1.2.1] at g1
        rcases g1 with g1 | ⟨i, g1, g2⟩
        · exact absurd g1 (nI_ne_m1 (by omega))
        · have := (nI_inj (by omega) (by omega)).mp g2; omega
      obtain ⟨g1, g2⟩ := find_hit hT.1 (by omega) hm ((hM m hm).mpr h1) (fun i hi hi2 => h2 i hi ((hM i (by omega)).mp hi2)) (m - (t + 1)) (t + 1) 1000 (by omega) (by omega)
      obtain ⟨g3, g4⟩ := fd_hit (τ := bg τ) (s := 0) hT.2.1 (by omega) hm h1 h2 m 0 1000 (by omega) (by omega)
      have h6 : τ.1 6 t = 0 := by
        have := ((h.row hm).2.2.2.2.2.2.2.1 h1.1).2.2.2.2
        unfold pO at this
        rw [h1.2.1, if_neg (nI_ne_m1 (by omega)), hcl] at this
        exact this
      refine ⟨k0 g1, fun z => absurd h6 z, fun _ => ⟨(TT.opposite (PK.start h).1 (by omega) (t := t) ⟨ht, h6⟩).2.1, Or.inl ⟨m, hm, e0.trans g2, em.trans g4⟩⟩⟩
    · obtain ⟨g1, g2⟩ := find_miss hT.1 (by omega) (fun i hi hi2 => hno i hi ((hM i hi).mp hi2)) (n - (t + 1)) (t + 1) 1000 (by omega) (by omega)
      refine ⟨k0 g1, fun _ => e0.trans g2, fun h6 => ?_⟩
      obtain ⟨-, k2, m', n', σ', τ', f1, f2, q1, q2, q3, q4, q5, q6, q7, q8⟩ := TT.opposite (PK.start h).1 (by omega) (t := t) ⟨ht, h6⟩
      obtain ⟨g5, g6⟩ := fd_new (τ := bg τ) (n := n) (k := 7) (s := 0) (a := nI t) (b := -1) (l := -1) (p := 0) (q := 0) (by omega) hT.2.1 (Or.inr ⟨t, ht, rfl⟩) (Or.inl rfl) (fun _ => rfl) (fun t ht => by have := (hT.2.2 t ht).2.2.2.2.2.2.2.2.2.2.2; exact ⟨this.1, by have := this.2; show (τ.1 7 t).toInt ≤ 1000; omega⟩)
      obtain ⟨g3, g4⟩ := fd_miss (τ := bg τ) (s := 0) hT.2.1 (by omega) hno g5 n 0 1000 (by omega) (by omega)
      have ev : f_Mo_opposite (nI t) (bg τ) = (nI n, τ') := by
        have z := (em.trans g4).trans g6
        have z1 : (f_Mo_opposite (nI t) (bg τ)).1 = nI n := by rw [z]
        rw [f2] at z1 ⊢
        have z1 : nI m' = nI n := z1
        rw [z1]
      exact ⟨k2, Or.inr ⟨e0.trans g2, τ', ev, q5, q7⟩⟩
theorem op_cut (a b d : Int32) (h : IV n q c k f σ τ) : k_CL_cut a b d σ ∧ k_Mo_cut a b d τ ∧ RES n τ (f_CL_cut a b d σ) (f_Mo_cut a b d τ) cd_cut al4 := by
  have hn := h.1
  by_cases hf : f < 60
  · obtain ⟨e1, e2⟩ := (op_shut h).1 hf
    have eC : f_CL_cut a b d σ = if f_CL_stands a σ = 0 then (.inr 1, un σ) else (if f_Te_has b σ = 0 then (.inr 1, un σ) else (if f_CL_stands d σ = 0 then (.inr 1, un σ) else f_CL_cut_51 a b d (f_Te_findOpposite b σ) σ)) := by
      show (if f_CL_isShut σ = 0 then (if f_CL_stands a σ = 0 then (.inr 1, un σ) else (if f_Te_has b σ = 0 then (.inr 1, un σ) else (if f_CL_stands d σ = 0 then (.inr 1, un σ) else f_CL_cut_51 a b d (f_Te_findOpposite b σ) σ))) else _) = _
      rw [if_pos e1]
    have eM : f_Mo_cut a b d τ = if f_Mo_stands a (bg τ) = 0 then f_Mo_cut_38 17185 (bg τ) else (if f_Mo_stands d (bg τ) = 0 then f_Mo_cut_38 17185 (bg τ) else (if f_Mo_isTerm b (bg τ) = 0 then f_Mo_cut_38 17185 (bg τ) else (if f_Mo_isTruth b (bg τ) = 0 then f_Mo_cut_63 a b d 17185 b (bg τ) else f_Mo_cut_63 a b d 17185 (f_Mo_opposite b (bg τ)).1 (f_Mo_opposite b (bg τ)).2))) := by
      show f_Mo_cut_4 a b d (f_Mo_begin τ).1 (f_Mo_begin τ).2 = _
      rw [e2]
      show (if (0 : Int32) = 0 then _ else _) = _
      rw [if_pos rfl]; rfl
    have e38 : f_Mo_cut_38 17185 (bg τ) = (0, fl 1 (bg τ)) := by
      show ((f_Mo_fails 1 17185 (bg τ)).1, (f_Mo_fails 1 17185 (bg τ)).2) = _
      rw [(fs_1_17185 _).2]
    have k38 : k_Mo_cut_38 17185 (bg τ) := ⟨(fs_1_17185 _).1, trivial⟩
    have e92 : ∀ X : St, f_Mo_cut_92 17185 X = (0, fl 2 X) := fun X => by
      show ((f_Mo_fails 2 17185 X).1, (f_Mo_fails 2 17185 X).2) = _
      rw [(fs_2_17185 _).2]
    have k92 : ∀ X : St, k_Mo_cut_92 17185 X := fun X => ⟨(fs_2_17185 _).1, trivial⟩
    have k36 : k_CL_cut_36 σ := ⟨kthr1 σ, fun _ _ => trivial⟩
    have k82 : k_CL_cut_82 σ := ⟨kthr2 σ, fun _ _ => trivial⟩
    have R1 : RES n τ (.inr 1, un σ) (0, fl 1 (bg τ)) cd_cut al4 := h.refuse0 hf rfl (by decide) (Or.inl rfl)
    have R2 : RES n τ (.inr 2, un σ) (0, fl 2 (bg τ)) cd_cut al4 := h.refuse0 hf rfl (by decide) (Or.inr (Or.inl rfl))
    obtain ⟨bT, bR, -⟩ := h.begin
    have bR0 := bR
    obtain ⟨-, -, hC, hP, -⟩ := bR
    obtain ⟨ks1, ks2, hst⟩ := stands_sim hC hP a
    obtain ⟨ks3, ks4, hst2⟩ := stands_sim hC hP d
    rcases hst with ⟨s1, s2⟩ | ⟨s1, s2, i, hi, rfl⟩
    · refine ⟨⟨k_shut σ, fun _ => ⟨ks1, fun _ => k36, fun z => absurd s1 z⟩, fun _ => trivial⟩, ⟨k_begin τ, ?_⟩, ?_⟩
      · rw [e2]; exact ⟨fun _ => ⟨ks2, fun _ => k38, fun z => absurd s2 z⟩, fun _ => trivial⟩
      · rw [eC, eM, if_pos s1, if_pos s2, e38]; exact R1
    · rcases hst2 with ⟨s3, s4⟩ | ⟨s3, s4, j, hj, rfl⟩
      · refine ⟨⟨k_shut σ, fun _ => ⟨ks1, fun _ => k36, fun _ => ⟨k_has b σ, fun _ => k36, fun _ => ⟨ks3, fun _ => k36, fun z => absurd s3 z⟩⟩⟩, fun _ => trivial⟩, ⟨k_begin τ, ?_⟩, ?_⟩
        · rw [e2]; exact ⟨fun _ => ⟨ks2, fun _ => k38, fun _ => ⟨ks4, fun _ => k38, fun z => absurd s4 z⟩⟩, fun _ => trivial⟩
        · have eC1 : f_CL_cut (nI i) b d σ = (.inr 1, un σ) := by
            rw [eC, if_neg s1]
            by_cases z : f_Te_has b σ = 0
            · rw [if_pos z]
            · rw [if_neg z, if_pos s3]
          rw [eC1, eM, if_neg s2, if_pos s4, e38]; exact R1
      · rcases arg_cases b n with hb | ⟨t, ht, rfl⟩
        · obtain ⟨g1, g2⟩ := (op_has h b).1 hb
          refine ⟨⟨k_shut σ, fun _ => ⟨ks1, fun _ => k36, fun _ => ⟨k_has b σ, fun _ => k36, fun z => absurd g1 z⟩⟩, fun _ => trivial⟩, ⟨k_begin τ, ?_⟩, ?_⟩
          · rw [e2]; exact ⟨fun _ => ⟨ks2, fun _ => k38, fun _ => ⟨ks4, fun _ => k38, fun _ => ⟨kk_isTerm b (bg τ), fun _ => k38, fun z => absurd g2 z⟩⟩⟩, fun _ => trivial⟩
          · rw [eC, eM, if_neg s1, if_pos g1, if_neg s2, if_neg s4, if_pos g2, e38]; exact R1
        · obtain ⟨g1, g2⟩ := (op_has h (nI t)).2 (nI_arg ht hn)
          obtain ⟨ko, no, yo⟩ := fo_sim h ht
          obtain ⟨km1, km2⟩ := truth_M (τ := bg τ) (t := t) (by omega)
          have km2 : f_Mo_isTruth (nI t) (bg τ) = 0 ↔ ¬ τ.1 6 t = 0 := km2
          have KC : k_CL_cut_51 (nI i) (nI t) (nI j) (f_Te_findOpposite (nI t) σ) σ → k_CL_cut (nI i) (nI t) (nI j) σ := fun w => ⟨k_shut σ, fun _ => ⟨ks1, fun _ => k36, fun _ => ⟨k_has _ σ, fun _ => k36, fun _ => ⟨ks3, fun _ => k36, fun _ => ⟨ko, w⟩⟩⟩⟩, fun _ => trivial⟩
          rw [eC, eM, if_neg s1, if_neg s2, if_neg g1, if_neg g2, if_neg s3, if_neg s4]
          by_cases h6 : τ.1 6 t = 0
          · have c2 : ¬ f_Mo_isTruth (nI t) (bg τ) = 0 := fun z => km2.mp z h6
            obtain ⟨kop, yo⟩ := yo h6
            have KM : k_Mo_cut_63 (nI i) (nI t) (nI j) 17185 (f_Mo_opposite (nI t) (bg τ)).1 (f_Mo_opposite (nI t) (bg τ)).2 → k_Mo_cut (nI i) (nI t) (nI j) τ := fun w => by
              refine ⟨k_begin τ, ?_⟩
              rw [e2]; exact ⟨fun _ => ⟨ks2, fun _ => k38, fun _ => ⟨ks4, fun _ => k38, fun _ => ⟨kk_isTerm _ (bg τ), fun _ => k38, fun _ => ⟨km1, fun z => absurd z c2, fun _ => ⟨kop, w⟩⟩⟩⟩⟩, fun _ => trivial⟩
            rw [if_neg c2]
            rcases yo with ⟨m, hm, f1, f2⟩ | ⟨f1, τ1, f2, rw1, fr1⟩
            · rw [f2] at KM
              rw [f1] at KC
              rw [f1, f2]
              have nm : ¬ nI m = -1 := nI_ne_m1 (by omega)
              obtain ⟨y1, y2, y3⟩ := hold_sim (x := nI t) hP hi
              obtain ⟨y4, y5, y6⟩ := hold_sim (x := nI m) hP hj
              have EC : f_CL_cut_51 (nI i) (nI t) (nI j) (nI m) σ = if f_St_holds (nI i) (nI t) σ = 0 then (.inr 2, un σ) else (if f_St_holds (nI j) (nI m) σ = 0 then (.inr 2, un σ) else f_CL_cut_94 (nI i) (nI t) (nI j) (nI m) (sF σ 25 1 0)) := by
                show (if nI m = -1 then _ else (if f_St_holds (nI i) (nI t) σ = 0 then ((.inr 2, un σ) : XR) else (if f_St_holds (nI j) (nI m) σ = 0 then ((.inr 2, un σ) : XR) else f_CL_cut_94 (nI i) (nI t) (nI j) (nI m) (sF σ 25 1 0)))) = _
                rw [if_neg nm]
              have EM : f_Mo_cut_63 (nI i) (nI t) (nI j) 17185 (nI m) (bg τ) = if f_Mo_has (nI i) (nI t) (bg τ) = 0 then f_Mo_cut_92 17185 (bg τ) else (if f_Mo_has (nI j) (nI m) (bg τ) = 0 then f_Mo_cut_92 17185 (bg τ) else f_Mo_cut_103 1000 (nI i) (nI t) (nI j) 17185 (nI m) (nI 0) (bg τ)) := by
                show (if f_Mo_isTruth (nI t) (bg τ) = 0 then _ else _) = _
                rw [if_neg c2, nI_0]
              rw [EC, EM]
              rcases y3 with ⟨y7, y8⟩ | ⟨y7, y8, -⟩
              · refine ⟨KC ⟨fun z => absurd z nm, fun _ => ⟨y1, fun _ => k82, fun z => absurd y7 z⟩⟩, KM ⟨km1, fun z => absurd z c2, fun _ => ⟨y2, fun _ => k92 _, fun z => absurd y8 z⟩⟩, ?_⟩
                rw [if_pos y7, if_pos y8, e92]; exact R2
              · rw [if_neg y7, if_neg y8]
                rcases y6 with ⟨y9, y10⟩ | ⟨y9, y10, -⟩
                · refine ⟨KC ⟨fun z => absurd z nm, fun _ => ⟨y1, fun _ => k82, fun _ => ⟨y4, fun _ => k82, fun z => absurd y9 z⟩⟩⟩, KM ⟨km1, fun z => absurd z c2, fun _ => ⟨y2, fun _ => k92 _, fun _ => ⟨y5, fun _ => k92 _, fun z => absurd y10 z⟩⟩⟩, ?_⟩
                  rw [if_pos y9, if_pos y10, e92]; exact R2
                · rw [if_neg y9, if_neg y10]
                  obtain ⟨p1, p2, p3, p4⟩ := hP
                  obtain ⟨-, -, -, z1, u1, u2, u3, -, -⟩ := p4 i hi
                  obtain ⟨v1, r1, τ1, v2, v3, v4, v5, v6, v7⟩ := cut_l1 (x3 := nI j) (x4 := 17185) (x5 := nI m) (x := nI t) hi z1 0 1000 1000 0 (sF σ 25 1 0) (bg τ) (by omega) (by omega) (by omega) (by omega) (by omega) (PK.start h) u2 u3 u1
                  obtain ⟨-, -, -, z2, u4, u5, u6, -, -⟩ := v4.2.1.2.2.2.1.2.2.2 j hj
                  obtain ⟨w1, r2, τ2, w2, w3, w4, w5, w6, w7⟩ := cut_l2 (x4 := 17185) (x := nI m) hj z2 0 1000 1000 r1 _ τ1 (by omega) (by omega) (by omega) (by omega) (by omega) v4 u5 u6 u4
                  obtain ⟨d1, d2, d3⟩ := w4.enter (cd := cd_cut) (al := al4) (nm := 17185) (c3 := 3) (c4 := 4) (by omega) hf (fun _ => ⟨fs_3_17185 _, rfl, by decide, Or.inr (Or.inr (Or.inl rfl))⟩) (fs_4_17185 _) ⟨rfl, by decide, Or.inr (Or.inr (Or.inr rfl))⟩
                  have g7 := w7 d2
                  rw [nI_0] at v1 v6 v7 w1 w6 g7 d1 d3
                  have KK := v7 g7
                  rw [nI_0]
                  refine ⟨KC ⟨fun z => absurd z nm, fun _ => ⟨y1, fun _ => k82, fun _ => ⟨y4, fun _ => k82, fun _ => ⟨trivial, v1, w1, trivial, d1, fun _ _ => trivial⟩⟩⟩⟩, KM ⟨km1, fun z => absurd z c2, fun _ => ⟨y2, fun _ => k92 _, fun _ => ⟨y5, fun _ => k92 _, fun _ => KK⟩⟩⟩, ?_⟩
                  rw [v6, w6]
                  show RES n τ (xb (f_CL_enterRow (f_Sc_innermost _) 0 _) (fun x u => (.inl x, u))) _ _ _
                  rw [xb_id]; exact d3
            · rw [f2] at KM
              rw [f1] at KC
              rw [f1, f2]
              have hR1 : RS n q c k f σ τ1 := bR0.cong (frC.rf σ) fr1 rw1
              obtain ⟨km3, km4⟩ := truth_M (τ := τ1) (t := t) (by omega)
              have km4 : ¬ f_Mo_isTruth (nI t) τ1 = 0 := fun z => km4.mp z (by rw [rw1 6 (by omega) (by omega) t ht]; exact h6)
              obtain ⟨-, y2, y3⟩ := hold_sim (x := nI t) hR1.2.2.2.1 hi
              obtain ⟨-, y5, y6⟩ := hold_sim (x := nI n) hR1.2.2.2.1 hj
              have y6 : f_Mo_has (nI j) (nI n) τ1 = 0 := by
                rcases y6 with ⟨-, y⟩ | ⟨-, -, t', y7, y8⟩
                · exact y
                · have := (nI_inj (by omega) (by omega)).mp y8; omega
              have EM : f_Mo_cut_63 (nI i) (nI t) (nI j) 17185 (nI n) τ1 = (0, fl 2 τ1) := by
                show (if f_Mo_isTruth (nI t) τ1 = 0 then _ else (if f_Mo_has (nI i) (nI t) τ1 = 0 then f_Mo_cut_92 17185 τ1 else (if f_Mo_has (nI j) (nI n) τ1 = 0 then f_Mo_cut_92 17185 τ1 else _))) = _
                rw [if_neg km4, if_pos y6, e92]
                by_cases z : f_Mo_has (nI i) (nI t) τ1 = 0
                · rw [if_pos z]
                · rw [if_neg z]
              refine ⟨KC ⟨fun _ => k82, fun z => absurd rfl z⟩, KM ⟨km3, fun z => absurd z km4, fun _ => ⟨y2, fun _ => k92 _, fun _ => ⟨y5, fun _ => k92 _, fun z => absurd y6 z⟩⟩⟩, ?_⟩
              rw [EM]
              show RES n τ (.inr 2, un σ) (0, fl 2 τ1) _ _
              exact ((RR.ofT bT).cong (by omega) rw1 fr1).res hn hR1 (by rw [fr1.2.1 9 (by omega) (by omega)]; exact bT.2.2.2.2.2.2.1) (fun s hs => by rw [rw1 7 (by omega) (by omega) s hs]; exact h.2.2.2.2.2.2.1 s hs) ((rw_bg n τ).tr rw1 (Nat.le_refl n)) hf rfl (by decide) (Or.inr (Or.inl rfl))
          · have c2 : f_Mo_isTruth (nI t) (bg τ) = 0 := km2.mpr h6
            rw [no h6] at KC ⊢
            rw [if_pos c2]
            refine ⟨KC ⟨fun _ => k82, fun z => absurd rfl z⟩, ⟨k_begin τ, ?_⟩, ?_⟩
            · rw [e2]; exact ⟨fun _ => ⟨ks2, fun _ => k38, fun _ => ⟨ks4, fun _ => k38, fun _ => ⟨kk_isTerm _ (bg τ), fun _ => k38, fun _ => ⟨km1, fun _ => ⟨km1, fun _ => k92 _, fun z => absurd c2 z⟩, fun z => absurd c2 z⟩⟩⟩⟩, fun _ => trivial⟩
            · have EM : f_Mo_cut_63 (nI i) (nI t) (nI j) 17185 (nI t) (bg τ) = (0, fl 2 (bg τ)) := by
                show (if f_Mo_isTruth (nI t) (bg τ) = 0 then f_Mo_cut_92 17185 (bg τ) else _) = _
                rw [if_pos c2, e92]
              rw [EM]; exact R2
  · obtain ⟨e1, e2⟩ := (op_shut h).2 hf
    have eC : f_CL_cut a b d σ = (.inl (-1), σ) := by
      show (if f_CL_isShut σ = 0 then _ else _) = _
      rw [if_neg e1]
    have eM : f_Mo_cut a b d τ = (-1, bg τ) := by
      show f_Mo_cut_4 a b d (f_Mo_begin τ).1 (f_Mo_begin τ).2 = _
      rw [e2]
      show (if (1 : Int32) = 0 then _ else _) = _
      rw [if_neg (by decide)]
    refine ⟨⟨k_shut σ, fun z => absurd z e1, fun _ => trivial⟩, ⟨k_begin τ, ?_⟩, ?_⟩
    · rw [e2]; exact ⟨fun z => absurd z (show ¬ (1 : Int32) = 0 by decide), fun _ => trivial⟩
    · rw [eC, eM]; exact res_shut h
end CUT2
