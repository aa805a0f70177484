-- chain
section OPS3
variable {n q c k f : Nat} {σ τ : St}
theorem op_chain (a b : Int32) (h : IV n q c k f σ τ) : k_CL_chain a b σ ∧ k_Mo_chain a b τ ∧ RES n τ (f_CL_chain a b σ) (f_Mo_chain a b τ) cd_chain al4 := by
  have hn := h.1
  by_cases hf : f < 60
  · obtain ⟨e1, e2⟩ := (op_shut h).1 hf
    have eC : f_CL_chain a b σ = if f_Te_has a σ = 0 then (.inr 1, un σ) else (if f_Te_has b σ = 0 then (.inr 1, un σ) else (if f_Te_kindOf a σ = 5 then (if f_Te_kindOf b σ = 5 then (if f_Te_secondOf a σ = f_Te_firstOf b σ then f_CL_chain_91 a b (sF σ 25 1 0) else (.inr 2, un σ)) else (.inr 2, un σ)) else (.inr 2, un σ))) := by
      show (if f_CL_isShut σ = 0 then (if f_Te_has a σ = 0 then (.inr 1, un σ) else (if f_Te_has b σ = 0 then (.inr 1, un σ) else (if f_Te_kindOf a σ = 5 then (if f_Te_kindOf b σ = 5 then (if f_Te_secondOf a σ = f_Te_firstOf b σ then f_CL_chain_91 a b (sF σ 25 1 0) else (.inr 2, un σ)) else (.inr 2, un σ)) else (.inr 2, un σ)))) else _) = _
      rw [if_pos e1]
    have eM : f_Mo_chain a b τ = if f_Mo_isTerm a (bg τ) = 0 then f_Mo_chain_29 17185 (bg τ) else (if f_Mo_isTerm b (bg τ) = 0 then f_Mo_chain_29 17185 (bg τ) else (if τ.1 5 a.toNatClampNeg = 5 then (if τ.1 5 b.toNatClampNeg = 5 then (if τ.1 9 a.toNatClampNeg = τ.1 8 b.toNatClampNeg then f_Mo_chain_84 a b 17185 (f_Mo_joinAs a 0 (bg τ)) else f_Mo_chain_71 17185 (bg τ)) else f_Mo_chain_71 17185 (bg τ)) else f_Mo_chain_71 17185 (bg τ))) := by
      show f_Mo_chain_4 a b (f_Mo_begin τ).1 (f_Mo_begin τ).2 = _
      rw [e2]
      show (if (0 : Int32) = 0 then _ else _) = _
      rw [if_pos rfl]; rfl
    have e29 : f_Mo_chain_29 17185 (bg τ) = (0, fl 1 (bg τ)) := by
      show ((f_Mo_fails 1 17185 (bg τ)).1, (f_Mo_fails 1 17185 (bg τ)).2) = _
      rw [(fs_1_17185 _).2]
    have e71 : f_Mo_chain_71 17185 (bg τ) = (0, fl 2 (bg τ)) := by
      show ((f_Mo_fails 2 17185 (bg τ)).1, (f_Mo_fails 2 17185 (bg τ)).2) = _
      rw [(fs_2_17185 _).2]
    have k29 : k_Mo_chain_29 17185 (bg τ) := ⟨(fs_1_17185 _).1, trivial⟩
    have k71 : k_Mo_chain_71 17185 (bg τ) := ⟨(fs_2_17185 _).1, trivial⟩
    have k31 : k_CL_chain_31 σ := ⟨kthr1 σ, fun _ _ => trivial⟩
    have k79 : k_CL_chain_79 σ := ⟨kthr2 σ, fun _ _ => trivial⟩
    have R1 : RES n τ (.inr 1, un σ) (0, fl 1 (bg τ)) cd_chain al4 := h.refuse0 hf rfl (by decide) (Or.inl rfl)
    have R2 : RES n τ (.inr 2, un σ) (0, fl 2 (bg τ)) cd_chain al4 := h.refuse0 hf rfl (by decide) (Or.inr (Or.inl rfl))
    rcases arg_cases a n with ha | ⟨t, ht, rfl⟩
    · obtain ⟨g1, g2⟩ := (op_has h a).1 ha
      refine ⟨⟨k_shut σ, fun _ => ⟨k_has a σ, fun _ => k31, fun z => absurd g1 z⟩, fun _ => trivial⟩, ⟨k_begin τ, ?_⟩, ?_⟩
      · rw [e2]; exact ⟨fun _ => ⟨kk_isTerm a (bg τ), fun _ => k29, fun z => absurd g2 z⟩, fun _ => trivial⟩
      · rw [eC, eM, if_pos g1, if_pos g2, e29]; exact R1
    · obtain ⟨g1, g2⟩ := (op_has h (nI t)).2 (nI_arg ht hn)
      have hcl : (nI t).toNatClampNeg = t := nI_clamp (by omega)
      have hin : vp_in (nI t) 400 := by rw [in_iff, i_nI (by omega)]; omega
      obtain ⟨⟨ek, -, -, es, -⟩, kk, -, -, ks, -⟩ := h.acc ht
      rcases arg_cases b n with hb | ⟨u, hu, rfl⟩
      · obtain ⟨g3, g4⟩ := (op_has h b).1 hb
        refine ⟨⟨k_shut σ, fun _ => ⟨k_has _ σ, fun z => absurd z g1, fun _ => ⟨k_has b σ, fun _ => k31, fun z => absurd g3 z⟩⟩, fun _ => trivial⟩, ⟨k_begin τ, ?_⟩, ?_⟩
        · rw [e2]; exact ⟨fun _ => ⟨kk_isTerm _ (bg τ), fun z => absurd z g2, fun _ => ⟨kk_isTerm b (bg τ), fun _ => k29, fun z => absurd g4 z⟩⟩, fun _ => trivial⟩
        · rw [eC, eM, if_neg g1, if_neg g2, if_pos g3, if_pos g4, e29]; exact R1
      · obtain ⟨g3, g4⟩ := (op_has h (nI u)).2 (nI_arg hu hn)
        have hcu : (nI u).toNatClampNeg = u := nI_clamp (by omega)
        have hiu : vp_in (nI u) 400 := by rw [in_iff, i_nI (by omega)]; omega
        obtain ⟨⟨eku, -, efu, -, -⟩, kku, -, kfu, -, -⟩ := h.acc hu
        -- the conditions of both sides, by what the last branch needs
        have KC : (τ.1 5 t = 5 → τ.1 5 u = 5 → τ.1 9 t = τ.1 8 u → k_CL_chain_91 (nI t) (nI u) (sF σ 25 1 0)) → k_CL_chain (nI t) (nI u) σ := fun g =>
          ⟨k_shut σ, fun _ => ⟨k_has _ σ, fun z => absurd z g1, fun _ => ⟨k_has _ σ, fun z => absurd z g3, fun _ => ⟨kk, fun z1 => ⟨kku, fun z2 => ⟨ks, kfu, fun z3 => ⟨trivial, g (ek.symm.trans z1) (eku.symm.trans z2) (es.symm.trans (z3.trans efu))⟩, fun _ => k79⟩, fun _ => k79⟩, fun _ => k79⟩⟩⟩, fun _ => trivial⟩
        have KM : (τ.1 5 t = 5 → τ.1 5 u = 5 → τ.1 9 t = τ.1 8 u → k_Mo_joinAs (nI t) 0 (bg τ) ∧ k_Mo_chain_84 (nI t) (nI u) 17185 (f_Mo_joinAs (nI t) 0 (bg τ))) → k_Mo_chain (nI t) (nI u) τ := fun g => by
          refine ⟨k_begin τ, ?_⟩
          rw [e2]
          refine ⟨fun _ => ⟨kk_isTerm _ (bg τ), fun z => absurd z g2, fun _ => ⟨kk_isTerm _ (bg τ), fun z => absurd z g4, fun _ => ⟨hin, fun z1 => ⟨hiu, fun z2 => ⟨hin, hiu, fun z3 => ?_, fun _ => k71⟩, fun _ => k71⟩, fun _ => k71⟩⟩⟩, fun _ => trivial⟩
          have z1 : τ.1 5 (nI t).toNatClampNeg = 5 := z1
          have z2 : τ.1 5 (nI u).toNatClampNeg = 5 := z2
          have z3 : τ.1 9 (nI t).toNatClampNeg = τ.1 8 (nI u).toNatClampNeg := z3
          rw [hcl] at z1 z3
          rw [hcu] at z2 z3
          exact g z1 z2 z3
        rw [eC, eM, if_neg g1, if_neg g2, if_neg g3, if_neg g4, ek, eku, es, efu, hcl, hcu]
        by_cases h5 : τ.1 5 t = 5
        · rw [if_pos h5, if_pos h5]
          by_cases h6 : τ.1 5 u = 5
          · rw [if_pos h6, if_pos h6]
            by_cases h7 : τ.1 9 t = τ.1 8 u
            · rw [if_pos h7, if_pos h7]
              obtain ⟨i, j, i1, i2, i3, i4, i5, i6⟩ := h.eq5 ht h5
              obtain ⟨i', j', u1, u2, u3, u4, u5, u6⟩ := h.eq5 hu h6
              have eji : j = i' := by
                rw [i4, u3] at h7
                exact (nI_inj (by omega) (by omega)).mp h7
              obtain ⟨a1, a2, a3, n1, r1, σ1, τ1, s1, s2, a4, a5, a6, a7, a8, a9⟩ := (PK.start h).joinOpp (by omega) (by omega) (t := t) ⟨ht, i5⟩
              have tu1 : tru τ1 n1 u := ⟨by omega, by rw [a9 6 (by omega) (by omega) u hu]; exact u5⟩
              obtain ⟨b1, b2, b3, n2, r2, σ2, τ2, s3, s4, b4, b5, b6, b7, b8, b9⟩ := a8.joinOpp (by omega) (by omega) tu1
              obtain ⟨⟨-, -, y1, -, -⟩, -, -, y3, -, -⟩ := b8.acc (by omega) (t := t) (by omega)
              obtain ⟨⟨-, -, -, y2, -⟩, -, -, -, y4, -⟩ := b8.acc (by omega) (t := u) (by omega)
              have ag : ∀ c0, 5 ≤ c0 → c0 ≤ 13 → ∀ x, x < n → τ2.1 c0 x = τ.1 c0 x := fun c0 q1 q2 x hx => ((b9 c0 q1 q2 x (by omega)).trans (a9 c0 q1 q2 x hx)).trans (rw_bg n τ c0 q1 q2 x hx)
              have z8 : τ2.1 8 t = nI i := (ag 8 (by omega) (by omega) t ht).trans i3
              have z9 : τ2.1 9 u = nI j' := (ag 9 (by omega) (by omega) u hu).trans u4
              have z6 : τ2.1 6 i = τ2.1 6 j' := by
                rw [ag 6 (by omega) (by omega) i (by omega), ag 6 (by omega) (by omega) j' (by omega), i6, eji]; exact u6
              rw [z8] at y1
              rw [z9] at y2
              obtain ⟨w1, w2, w3, w4, n3, r3, σ3, τ3, s5, s6, w5, w6, w7, w8, w9, w10⟩ := b8.joinEqn (p := i) (p2 := j') (by omega) (by omega) (by omega) (by omega) z6
              obtain ⟨d1, d2, d3⟩ := w9.enter (cd := cd_chain) (al := al4) (nm := 17185) (c3 := 3) (c4 := 4) (by omega) hf (fun _ => ⟨fs_3_17185 _, rfl, by decide, Or.inr (Or.inr (Or.inl rfl))⟩) (fs_4_17185 _) ⟨rfl, by decide, Or.inr (Or.inr (Or.inr rfl))⟩
              refine ⟨KC (fun _ _ _ => ⟨a1, a2, ?_⟩), KM (fun _ _ _ => ⟨a3, ?_⟩), ?_⟩
              · show k_CL_chain_106 (nI t) (nI u) (f_Ro_join (f_Te_opposite (nI t) (sF σ 25 1 0)).1 (f_Te_opposite (nI t) (sF σ 25 1 0)).2)
                rw [s1]
                refine ⟨b1, b2, ?_⟩
                rw [s3]
                refine ⟨y3, y4, ?_⟩
                rw [y1, y2]
                refine ⟨w1, w2, ?_⟩
                rw [s5]
                exact ⟨trivial, d1, fun _ _ => trivial⟩
              · rw [s2]
                refine ⟨b3, ?_⟩
                rw [s4]
                refine ⟨hin, hiu, ?_⟩
                rw [hcl, hcu, z8, z9]
                refine ⟨w3, w4, ?_⟩
                rw [s6]
                exact ⟨d2, trivial⟩
              · show RES n τ (f_CL_chain_106 (nI t) (nI u) (f_Ro_join (f_Te_opposite (nI t) (sF σ 25 1 0)).1 (f_Te_opposite (nI t) (sF σ 25 1 0)).2)) (f_Mo_chain_84 (nI t) (nI u) 17185 (f_Mo_joinAs (nI t) 0 (bg τ))) _ _
                rw [s1, s2]
                show RES n τ (f_CL_chain_121 (nI t) (nI u) (f_Ro_join (f_Te_opposite (nI u) σ1).1 (f_Te_opposite (nI u) σ1).2)) (f_Mo_chain_90 (nI t) (nI u) 17185 (f_Mo_joinAs (nI u) 0 τ1)) _ _
                rw [s3, s4]
                show RES n τ (f_CL_chain_151 (f_Ro_join (f_Te_equation (f_Te_firstOf (nI t) σ2) (f_Te_secondOf (nI u) σ2) σ2).1 (f_Te_equation (f_Te_firstOf (nI t) σ2) (f_Te_secondOf (nI u) σ2) σ2).2)) (f_Mo_chain_111 17185 (f_Mo_join (f_Mo_made 5 (τ2.1 8 (nI t).toNatClampNeg) (τ2.1 9 (nI u).toNatClampNeg) τ2).1 (f_Mo_made 5 (τ2.1 8 (nI t).toNatClampNeg) (τ2.1 9 (nI u).toNatClampNeg) τ2).2)) _ _
                rw [y1, y2, hcl, hcu, z8, z9, s5, s6]
                show RES n τ (xb (f_CL_enterRow (f_Sc_innermost σ3) 0 σ3) (fun x u => (.inl x, u))) ((f_Mo_enter (τ3.1 0 25) 17185 τ3).1, (f_Mo_enter (τ3.1 0 25) 17185 τ3).2) _ _
                rw [xb_id]; exact d3
            · rw [if_neg h7, if_neg h7, e71]
              exact ⟨KC (fun _ _ z => absurd z h7), KM (fun _ _ z => absurd z h7), R2⟩
          · rw [if_neg h6, if_neg h6, e71]
            exact ⟨KC (fun _ z _ => absurd z h6), KM (fun _ z _ => absurd z h6), R2⟩
        · rw [if_neg h5, if_neg h5, e71]
          exact ⟨KC (fun z _ _ => absurd z h5), KM (fun z _ _ => absurd z h5), R2⟩
  · obtain ⟨e1, e2⟩ := (op_shut h).2 hf
    have eC : f_CL_chain a b σ = (.inl (-1), σ) := by
      show (if f_CL_isShut σ = 0 then _ else _) = _
      rw [if_neg e1]
    have eM : f_Mo_chain a b τ = (-1, bg τ) := by
      show f_Mo_chain_4 a b (f_Mo_begin τ).1 (f_Mo_begin τ).2 = _
      rw [e2]
      show (if (1 : Int32) = 0 then _ else _) = _
      rw [if_neg (by decide)]
    refine ⟨⟨k_shut σ, fun z => absurd z e1, fun _ => trivial⟩, ⟨k_begin τ, ?_⟩, ?_⟩
    · rw [e2]; exact ⟨fun z => absurd z (show ¬ (1 : Int32) = 0 by decide), fun _ => trivial⟩
    · rw [eC, eM]; exact res_shut h
end OPS3
