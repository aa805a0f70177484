-- widen
section OPS5
variable {n q c k f : Nat} {σ τ : St}
theorem op_widen (a b : Int32) (h : IV n q c k f σ τ) : k_CL_widen a b σ ∧ k_Mo_widen a b τ ∧ RES n τ (f_CL_widen a b σ) (f_Mo_widen a b τ) cd_widen al3 := by
  have hn := h.1
  by_cases hf : f < 60
  · obtain ⟨e1, e2⟩ := (op_shut h).1 hf
    have eC : f_CL_widen a b σ = if f_CL_stands a σ = 0 then (.inr 1, un σ) else (if f_Te_has b σ = 0 then (.inr 1, un σ) else (if f_Te_isTruth b σ = 0 then (.inr 2, un σ) else f_CL_widen_56 a b (sF σ 25 1 0))) := by
      show (if f_CL_isShut σ = 0 then (if f_CL_stands a σ = 0 then (.inr 1, un σ) else (if f_Te_has b σ = 0 then (.inr 1, un σ) else (if f_Te_isTruth b σ = 0 then (.inr 2, un σ) else f_CL_widen_56 a b (sF σ 25 1 0)))) else _) = _
      rw [if_pos e1]
    have eM : f_Mo_widen a b τ = if f_Mo_stands a (bg τ) = 0 then f_Mo_widen_29 1057 (bg τ) else (if f_Mo_isTerm b (bg τ) = 0 then f_Mo_widen_29 1057 (bg τ) else (if f_Mo_isTruth b (bg τ) = 0 then ((f_Mo_fails 2 1057 (bg τ)).1, (f_Mo_fails 2 1057 (bg τ)).2) else f_Mo_widen_56 b 1057 (f_Mo_joinAll a (bg τ)))) := by
      show f_Mo_widen_4 a b (f_Mo_begin τ).1 (f_Mo_begin τ).2 = _
      rw [e2]
      show (if (0 : Int32) = 0 then _ else _) = _
      rw [if_pos rfl]; rfl
    have e29 : f_Mo_widen_29 1057 (bg τ) = (0, fl 1 (bg τ)) := by
      show ((f_Mo_fails 1 1057 (bg τ)).1, (f_Mo_fails 1 1057 (bg τ)).2) = _
      rw [(fs_1_1057 _).2]
    have k29 : k_Mo_widen_29 1057 (bg τ) := ⟨(fs_1_1057 _).1, trivial⟩
    have k28 : k_CL_widen_28 σ := ⟨kthr1 σ, fun _ _ => trivial⟩
    have R1 : RES n τ (.inr 1, un σ) (0, fl 1 (bg τ)) cd_widen al3 := h.refuse0 hf rfl (by decide) (Or.inl rfl)
    have R2 : RES n τ (.inr 2, un σ) (0, fl 2 (bg τ)) cd_widen al3 := h.refuse0 hf rfl (by decide) (Or.inr (Or.inl rfl))
    obtain ⟨-, ⟨-, -, hC, hP, -⟩, -⟩ := h.begin
    obtain ⟨ks1, ks2, hst⟩ := stands_sim hC hP a
    rcases hst with ⟨s1, s2⟩ | ⟨s1, s2, i, hi, rfl⟩
    · refine ⟨⟨k_shut σ, fun _ => ⟨ks1, fun _ => k28, fun z => absurd s1 z⟩, fun _ => trivial⟩, ⟨k_begin τ, ?_⟩, ?_⟩
      · rw [e2]; exact ⟨fun _ => ⟨ks2, fun _ => k29, fun z => absurd s2 z⟩, fun _ => trivial⟩
      · rw [eC, eM, if_pos s1, if_pos s2, e29]; exact R1
    · rcases arg_cases b n with hb | ⟨t, ht, rfl⟩
      · obtain ⟨g1, g2⟩ := (op_has h b).1 hb
        refine ⟨⟨k_shut σ, fun _ => ⟨ks1, fun z => absurd z s1, fun _ => ⟨k_has b σ, fun _ => k28, fun z => absurd g1 z⟩⟩, fun _ => trivial⟩, ⟨k_begin τ, ?_⟩, ?_⟩
        · rw [e2]; exact ⟨fun _ => ⟨ks2, fun z => absurd z s2, fun _ => ⟨kk_isTerm b (bg τ), fun _ => k29, fun z => absurd g2 z⟩⟩, fun _ => trivial⟩
        · rw [eC, eM, if_neg s1, if_neg s2, if_pos g1, if_pos g2, e29]; exact R1
      · obtain ⟨g1, g2⟩ := (op_has h (nI t)).2 (nI_arg ht hn)
        obtain ⟨kt1, kt2⟩ := truth_C h.2.1 (by omega) ht
        obtain ⟨km1, km2⟩ := truth_M (τ := bg τ) (t := t) (by omega)
        have km2 : f_Mo_isTruth (nI t) (bg τ) = 0 ↔ ¬ τ.1 6 t = 0 := km2
        rw [eC, eM, if_neg s1, if_neg s2, if_neg g1, if_neg g2]
        by_cases h6 : τ.1 6 t = 0
        · have c1 : ¬ f_Te_isTruth (nI t) σ = 0 := fun z => kt2.mp z h6
          have c2 : ¬ f_Mo_isTruth (nI t) (bg τ) = 0 := fun z => km2.mp z h6
          rw [if_neg c1, if_neg c2]
          obtain ⟨a1, a2, r1, σ1, τ1, x1, x2, a3, a4, a5, a6⟩ := (PK.start h).all hi (by omega) (by omega)
          have t6 : τ1.1 6 t = 0 := by rw [a6 6 (by omega) (by omega)]; exact h6
          obtain ⟨b1, b2, r2, b3, b4, b5, b6⟩ := a5.join (t := t) (by omega) ⟨ht, t6⟩ (by omega)
          obtain ⟨d1, d2, d3⟩ := b5.enter (cd := cd_widen) (al := al3) (nm := 1057) (c3 := 0) (c4 := 3) (by omega) hf (fun z => absurd z (Nat.lt_irrefl n)) (fs_4_1057 _) ⟨rfl, by decide, Or.inr (Or.inr rfl)⟩
          refine ⟨⟨k_shut σ, fun _ => ⟨ks1, fun z => absurd z s1, fun _ => ⟨k_has _ σ, fun z => absurd z g1, fun _ => ⟨kt1, fun z => absurd z c1, fun _ => ⟨trivial, a1, ?_⟩⟩⟩⟩, fun _ => trivial⟩, ⟨k_begin τ, ?_⟩, ?_⟩
          · show k_CL_widen_62 (nI t) (f_CL_joinAllBut (nI i) (-1) (sF σ 25 1 0))
            rw [x1]
            exact ⟨b1, trivial, d1, fun _ _ => trivial⟩
          · rw [e2]
            refine ⟨fun _ => ⟨ks2, fun z => absurd z s2, fun _ => ⟨kk_isTerm _ (bg τ), fun z => absurd z g2, fun _ => ⟨km1, fun z => absurd z c2, fun _ => ⟨a2, ?_⟩⟩⟩⟩, fun _ => trivial⟩
            show k_Mo_widen_56 (nI t) 1057 (f_Mo_joinAll (nI i) (bg τ))
            rw [x2]
            exact ⟨b2, d2, trivial⟩
          · show RES n τ (f_CL_widen_62 (nI t) (f_CL_joinAllBut (nI i) (-1) (sF σ 25 1 0))) (f_Mo_widen_56 (nI t) 1057 (f_Mo_joinAll (nI i) (bg τ))) _ _
            rw [x1, x2]
            show RES n τ (xb (f_CL_enterRow (f_Sc_innermost (f_Ro_join (nI t) σ1)) 0 (f_Ro_join (nI t) σ1)) (fun x u => (.inl x, u))) ((f_Mo_enter ((f_Mo_join (nI t) τ1).1 0 25) 1057 (f_Mo_join (nI t) τ1)).1, (f_Mo_enter ((f_Mo_join (nI t) τ1).1 0 25) 1057 (f_Mo_join (nI t) τ1)).2) _ _
            rw [xb_id]; exact d3
        · have c1 : f_Te_isTruth (nI t) σ = 0 := kt2.mpr h6
          have c2 : f_Mo_isTruth (nI t) (bg τ) = 0 := km2.mpr h6
          refine ⟨⟨k_shut σ, fun _ => ⟨ks1, fun z => absurd z s1, fun _ => ⟨k_has _ σ, fun z => absurd z g1, fun _ => ⟨kt1, fun _ => ⟨kthr2 σ, fun _ _ => trivial⟩, fun z => absurd c1 z⟩⟩⟩, fun _ => trivial⟩, ⟨k_begin τ, ?_⟩, ?_⟩
          · rw [e2]; exact ⟨fun _ => ⟨ks2, fun z => absurd z s2, fun _ => ⟨kk_isTerm _ (bg τ), fun z => absurd z g2, fun _ => ⟨km1, fun _ => ⟨(fs_2_1057 _).1, trivial⟩, fun z => absurd c2 z⟩⟩⟩, fun _ => trivial⟩
          · rw [if_pos c1, if_pos c2, (fs_2_1057 _).2]
            exact R2
  · obtain ⟨e1, e2⟩ := (op_shut h).2 hf
    have eC : f_CL_widen a b σ = (.inl (-1), σ) := by
      show (if f_CL_isShut σ = 0 then _ else _) = _
      rw [if_neg e1]
    have eM : f_Mo_widen a b τ = (-1, bg τ) := by
      show f_Mo_widen_4 a b (f_Mo_begin τ).1 (f_Mo_begin τ).2 = _
      rw [e2]
      show (if (1 : Int32) = 0 then _ else _) = _
      rw [if_neg (by decide)]
    refine ⟨⟨k_shut σ, fun z => absurd z e1, fun _ => trivial⟩, ⟨k_begin τ, ?_⟩, ?_⟩
    · rw [e2]; exact ⟨fun z => absurd z (show ¬ (1 : Int32) = 0 by decide), fun _ => trivial⟩
    · rw [eC, eM]; exact res_shut h
end OPS5
