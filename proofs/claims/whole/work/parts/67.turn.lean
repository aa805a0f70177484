-- turn and chain
section OPS2
variable {n q c k f : Nat} {σ τ : St}
abbrev al4 : Nat → Prop := fun E => E = 1 ∨ E = 2 ∨ E = 3 ∨ E = 4
theorem op_turn (a : Int32) (h : IV n q c k f σ τ) : k_CL_turn a σ ∧ k_Mo_turn a τ ∧ RES n τ (f_CL_turn a σ) (f_Mo_turn a τ) cd_turn al4 := by
  have hn := h.1
  by_cases hf : f < 60
  · obtain ⟨e1, e2⟩ := (op_shut h).1 hf
    have eC : f_CL_turn a σ = if f_Te_has a σ = 0 then (.inr 1, un σ) else (if f_Te_kindOf a σ = 5 then f_CL_turn_49 a (sF σ 25 1 0) else (.inr 2, un σ)) := by
      show (if f_CL_isShut σ = 0 then (if f_Te_has a σ = 0 then (.inr 1, un σ) else (if f_Te_kindOf a σ = 5 then f_CL_turn_49 a (sF σ 25 1 0) else (.inr 2, un σ))) else _) = _
      rw [if_pos e1]
    have eM : f_Mo_turn a τ = if f_Mo_isTerm a (bg τ) = 0 then ((f_Mo_fails 1 17185 (bg τ)).1, (f_Mo_fails 1 17185 (bg τ)).2) else (if τ.1 5 a.toNatClampNeg = 5 then f_Mo_turn_51 a 17185 (f_Mo_joinAs a 0 (bg τ)) else ((f_Mo_fails 2 17185 (bg τ)).1, (f_Mo_fails 2 17185 (bg τ)).2)) := by
      show f_Mo_turn_4 a (f_Mo_begin τ).1 (f_Mo_begin τ).2 = _
      rw [e2]
      show (if (0 : Int32) = 0 then _ else _) = _
      rw [if_pos rfl]; rfl
    have kM : (¬ f_Mo_isTerm a (bg τ) = 0 → vp_in a 400 ∧ (τ.1 5 a.toNatClampNeg = 5 → k_Mo_joinAs a 0 (bg τ) ∧ k_Mo_turn_51 a 17185 (f_Mo_joinAs a 0 (bg τ)))) → k_Mo_turn a τ := fun g => by
      refine ⟨k_begin τ, ?_⟩
      rw [e2]
      exact ⟨fun _ => ⟨kk_isTerm a (bg τ), fun _ => ⟨(fs_1_17185 _).1, trivial⟩, fun z => ⟨(g z).1, fun z2 => (g z).2 z2, fun _ => ⟨(fs_2_17185 _).1, trivial⟩⟩⟩, fun _ => trivial⟩
    rcases arg_cases a n with ha | ⟨t, ht, rfl⟩
    · obtain ⟨g1, g2⟩ := (op_has h a).1 ha
      refine ⟨⟨k_shut σ, fun _ => ⟨k_has a σ, fun _ => ⟨kthr1 σ, fun _ _ => trivial⟩, fun z => absurd g1 z⟩, fun _ => trivial⟩, kM (fun z => absurd g2 z), ?_⟩
      rw [eC, eM, if_pos g1, if_pos g2, (fs_1_17185 _).2]
      exact h.refuse0 hf rfl (by decide) (Or.inl rfl)
    · obtain ⟨g1, g2⟩ := (op_has h (nI t)).2 (nI_arg ht hn)
      have hcl : (nI t).toNatClampNeg = t := nI_clamp (by omega)
      have hin : vp_in (nI t) 400 := by rw [in_iff, i_nI (by omega)]; omega
      obtain ⟨⟨ek, -⟩, kk, -⟩ := h.acc ht
      rw [eC, eM, if_neg g1, if_neg g2, ek, hcl]
      by_cases h5 : τ.1 5 t = 5
      · have c5 : f_Te_kindOf (nI t) σ = 5 := ek.trans h5
        rw [if_pos h5, if_pos h5]
        obtain ⟨i, j, i1, i2, i3, i4, i5, i6⟩ := h.eq5 ht h5
        obtain ⟨a1, a2, a3, n1, r1, σ1, τ1, s1, s2, a4, a5, a6, a7, a8, a9⟩ := (PK.start h).joinOpp (by omega) (by omega) (t := t) ⟨ht, i5⟩
        obtain ⟨⟨-, -, y1, y2, -⟩, -, -, y3, y4, -⟩ := a8.acc (by omega) (t := t) (by omega)
        have z8 : τ1.1 8 t = nI i := (a9 8 (by omega) (by omega) t ht).trans i3
        have z9 : τ1.1 9 t = nI j := (a9 9 (by omega) (by omega) t ht).trans i4
        have z6 : τ1.1 6 j = τ1.1 6 i := by
          rw [a9 6 (by omega) (by omega) j (by omega), a9 6 (by omega) (by omega) i (by omega)]; exact i6.symm
        rw [z8] at y1
        rw [z9] at y2
        obtain ⟨b1, b2, b3, b4, n2, r2, σ2, τ2, s3, s4, b5, b6, b7, b8, b9, b10⟩ := a8.joinEqn (p := j) (p2 := i) (by omega) (by omega) (by omega) (by omega) z6
        obtain ⟨d1, d2, d3⟩ := b9.enter (cd := cd_turn) (al := al4) (nm := 17185) (c3 := 3) (c4 := 4) (by omega) hf (fun _ => ⟨fs_3_17185 _, rfl, by decide, Or.inr (Or.inr (Or.inl rfl))⟩) (fs_4_17185 _) ⟨rfl, by decide, Or.inr (Or.inr (Or.inr rfl))⟩
        refine ⟨⟨k_shut σ, fun _ => ⟨k_has _ σ, fun z => absurd z g1, fun _ => ⟨kk, fun _ => ⟨trivial, a1, a2, ?_⟩, fun z => absurd c5 z⟩⟩, fun _ => trivial⟩, kM (fun _ => ⟨hin, fun _ => ⟨a3, ?_⟩⟩), ?_⟩
        · show k_CL_turn_64 (nI t) (f_Ro_join (f_Te_opposite (nI t) (sF σ 25 1 0)).1 (f_Te_opposite (nI t) (sF σ 25 1 0)).2)
          rw [s1]
          refine ⟨y4, y3, ?_⟩
          rw [y1, y2]
          refine ⟨b1, b2, ?_⟩
          rw [s3]
          exact ⟨trivial, d1, fun _ _ => trivial⟩
        · rw [s2]
          refine ⟨hin, hin, ?_⟩
          rw [hcl, z8, z9]
          refine ⟨b3, b4, ?_⟩
          rw [s4]
          exact ⟨d2, trivial⟩
        · show RES n τ (f_CL_turn_64 (nI t) (f_Ro_join (f_Te_opposite (nI t) (sF σ 25 1 0)).1 (f_Te_opposite (nI t) (sF σ 25 1 0)).2)) (f_Mo_turn_51 (nI t) 17185 (f_Mo_joinAs (nI t) 0 (bg τ))) _ _
          rw [s1, s2]
          show RES n τ (f_CL_turn_94 (f_Ro_join (f_Te_equation (f_Te_secondOf (nI t) σ1) (f_Te_firstOf (nI t) σ1) σ1).1 (f_Te_equation (f_Te_secondOf (nI t) σ1) (f_Te_firstOf (nI t) σ1) σ1).2)) (f_Mo_turn_72 17185 (f_Mo_join (f_Mo_made 5 (τ1.1 9 (nI t).toNatClampNeg) (τ1.1 8 (nI t).toNatClampNeg) τ1).1 (f_Mo_made 5 (τ1.1 9 (nI t).toNatClampNeg) (τ1.1 8 (nI t).toNatClampNeg) τ1).2)) _ _
          rw [y1, y2, hcl, z8, z9, s3, s4]
          show RES n τ (xb (f_CL_enterRow (f_Sc_innermost σ2) 0 σ2) (fun x u => (.inl x, u))) ((f_Mo_enter (τ2.1 0 25) 17185 τ2).1, (f_Mo_enter (τ2.1 0 25) 17185 τ2).2) _ _
          rw [xb_id]; exact d3
      · have c5 : ¬ f_Te_kindOf (nI t) σ = 5 := fun z => h5 (ek.symm.trans z)
        refine ⟨⟨k_shut σ, fun _ => ⟨k_has _ σ, fun z => absurd z g1, fun _ => ⟨kk, fun z => absurd z c5, fun _ => ⟨kthr2 σ, fun _ _ => trivial⟩⟩⟩, fun _ => trivial⟩, kM (fun _ => ⟨hin, fun z => by rw [hcl] at z; exact absurd z h5⟩), ?_⟩
        rw [if_neg h5, if_neg h5, (fs_2_17185 _).2]
        exact h.refuse0 hf rfl (by decide) (Or.inr (Or.inl rfl))
  · obtain ⟨e1, e2⟩ := (op_shut h).2 hf
    have eC : f_CL_turn a σ = (.inl (-1), σ) := by
      show (if f_CL_isShut σ = 0 then _ else _) = _
      rw [if_neg e1]
    have eM : f_Mo_turn a τ = (-1, bg τ) := by
      show f_Mo_turn_4 a (f_Mo_begin τ).1 (f_Mo_begin τ).2 = _
      rw [e2]
      show (if (1 : Int32) = 0 then _ else _) = _
      rw [if_neg (by decide)]
    refine ⟨⟨k_shut σ, fun z => absurd z e1, fun _ => trivial⟩, ⟨k_begin τ, ?_⟩, ?_⟩
    · rw [e2]; exact ⟨fun z => absurd z (show ¬ (1 : Int32) = 0 by decide), fun _ => trivial⟩
    · rw [eC, eM]; exact res_shut h
end OPS2
