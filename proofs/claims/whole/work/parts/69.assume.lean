-- assume
section OPS4
variable {n q c k f : Nat} {σ τ : St}
abbrev al3 : Nat → Prop := fun E => E = 1 ∨ E = 2 ∨ E = 4
theorem op_assume (a : Int32) (h : IV n q c k f σ τ) : k_CL_assume a σ ∧ k_Mo_assume a τ ∧ RES n τ (f_CL_assume a σ) (f_Mo_assume a τ) cd_assume al3 := by
  have hn := h.1
  by_cases hf : f < 60
  · obtain ⟨e1, e2⟩ := (op_shut h).1 hf
    have eC : f_CL_assume a σ = if f_Te_has a σ = 0 then (.inr 1, un σ) else (if f_Te_isTruth a σ = 0 then (.inr 2, un σ) else f_CL_assume_48 a (sF σ 25 1 0)) := by
      show (if f_CL_isShut σ = 0 then (if f_Te_has a σ = 0 then (.inr 1, un σ) else (if f_Te_isTruth a σ = 0 then (.inr 2, un σ) else f_CL_assume_48 a (sF σ 25 1 0))) else _) = _
      rw [if_pos e1]
    have eM : f_Mo_assume a τ = if f_Mo_isTerm a (bg τ) = 0 then ((f_Mo_fails 1 1057 (bg τ)).1, (f_Mo_fails 1 1057 (bg τ)).2) else (if f_Mo_isTruth a (bg τ) = 0 then ((f_Mo_fails 2 1057 (bg τ)).1, (f_Mo_fails 2 1057 (bg τ)).2) else f_Mo_assume_48 1057 (f_Mo_join a (bg τ))) := by
      show f_Mo_assume_4 a (f_Mo_begin τ).1 (f_Mo_begin τ).2 = _
      rw [e2]
      show (if (0 : Int32) = 0 then _ else _) = _
      rw [if_pos rfl]; rfl
    rcases arg_cases a n with ha | ⟨t, ht, rfl⟩
    · obtain ⟨g1, g2⟩ := (op_has h a).1 ha
      refine ⟨⟨k_shut σ, fun _ => ⟨k_has a σ, fun _ => ⟨kthr1 σ, fun _ _ => trivial⟩, fun z => absurd g1 z⟩, fun _ => trivial⟩, ⟨k_begin τ, ?_⟩, ?_⟩
      · rw [e2]; exact ⟨fun _ => ⟨kk_isTerm a (bg τ), fun _ => ⟨(fs_1_1057 _).1, trivial⟩, fun z => absurd g2 z⟩, fun _ => trivial⟩
      · rw [eC, eM, if_pos g1, if_pos g2, (fs_1_1057 _).2]
        exact h.refuse0 hf rfl (by decide) (Or.inl rfl)
    · obtain ⟨g1, g2⟩ := (op_has h (nI t)).2 (nI_arg ht hn)
      obtain ⟨kt1, kt2⟩ := truth_C h.2.1 (by omega) ht
      obtain ⟨km1, km2⟩ := truth_M (τ := bg τ) (t := t) (by omega)
      have km2 : f_Mo_isTruth (nI t) (bg τ) = 0 ↔ ¬ τ.1 6 t = 0 := km2
      rw [eC, eM, if_neg g1, if_neg g2]
      by_cases h6 : τ.1 6 t = 0
      · have c1 : ¬ f_Te_isTruth (nI t) σ = 0 := fun z => kt2.mp z h6
        have c2 : ¬ f_Mo_isTruth (nI t) (bg τ) = 0 := fun z => km2.mp z h6
        rw [if_neg c1, if_neg c2]
        have P0 := PK.start h
        obtain ⟨b1, b2, r', b3, b4, b5, b6⟩ := P0.join (t := t) (by omega) ⟨ht, h6⟩ (by omega)
        have r1 : r' = 1 := by
          obtain ⟨-, -, hc⟩ := join_sim P0.1.2 (by omega) (nI_ne_m1 (i := t) (by omega))
          rcases hc with ⟨-, -, j, hj, -⟩ | ⟨-, -, hR⟩
          · omega
          · have w1 := hR.2.1
            have w2 := b5.1.2.2.1
            rw [w2] at w1
            exact (nI_inj (by omega) (by omega)).mp w1
        subst r1
        generalize hs : f_Ro_join (nI t) (sF σ 25 1 0) = σ1 at b5
        generalize ht1 : f_Mo_join (nI t) (bg τ) = τ1 at b5 b6
        obtain ⟨i1, i2, i3⟩ := b5.inner
        obtain ⟨p1, p2, p3, p4, p5, p6⟩ := b5
        obtain ⟨d1, d2, hc⟩ := enter_sim (asm := 1) (nm := 1057) (c3 := 0) (c4 := 3) p1 p2 (by omega) p5 i3 (Or.inr ⟨rfl, by omega⟩) p6 (fun ⟨x, q1, q2, _⟩ => absurd q1 (by omega)) (fs_4_1057 τ1)
        have eE : f_CL_assume_48 (nI t) (sF σ 25 1 0) = f_CL_enterRow (nI c) 1 σ1 := by
          show xb (f_CL_enterRow (f_Sc_innermost (f_Ro_join (nI t) (sF σ 25 1 0))) 1 (f_Ro_join (nI t) (sF σ 25 1 0))) (fun x u => (.inl x, u)) = _
          rw [hs, i1, xb_id]
        have eW : f_Mo_assume_48 1057 τ1 = if (f_Mo_enter (nI c) 1057 τ1).2.1 0 0 = 0 then ((f_Mo_enter (nI c) 1057 τ1).1, sA (f_Mo_enter (nI c) 1057 τ1).2 17 (f_Mo_enter (nI c) 1057 τ1).1 (vp_nar .boolean 1)) else ((f_Mo_enter (nI c) 1057 τ1).1, (f_Mo_enter (nI c) 1057 τ1).2) := by
          show (if (f_Mo_enter (τ1.1 0 25) 1057 τ1).2.1 0 0 = 0 then ((f_Mo_enter (τ1.1 0 25) 1057 τ1).1, sA (f_Mo_enter (τ1.1 0 25) 1057 τ1).2 17 (f_Mo_enter (τ1.1 0 25) 1057 τ1).1 (vp_nar .boolean 1)) else ((f_Mo_enter (τ1.1 0 25) 1057 τ1).1, (f_Mo_enter (τ1.1 0 25) 1057 τ1).2)) = _
          rw [i2]
        have kC : k_CL_assume (nI t) σ := ⟨k_shut σ, fun _ => ⟨k_has _ σ, fun z => absurd z g1, fun _ => ⟨kt1, fun z => absurd z c1, fun _ => ⟨trivial, b1, trivial, by
          show k_CL_enterRow (f_Sc_innermost (f_Ro_join (nI t) (sF σ 25 1 0))) 1 (f_Ro_join (nI t) (sF σ 25 1 0))
          rw [hs, i1]; exact d1, fun _ _ => trivial⟩⟩⟩, fun _ => trivial⟩
        have kM : (∀ w, f_Mo_enter (nI c) 1057 τ1 = w → k_Mo_assume_57 w.1 w.2) → k_Mo_assume (nI t) τ := fun g => by
          refine ⟨k_begin τ, ?_⟩
          rw [e2]
          refine ⟨fun _ => ⟨kk_isTerm _ (bg τ), fun z => absurd z g2, fun _ => ⟨km1, fun z => absurd z c2, fun _ => ⟨b2, ?_⟩⟩⟩, fun _ => trivial⟩
          show k_Mo_assume_48 1057 (f_Mo_join (nI t) (bg τ))
          rw [ht1]
          refine ⟨?_, ?_⟩
          · rw [i2]; exact d2
          · rw [i2]; exact g _ rfl
        rw [eE, eW]
        rcases hc with ⟨f1, f2, x, q1, q2, -⟩ | ⟨f1, f2⟩ | ⟨σ', τ', f1, f2, f3, f4, f5, f6, f7, f8, f9⟩
        · exact absurd q1 (by omega)
        · have n0 : ¬ (fl 3 τ1).1 0 0 = 0 := by show ¬ (3 : Int32) = 0; decide
          refine ⟨kC, kM (fun w hw => ?_), ?_⟩
          · rw [f2] at hw; subst hw
            exact ⟨fun z => absurd z n0, fun _ => trivial⟩
          · rw [f1, f2, if_neg n0]
            exact res_ref p1.1 p2 p5 hf p3 rfl (by decide) (Or.inr (Or.inr rfl))
        · have c0 : τ'.1 0 0 = 0 := f5.trans p4
          have hck : (nI k).toNatClampNeg = k := nI_clamp (by omega)
          refine ⟨kC, kM (fun w hw => ?_), ?_⟩
          · rw [f2] at hw; subst hw
            exact ⟨fun _ => ⟨by rw [in_iff, i_nI (by omega)]; omega, trivial⟩, fun z => absurd c0 z⟩
          · rw [f1, f2, if_pos c0]
            have hb : vp_nar .boolean 1 = 1 := by decide +kernel
            refine ⟨⟨fun x hx => (by cases hx; exact ⟨c0, rfl⟩), fun E hE => (by cases hE)⟩, fun E hE => (by cases hE), ⟨n, q, c, k + 1, f, Nat.le_refl n, f9 _ (fun c1 q1 => ?_) (fun j hj => ?_) ?_⟩, fun c1 q1 q2 j hj => ?_⟩
            · show pu τ'.1 17 _ c1 = _
              rw [pu_at, if_neg q1]
            · show upd (τ'.1 17) (nI k).toNatClampNeg _ j = _
              rw [upd_at, hck, if_neg hj]
            · show upd (τ'.1 17) (nI k).toNatClampNeg _ k = _
              rw [upd_at, hck, if_pos rfl, hb]
            · show pu τ'.1 17 _ c1 j = _
              rw [pu_at, if_neg (by omega), f6 c1 q1 q2]; exact p3 c1 q1 q2 j hj
      · have c1 : f_Te_isTruth (nI t) σ = 0 := kt2.mpr h6
        have c2 : f_Mo_isTruth (nI t) (bg τ) = 0 := km2.mpr h6
        refine ⟨⟨k_shut σ, fun _ => ⟨k_has _ σ, fun z => absurd z g1, fun _ => ⟨kt1, fun _ => ⟨kthr2 σ, fun _ _ => trivial⟩, fun z => absurd c1 z⟩⟩, fun _ => trivial⟩, ⟨k_begin τ, ?_⟩, ?_⟩
        · rw [e2]; exact ⟨fun _ => ⟨kk_isTerm _ (bg τ), fun z => absurd z g2, fun _ => ⟨km1, fun _ => ⟨(fs_2_1057 _).1, trivial⟩, fun z => absurd c2 z⟩⟩, fun _ => trivial⟩
        · rw [if_pos c1, if_pos c2, (fs_2_1057 _).2]
          exact h.refuse0 hf rfl (by decide) (Or.inr (Or.inl rfl))
  · obtain ⟨e1, e2⟩ := (op_shut h).2 hf
    have eC : f_CL_assume a σ = (.inl (-1), σ) := by
      show (if f_CL_isShut σ = 0 then _ else _) = _
      rw [if_neg e1]
    have eM : f_Mo_assume a τ = (-1, bg τ) := by
      show f_Mo_assume_4 a (f_Mo_begin τ).1 (f_Mo_begin τ).2 = _
      rw [e2]
      show (if (1 : Int32) = 0 then _ else _) = _
      rw [if_neg (by decide)]
    refine ⟨⟨k_shut σ, fun z => absurd z e1, fun _ => trivial⟩, ⟨k_begin τ, ?_⟩, ?_⟩
    · rw [e2]; exact ⟨fun z => absurd z (show ¬ (1 : Int32) = 0 by decide), fun _ => trivial⟩
    · rw [eC, eM]; exact res_shut h
end OPS4
