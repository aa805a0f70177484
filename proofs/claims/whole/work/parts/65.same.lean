-- same, turn, chain
section OPS
variable {n q c k f : Nat} {σ τ : St}
theorem op_has (h : IV n q c k f σ τ) (a : Int32) : (¬ (0 ≤ a.toInt ∧ a.toInt < n) → f_Te_has a σ = 0 ∧ f_Mo_isTerm a (bg τ) = 0) ∧ ((0 ≤ a.toInt ∧ a.toInt < n) → ¬ f_Te_has a σ = 0 ∧ ¬ f_Mo_isTerm a (bg τ) = 0) := by
  have hn := h.1
  have h1 := has_iff h.2.1.1 (by omega) a
  have h2 := isT_iff (τ := bg τ) (n := n) h.2.1.2.1 (by omega) a
  exact ⟨fun q => ⟨h1.mpr q, h2.mpr q⟩, fun q => ⟨fun z => h1.mp z q, fun z => h2.mp z q⟩⟩
theorem nI_arg {t n : Nat} (ht : t < n) (hn : n ≤ 100) : 0 ≤ (nI t).toInt ∧ (nI t).toInt < n := by
  rw [i_nI (by omega)]; omega
theorem op_same (a : Int32) (h : IV n q c k f σ τ) : k_CL_same a σ ∧ k_Mo_same a τ ∧ RES n τ (f_CL_same a σ) (f_Mo_same a τ) cd_same (fun E => E = 1 ∨ E = 3 ∨ E = 4) := by
  have hn := h.1
  by_cases hf : f < 60
  · obtain ⟨e1, e2⟩ := (op_shut h).1 hf
    have eC : f_CL_same a σ = if f_Te_has a σ = 0 then (.inr 1, un σ) else f_CL_same_32 a (sF σ 25 1 0) := by
      show (if f_CL_isShut σ = 0 then (if f_Te_has a σ = 0 then (.inr 1, un σ) else f_CL_same_32 a (sF σ 25 1 0)) else _) = _
      rw [if_pos e1]
    have eM : f_Mo_same a τ = if f_Mo_isTerm a (bg τ) = 0 then ((f_Mo_fails 1 1073 (bg τ)).1, (f_Mo_fails 1 1073 (bg τ)).2) else f_Mo_same_36 1073 (f_Mo_made 5 a a (bg τ)).1 (f_Mo_made 5 a a (bg τ)).2 := by
      show f_Mo_same_4 a (f_Mo_begin τ).1 (f_Mo_begin τ).2 = _
      rw [e2]
      show (if (0 : Int32) = 0 then _ else _) = _
      rw [if_pos rfl]; rfl
    have kC : (¬ f_Te_has a σ = 0 → k_CL_same_32 a (sF σ 25 1 0)) → k_CL_same a σ := fun g => ⟨k_shut σ, fun _ => ⟨k_has a σ, fun _ => ⟨kthr1 σ, fun _ _ => trivial⟩, fun z => ⟨trivial, g z⟩⟩, fun _ => trivial⟩
    have kM : (¬ f_Mo_isTerm a (bg τ) = 0 → k_Mo_made 5 a a (bg τ) ∧ k_Mo_same_36 1073 (f_Mo_made 5 a a (bg τ)).1 (f_Mo_made 5 a a (bg τ)).2) → k_Mo_same a τ := fun g => by
      refine ⟨k_begin τ, ?_⟩
      rw [e2]
      exact ⟨fun _ => ⟨kk_isTerm a (bg τ), fun _ => ⟨(fs_1_1073 _).1, trivial⟩, fun z => g z⟩, fun _ => trivial⟩
    rcases arg_cases a n with ha | ⟨t, ht, rfl⟩
    · obtain ⟨g1, g2⟩ := (op_has h a).1 ha
      refine ⟨kC (fun z => absurd g1 z), kM (fun z => absurd g2 z), ?_⟩
      rw [eC, eM, if_pos g1, if_pos g2, (fs_1_1073 _).2]
      exact h.refuse0 hf rfl (by decide) (Or.inl rfl)
    · obtain ⟨g1, g2⟩ := (op_has h (nI t)).2 (nI_arg ht hn)
      obtain ⟨a1, a2, m, n', σ', τ', f1, f2, a3, a4, a5, a6, a7⟩ := (PK.start h).eqn (by omega) ht ht rfl
      obtain ⟨b1, b2, r', b3, b4, b5, b6⟩ := a6.join (by omega) a3 (by omega)
      obtain ⟨d1, d2, d3⟩ := b5.enter (cd := cd_same) (al := fun E => E = 1 ∨ E = 3 ∨ E = 4) (nm := 1073) (c3 := 2) (c4 := 3) (by omega) hf (fun _ => ⟨fs_3_1073 _, rfl, by decide, Or.inr (Or.inl rfl)⟩) (fs_4_1073 _) ⟨rfl, by decide, Or.inr (Or.inr rfl)⟩
      rw [eC, eM, if_neg g1, if_neg g2, f2]
      refine ⟨kC (fun _ => ⟨a1, ?_⟩), kM (fun _ => ⟨a2, ?_⟩), ?_⟩
      · rw [f1]; exact ⟨b1, trivial, d1, fun _ _ => trivial⟩
      · rw [f2]; exact ⟨b2, d2, trivial⟩
      · show RES n τ (f_CL_same_45 (f_Te_equation (nI t) (nI t) (sF σ 25 1 0)).1 (f_Te_equation (nI t) (nI t) (sF σ 25 1 0)).2) _ _ _
        rw [f1]
        show RES n τ (xb (f_CL_enterRow (f_Sc_innermost (f_Ro_join (nI m) σ')) 0 (f_Ro_join (nI m) σ')) (fun x u => (.inl x, u))) ((f_Mo_enter ((f_Mo_join (nI m) τ').1 0 25) 1073 (f_Mo_join (nI m) τ')).1, (f_Mo_enter ((f_Mo_join (nI m) τ').1 0 25) 1073 (f_Mo_join (nI m) τ')).2) _ _
        rw [xb_id]; exact d3
  · obtain ⟨e1, e2⟩ := (op_shut h).2 hf
    have eC : f_CL_same a σ = (.inl (-1), σ) := by
      show (if f_CL_isShut σ = 0 then _ else _) = _
      rw [if_neg e1]
    have eM : f_Mo_same a τ = (-1, bg τ) := by
      show f_Mo_same_4 a (f_Mo_begin τ).1 (f_Mo_begin τ).2 = _
      rw [e2]
      show (if (1 : Int32) = 0 then _ else _) = _
      rw [if_neg (by decide)]
    refine ⟨⟨k_shut σ, fun z => absurd z e1, fun _ => trivial⟩, ⟨k_begin τ, ?_⟩, ?_⟩
    · rw [e2]; exact ⟨fun z => absurd z (show ¬ (1 : Int32) = 0 by decide), fun _ => trivial⟩
    · rw [eC, eM]; exact res_shut h
end OPS
