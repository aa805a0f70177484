-- the first call on fresh objects
def I1 (n : Nat) (σ : St) (_ : Unit) (τ : St) : Prop := n = 0 ∨ (n = 1 ∧ σ = σ0 ∧ τ = τ0)
theorem I1.use {n : Nat} {σ τ : St} {B : Unit} (h : I1 (n + 1) σ B τ) : σ = σ0 ∧ τ = τ0 ∧ ∀ σ1 τ1, I1 n σ1 B τ1 := by
  rcases h with h | ⟨h1, h2, h3⟩
  · omega
  · exact ⟨h2, h3, fun _ _ => Or.inl (by omega)⟩
theorem shut0 : f_CL_isShut σ0 = 0 := rfl
theorem c110 : σ0.1 6 11 = nI 0 := by rw [nI_0]; rfl
theorem has0 (a : Int32) : f_Te_has a σ0 = 0 := (has_iff c110 (by omega) a).mpr (by omega)
theorem step0 (a : Int32) : f_St_has a σ0 = 0 := by
  show (if a < 0 then (0 : Int32) else (if (0 : Int32) ≤ a then 0 else 1)) = 0
  by_cases h : a < 0
  · rw [if_pos h]
  · rw [if_neg h, if_pos (Int32.not_lt.mp h)]
theorem k_sthas (a : Int32) (σ : St) : k_St_has a σ := ⟨fun _ => ⟨rfl, trivial⟩, fun _ => ⟨fun _ => ⟨rfl, trivial⟩, fun _ => ⟨rfl, trivial⟩⟩⟩
theorem stands0 (a : Int32) : f_CL_stands a σ0 = 0 := by
  show (if f_St_has a σ0 = 0 then (0 : Int32) else _) = 0
  rw [if_pos (step0 a)]
theorem k_stands0 (a : Int32) : k_CL_stands a σ0 := ⟨k_sthas a σ0, fun _ => ⟨rfl, trivial⟩, fun h => absurd (step0 a) h⟩
theorem k_isTerm (a : Int32) (τ : St) : k_Mo_isTerm a τ := ⟨fun _ => ⟨rfl, trivial⟩, fun _ => ⟨fun _ => ⟨rfl, trivial⟩, fun _ => ⟨rfl, trivial⟩⟩⟩
theorem isT0 (a : Int32) : f_Mo_isTerm a (bg τ0) = 0 := by
  show (if a < 0 then (0 : Int32) else (if (0 : Int32) ≤ a then 0 else 1)) = 0
  by_cases h : a < 0
  · rw [if_pos h]
  · rw [if_neg h, if_pos (Int32.not_lt.mp h)]
theorem mst0 (a : Int32) : f_Mo_stands a (bg τ0) = 0 := by
  show (if a < 0 then (0 : Int32) else (if a < (0 : Int32) then _ else 0)) = 0
  by_cases h : a < 0
  · rw [if_pos h]
  · rw [if_neg h, if_neg h]
theorem k_mst0 (a : Int32) : k_Mo_stands a (bg τ0) := ⟨fun _ => trivial, fun h => ⟨fun h2 => absurd h2 h, fun _ => trivial⟩⟩
theorem bg0 : f_Mo_begin τ0 = (0, bg τ0) := by
  rw [begin_eq, if_pos (show τ0.1 0 1 < 60 from (by decide : (0 : Int32) < 60))]
theorem p1_assume (a1 : Int32) : k_CL_assume a1 σ0 ∧ f_CL_assume a1 σ0 = (.inr 1, un σ0) ∧ k_Mo_assume a1 τ0 ∧ f_Mo_assume a1 τ0 = (0, fl 1 (bg τ0)) := by
  refine ⟨⟨k_shut σ0, fun _ => ⟨k_has a1 σ0, fun _ => ⟨kthr1 σ0, fun _ _ => trivial⟩, fun h => absurd (has0 a1) h⟩, fun _ => trivial⟩, ?_, ⟨k_begin τ0, ?_⟩, ?_⟩
  · show (if f_CL_isShut σ0 = 0 then (if f_Te_has a1 σ0 = 0 then xb (f_CL_throwMissing σ0) _ else _) else _) = _
    rw [if_pos shut0, if_pos (has0 a1)]; rfl
  · rw [bg0]
    exact ⟨fun _ => ⟨k_isTerm a1 (bg τ0), fun _ => ⟨(fs_1_1057 _).1, trivial⟩, fun h => absurd (isT0 a1) h⟩, fun _ => trivial⟩
  · show f_Mo_assume_4 a1 (f_Mo_begin τ0).1 (f_Mo_begin τ0).2 = _
    rw [bg0]
    show (if (0 : Int32) = 0 then (if f_Mo_isTerm a1 (bg τ0) = 0 then ((f_Mo_fails 1 1057 (bg τ0)).1, (f_Mo_fails 1 1057 (bg τ0)).2) else _) else _) = _
    rw [if_pos rfl, if_pos (isT0 a1), (fs_1_1057 _).2]
theorem s1_assume : S_assume I1 := by
  intro n σ B τ a1 hI
  obtain ⟨rfl, rfl, hJ⟩ := hI.use
  obtain ⟨h1, h2, h3, h4⟩ := p1_assume a1
  refine ⟨h1, fun E hE => ?_, h3, ?_, hJ _ _⟩
  · rw [h2] at hE; cases hE; decide
  · rw [h2, h4]; exact ⟨fun x hx => (by cases hx), fun E hE => by cases hE; exact ⟨rfl, by decide⟩⟩
theorem p1_cut (a1 : Int32) (a2 : Int32) (a3 : Int32) : k_CL_cut a1 a2 a3 σ0 ∧ f_CL_cut a1 a2 a3 σ0 = (.inr 1, un σ0) ∧ k_Mo_cut a1 a2 a3 τ0 ∧ f_Mo_cut a1 a2 a3 τ0 = (0, fl 1 (bg τ0)) := by
  refine ⟨⟨k_shut σ0, fun _ => ⟨k_stands0 a1, fun _ => ⟨kthr1 σ0, fun _ _ => trivial⟩, fun h => absurd (stands0 a1) h⟩, fun _ => trivial⟩, ?_, ⟨k_begin τ0, ?_⟩, ?_⟩
  · show (if f_CL_isShut σ0 = 0 then (if f_CL_stands a1 σ0 = 0 then xb (f_CL_throwMissing σ0) _ else _) else _) = _
    rw [if_pos shut0, if_pos (stands0 a1)]; rfl
  · rw [bg0]
    exact ⟨fun _ => ⟨k_mst0 a1, fun _ => ⟨(fs_1_17185 _).1, trivial⟩, fun h => absurd (mst0 a1) h⟩, fun _ => trivial⟩
  · show f_Mo_cut_4 a1 a2 a3 (f_Mo_begin τ0).1 (f_Mo_begin τ0).2 = _
    rw [bg0]
    show (if (0 : Int32) = 0 then (if f_Mo_stands a1 (bg τ0) = 0 then ((f_Mo_fails 1 17185 (bg τ0)).1, (f_Mo_fails 1 17185 (bg τ0)).2) else _) else _) = _
    rw [if_pos rfl, if_pos (mst0 a1), (fs_1_17185 _).2]
theorem s1_cut : S_cut I1 := by
  intro n σ B τ a1 a2 a3 hI
  obtain ⟨rfl, rfl, hJ⟩ := hI.use
  obtain ⟨h1, h2, h3, h4⟩ := p1_cut a1 a2 a3
  refine ⟨h1, fun E hE => ?_, h3, ?_, hJ _ _⟩
  · rw [h2] at hE; cases hE; decide
  · rw [h2, h4]; exact ⟨fun x hx => (by cases hx), fun E hE => by cases hE; exact ⟨rfl, by decide⟩⟩
theorem p1_widen (a1 : Int32) (a2 : Int32) : k_CL_widen a1 a2 σ0 ∧ f_CL_widen a1 a2 σ0 = (.inr 1, un σ0) ∧ k_Mo_widen a1 a2 τ0 ∧ f_Mo_widen a1 a2 τ0 = (0, fl 1 (bg τ0)) := by
  refine ⟨⟨k_shut σ0, fun _ => ⟨k_stands0 a1, fun _ => ⟨kthr1 σ0, fun _ _ => trivial⟩, fun h => absurd (stands0 a1) h⟩, fun _ => trivial⟩, ?_, ⟨k_begin τ0, ?_⟩, ?_⟩
  · show (if f_CL_isShut σ0 = 0 then (if f_CL_stands a1 σ0 = 0 then xb (f_CL_throwMissing σ0) _ else _) else _) = _
    rw [if_pos shut0, if_pos (stands0 a1)]; rfl
  · rw [bg0]
    exact ⟨fun _ => ⟨k_mst0 a1, fun _ => ⟨(fs_1_1057 _).1, trivial⟩, fun h => absurd (mst0 a1) h⟩, fun _ => trivial⟩
  · show f_Mo_widen_4 a1 a2 (f_Mo_begin τ0).1 (f_Mo_begin τ0).2 = _
    rw [bg0]
    show (if (0 : Int32) = 0 then (if f_Mo_stands a1 (bg τ0) = 0 then ((f_Mo_fails 1 1057 (bg τ0)).1, (f_Mo_fails 1 1057 (bg τ0)).2) else _) else _) = _
    rw [if_pos rfl, if_pos (mst0 a1), (fs_1_1057 _).2]
theorem s1_widen : S_widen I1 := by
  intro n σ B τ a1 a2 hI
  obtain ⟨rfl, rfl, hJ⟩ := hI.use
  obtain ⟨h1, h2, h3, h4⟩ := p1_widen a1 a2
  refine ⟨h1, fun E hE => ?_, h3, ?_, hJ _ _⟩
  · rw [h2] at hE; cases hE; decide
  · rw [h2, h4]; exact ⟨fun x hx => (by cases hx), fun E hE => by cases hE; exact ⟨rfl, by decide⟩⟩
theorem p1_meaning (a1 : Int32) (a2 : Int32) : k_CL_meaning a1 a2 σ0 ∧ f_CL_meaning a1 a2 σ0 = (.inr 1, un σ0) ∧ k_Mo_meaning a1 a2 τ0 ∧ f_Mo_meaning a1 a2 τ0 = (0, fl 1 (bg τ0)) := by
  refine ⟨⟨k_shut σ0, fun _ => ⟨k_has a1 σ0, fun _ => ⟨kthr1 σ0, fun _ _ => trivial⟩, fun h => absurd (has0 a1) h⟩, fun _ => trivial⟩, ?_, ⟨k_begin τ0, ?_⟩, ?_⟩
  · show (if f_CL_isShut σ0 = 0 then (if f_Te_has a1 σ0 = 0 then xb (f_CL_throwMissing σ0) _ else _) else _) = _
    rw [if_pos shut0, if_pos (has0 a1)]; rfl
  · rw [bg0]
    exact ⟨fun _ => ⟨k_isTerm a1 (bg τ0), fun _ => ⟨(fs_1_17185 _).1, trivial⟩, fun h => absurd (isT0 a1) h⟩, fun _ => trivial⟩
  · show f_Mo_meaning_4 a1 a2 (f_Mo_begin τ0).1 (f_Mo_begin τ0).2 = _
    rw [bg0]
    show (if (0 : Int32) = 0 then (if f_Mo_isTerm a1 (bg τ0) = 0 then ((f_Mo_fails 1 17185 (bg τ0)).1, (f_Mo_fails 1 17185 (bg τ0)).2) else _) else _) = _
    rw [if_pos rfl, if_pos (isT0 a1), (fs_1_17185 _).2]
theorem s1_meaning : S_meaning I1 := by
  intro n σ B τ a1 a2 hI
  obtain ⟨rfl, rfl, hJ⟩ := hI.use
  obtain ⟨h1, h2, h3, h4⟩ := p1_meaning a1 a2
  refine ⟨h1, fun E hE => ?_, h3, ?_, hJ _ _⟩
  · rw [h2] at hE; cases hE; decide
  · rw [h2, h4]; exact ⟨fun x hx => (by cases hx), fun E hE => by cases hE; exact ⟨rfl, by decide⟩⟩
theorem p1_same (a1 : Int32) : k_CL_same a1 σ0 ∧ f_CL_same a1 σ0 = (.inr 1, un σ0) ∧ k_Mo_same a1 τ0 ∧ f_Mo_same a1 τ0 = (0, fl 1 (bg τ0)) := by
  refine ⟨⟨k_shut σ0, fun _ => ⟨k_has a1 σ0, fun _ => ⟨kthr1 σ0, fun _ _ => trivial⟩, fun h => absurd (has0 a1) h⟩, fun _ => trivial⟩, ?_, ⟨k_begin τ0, ?_⟩, ?_⟩
  · show (if f_CL_isShut σ0 = 0 then (if f_Te_has a1 σ0 = 0 then xb (f_CL_throwMissing σ0) _ else _) else _) = _
    rw [if_pos shut0, if_pos (has0 a1)]; rfl
  · rw [bg0]
    exact ⟨fun _ => ⟨k_isTerm a1 (bg τ0), fun _ => ⟨(fs_1_1073 _).1, trivial⟩, fun h => absurd (isT0 a1) h⟩, fun _ => trivial⟩
  · show f_Mo_same_4 a1 (f_Mo_begin τ0).1 (f_Mo_begin τ0).2 = _
    rw [bg0]
    show (if (0 : Int32) = 0 then (if f_Mo_isTerm a1 (bg τ0) = 0 then ((f_Mo_fails 1 1073 (bg τ0)).1, (f_Mo_fails 1 1073 (bg τ0)).2) else _) else _) = _
    rw [if_pos rfl, if_pos (isT0 a1), (fs_1_1073 _).2]
theorem s1_same : S_same I1 := by
  intro n σ B τ a1 hI
  obtain ⟨rfl, rfl, hJ⟩ := hI.use
  obtain ⟨h1, h2, h3, h4⟩ := p1_same a1
  refine ⟨h1, fun E hE => ?_, h3, ?_, hJ _ _⟩
  · rw [h2] at hE; cases hE; decide
  · rw [h2, h4]; exact ⟨fun x hx => (by cases hx), fun E hE => by cases hE; exact ⟨rfl, by decide⟩⟩
theorem p1_chain (a1 : Int32) (a2 : Int32) : k_CL_chain a1 a2 σ0 ∧ f_CL_chain a1 a2 σ0 = (.inr 1, un σ0) ∧ k_Mo_chain a1 a2 τ0 ∧ f_Mo_chain a1 a2 τ0 = (0, fl 1 (bg τ0)) := by
  refine ⟨⟨k_shut σ0, fun _ => ⟨k_has a1 σ0, fun _ => ⟨kthr1 σ0, fun _ _ => trivial⟩, fun h => absurd (has0 a1) h⟩, fun _ => trivial⟩, ?_, ⟨k_begin τ0, ?_⟩, ?_⟩
  · show (if f_CL_isShut σ0 = 0 then (if f_Te_has a1 σ0 = 0 then xb (f_CL_throwMissing σ0) _ else _) else _) = _
    rw [if_pos shut0, if_pos (has0 a1)]; rfl
  · rw [bg0]
    exact ⟨fun _ => ⟨k_isTerm a1 (bg τ0), fun _ => ⟨(fs_1_17185 _).1, trivial⟩, fun h => absurd (isT0 a1) h⟩, fun _ => trivial⟩
  · show f_Mo_chain_4 a1 a2 (f_Mo_begin τ0).1 (f_Mo_begin τ0).2 = _
    rw [bg0]
    show (if (0 : Int32) = 0 then (if f_Mo_isTerm a1 (bg τ0) = 0 then ((f_Mo_fails 1 17185 (bg τ0)).1, (f_Mo_fails 1 17185 (bg τ0)).2) else _) else _) = _
    rw [if_pos rfl, if_pos (isT0 a1), (fs_1_17185 _).2]
theorem s1_chain : S_chain I1 := by
  intro n σ B τ a1 a2 hI
  obtain ⟨rfl, rfl, hJ⟩ := hI.use
  obtain ⟨h1, h2, h3, h4⟩ := p1_chain a1 a2
  refine ⟨h1, fun E hE => ?_, h3, ?_, hJ _ _⟩
  · rw [h2] at hE; cases hE; decide
  · rw [h2, h4]; exact ⟨fun x hx => (by cases hx), fun E hE => by cases hE; exact ⟨rfl, by decide⟩⟩
theorem p1_turn (a1 : Int32) : k_CL_turn a1 σ0 ∧ f_CL_turn a1 σ0 = (.inr 1, un σ0) ∧ k_Mo_turn a1 τ0 ∧ f_Mo_turn a1 τ0 = (0, fl 1 (bg τ0)) := by
  refine ⟨⟨k_shut σ0, fun _ => ⟨k_has a1 σ0, fun _ => ⟨kthr1 σ0, fun _ _ => trivial⟩, fun h => absurd (has0 a1) h⟩, fun _ => trivial⟩, ?_, ⟨k_begin τ0, ?_⟩, ?_⟩
  · show (if f_CL_isShut σ0 = 0 then (if f_Te_has a1 σ0 = 0 then xb (f_CL_throwMissing σ0) _ else _) else _) = _
    rw [if_pos shut0, if_pos (has0 a1)]; rfl
  · rw [bg0]
    exact ⟨fun _ => ⟨k_isTerm a1 (bg τ0), fun _ => ⟨(fs_1_17185 _).1, trivial⟩, fun h => absurd (isT0 a1) h⟩, fun _ => trivial⟩
  · show f_Mo_turn_4 a1 (f_Mo_begin τ0).1 (f_Mo_begin τ0).2 = _
    rw [bg0]
    show (if (0 : Int32) = 0 then (if f_Mo_isTerm a1 (bg τ0) = 0 then ((f_Mo_fails 1 17185 (bg τ0)).1, (f_Mo_fails 1 17185 (bg τ0)).2) else _) else _) = _
    rw [if_pos rfl, if_pos (isT0 a1), (fs_1_17185 _).2]
theorem s1_turn : S_turn I1 := by
  intro n σ B τ a1 hI
  obtain ⟨rfl, rfl, hJ⟩ := hI.use
  obtain ⟨h1, h2, h3, h4⟩ := p1_turn a1
  refine ⟨h1, fun E hE => ?_, h3, ?_, hJ _ _⟩
  · rw [h2] at hE; cases hE; decide
  · rw [h2, h4]; exact ⟨fun x hx => (by cases hx), fun E hE => by cases hE; exact ⟨rfl, by decide⟩⟩
theorem p1_replace (a1 : Int32) (a2 : Int32) : k_CL_replace a1 a2 σ0 ∧ f_CL_replace a1 a2 σ0 = (.inr 1, un σ0) ∧ k_Mo_replace a1 a2 τ0 ∧ f_Mo_replace a1 a2 τ0 = (0, fl 1 (bg τ0)) := by
  refine ⟨⟨k_shut σ0, fun _ => ⟨k_has a1 σ0, fun _ => ⟨kthr1 σ0, fun _ _ => trivial⟩, fun h => absurd (has0 a1) h⟩, fun _ => trivial⟩, ?_, ⟨k_begin τ0, ?_⟩, ?_⟩
  · show (if f_CL_isShut σ0 = 0 then (if f_Te_has a1 σ0 = 0 then xb (f_CL_throwMissing σ0) _ else _) else _) = _
    rw [if_pos shut0, if_pos (has0 a1)]; rfl
  · rw [bg0]
    exact ⟨fun _ => ⟨k_isTerm a1 (bg τ0), fun _ => ⟨(fs_1_17185 _).1, trivial⟩, fun h => absurd (isT0 a1) h⟩, fun _ => trivial⟩
  · show f_Mo_replace_4 a1 a2 (f_Mo_begin τ0).1 (f_Mo_begin τ0).2 = _
    rw [bg0]
    show (if (0 : Int32) = 0 then (if f_Mo_isTerm a1 (bg τ0) = 0 then ((f_Mo_fails 1 17185 (bg τ0)).1, (f_Mo_fails 1 17185 (bg τ0)).2) else _) else _) = _
    rw [if_pos rfl, if_pos (isT0 a1), (fs_1_17185 _).2]
theorem s1_replace : S_replace I1 := by
  intro n σ B τ a1 a2 hI
  obtain ⟨rfl, rfl, hJ⟩ := hI.use
  obtain ⟨h1, h2, h3, h4⟩ := p1_replace a1 a2
  refine ⟨h1, fun E hE => ?_, h3, ?_, hJ _ _⟩
  · rw [h2] at hE; cases hE; decide
  · rw [h2, h4]; exact ⟨fun x hx => (by cases hx), fun E hE => by cases hE; exact ⟨rfl, by decide⟩⟩
theorem p1_instance (a1 : Int32) (a2 : Int32) : k_CL_instance a1 a2 σ0 ∧ f_CL_instance a1 a2 σ0 = (.inr 1, un σ0) ∧ k_Mo_instance a1 a2 τ0 ∧ f_Mo_instance a1 a2 τ0 = (0, fl 1 (bg τ0)) := by
  refine ⟨⟨k_shut σ0, fun _ => ⟨k_has a1 σ0, fun _ => ⟨kthr1 σ0, fun _ _ => trivial⟩, fun h => absurd (has0 a1) h⟩, fun _ => trivial⟩, ?_, ⟨k_begin τ0, ?_⟩, ?_⟩
  · show (if f_CL_isShut σ0 = 0 then (if f_Te_has a1 σ0 = 0 then xb (f_CL_throwMissing σ0) _ else _) else _) = _
    rw [if_pos shut0, if_pos (has0 a1)]; rfl
  · rw [bg0]
    exact ⟨fun _ => ⟨k_isTerm a1 (bg τ0), fun _ => ⟨(fs_1_17185 _).1, trivial⟩, fun h => absurd (isT0 a1) h⟩, fun _ => trivial⟩
  · show f_Mo_instance_4 a1 a2 (f_Mo_begin τ0).1 (f_Mo_begin τ0).2 = _
    rw [bg0]
    show (if (0 : Int32) = 0 then (if f_Mo_isTerm a1 (bg τ0) = 0 then ((f_Mo_fails 1 17185 (bg τ0)).1, (f_Mo_fails 1 17185 (bg τ0)).2) else _) else _) = _
    rw [if_pos rfl, if_pos (isT0 a1), (fs_1_17185 _).2]
theorem s1_instance : S_instance I1 := by
  intro n σ B τ a1 a2 hI
  obtain ⟨rfl, rfl, hJ⟩ := hI.use
  obtain ⟨h1, h2, h3, h4⟩ := p1_instance a1 a2
  refine ⟨h1, fun E hE => ?_, h3, ?_, hJ _ _⟩
  · rw [h2] at hE; cases hE; decide
  · rw [h2, h4]; exact ⟨fun x hx => (by cases hx), fun E hE => by cases hE; exact ⟨rfl, by decide⟩⟩
theorem p1_linear (a1 : Int32) (a2 : Int32) (a3 : Int32) (a4 : Int32) (a5 : Int32) (a6 : Int32) : k_CL_linear a1 a2 a3 a4 a5 a6 σ0 ∧ f_CL_linear a1 a2 a3 a4 a5 a6 σ0 = (.inr 1, un σ0) ∧ k_Mo_linear a1 a2 a3 a4 a5 a6 τ0 ∧ f_Mo_linear a1 a2 a3 a4 a5 a6 τ0 = (0, fl 1 (bg τ0)) := by
  refine ⟨⟨k_shut σ0, fun _ => ⟨k_has a1 σ0, fun _ => ⟨kthr1 σ0, fun _ _ => trivial⟩, fun h => absurd (has0 a1) h⟩, fun _ => trivial⟩, ?_, ⟨k_begin τ0, ?_⟩, ?_⟩
  · show (if f_CL_isShut σ0 = 0 then (if f_Te_has a1 σ0 = 0 then xb (f_CL_throwMissing σ0) _ else _) else _) = _
    rw [if_pos shut0, if_pos (has0 a1)]; rfl
  · rw [bg0]
    exact ⟨fun _ => ⟨k_isTerm a1 (bg τ0), fun _ => ⟨(fs_1_17185 _).1, trivial⟩, fun h => absurd (isT0 a1) h⟩, fun _ => trivial⟩
  · show f_Mo_linear_4 a1 a2 a3 a4 a5 a6 (f_Mo_begin τ0).1 (f_Mo_begin τ0).2 = _
    rw [bg0]
    show (if (0 : Int32) = 0 then (if f_Mo_isTerm a1 (bg τ0) = 0 then ((f_Mo_fails 1 17185 (bg τ0)).1, (f_Mo_fails 1 17185 (bg τ0)).2) else _) else _) = _
    rw [if_pos rfl, if_pos (isT0 a1), (fs_1_17185 _).2]
theorem s1_sort : S_sort I1 := by
  intro n σ B τ hI
  obtain ⟨rfl, rfl, hJ⟩ := hI.use
  exact ⟨⟨⟨fun _ => trivial, fun _ => trivial⟩, trivial⟩, ⟨fun _ => trivial, fun _ => trivial⟩, by decide +kernel, hJ _ _⟩
theorem s1_symbol : S_symbol I1 := by
  intro n σ B τ a1 a2 a3 hI
  obtain ⟨rfl, rfl, hJ⟩ := hI.use
  obtain ⟨h1, h2, h3⟩ := sy_C (σ := σ0) (ns := 2) (ny := 0) (by decide +kernel) (by omega) (by decide +kernel) (by omega) a1 a2 a3
  obtain ⟨g1, g2, g3⟩ := sy_M (τ := τ0) (ns := 2) (ny := 0) (by decide +kernel) (by omega) (by decide +kernel) (by omega) a1 a2 a3
  refine ⟨h1, g1, ?_, hJ _ _⟩
  by_cases h : syP 2 0 a1 a2 a3
  · rw [h2 h, g2 h]
  · rw [h3 h, g3 h]
theorem s1_variable : S_variable I1 := by
  intro n σ B τ a1 a2 hI
  obtain ⟨rfl, rfl, hJ⟩ := hI.use
  have hs := isSort_0 (σ := σ0) (ns := 2) (by decide +kernel) (by omega) a2
  have kv : k_Sg_isVariable a1 σ0 := ⟨fun _ => ⟨rfl, trivial⟩, fun _ => ⟨fun _ => ⟨rfl, trivial⟩, fun _ => ⟨rfl, trivial⟩⟩⟩
  have r1 : (a1 < 0) ↔ a1.toInt < 0 := by rw [Int32.lt_iff_toInt_lt, Int32.toInt_zero]
  have r2 : ((3 : Int32) ≤ a1) ↔ 3 ≤ a1.toInt := by rw [Int32.le_iff_toInt_le]; rfl
  have r3 : ((2 : Int32) < a1) ↔ 2 < a1.toInt := by rw [Int32.lt_iff_toInt_lt]; rfl
  have r4 : (a2 < 0) ↔ a2.toInt < 0 := by rw [Int32.lt_iff_toInt_lt, Int32.toInt_zero]
  have r5 : (τ0.1 0 2 ≤ a2) ↔ 2 ≤ a2.toInt := by rw [Int32.le_iff_toInt_le]; rfl
  have vv : f_Sg_isVariable a1 σ0 = 0 ↔ ¬ (0 ≤ a1.toInt ∧ a1.toInt ≤ 2) := by
    show (if a1 < 0 then (0 : Int32) else (if (3 : Int32) ≤ a1 then 0 else 1)) = 0 ↔ _
    by_cases c1 : a1 < 0
    · rw [if_pos c1]; rw [r1] at c1; exact ⟨fun _ => by omega, fun _ => rfl⟩
    · rw [if_neg c1]; rw [r1] at c1
      by_cases c2 : (3 : Int32) ≤ a1
      · rw [if_pos c2]; rw [r2] at c2; exact ⟨fun _ => by omega, fun _ => rfl⟩
      · rw [if_neg c2]; rw [r2] at c2; exact ⟨fun h => absurd h (by decide), fun h => absurd ⟨by omega, by omega⟩ h⟩
  have kset : k_Sg_setVariable a1 a2 σ0 := ⟨kv, fun _ => trivial, fun h => ⟨k_isSort a2 σ0, fun _ => trivial, fun _ => ⟨by rw [vv] at h; rw [in_iff]; have := Classical.not_not.mp h; omega, trivial⟩⟩⟩
  have kM : k_Mo_variable a1 a2 τ0 := ⟨fun _ => trivial, fun h1 => ⟨fun _ => trivial, fun h2 => ⟨fun _ => trivial, fun _ => ⟨fun _ => trivial, fun _ => ⟨fun _ => ⟨by rw [r1] at h1; rw [r3] at h2; rw [in_iff]; omega, trivial⟩, fun _ => trivial⟩⟩⟩⟩⟩
  have eC : (f_CL_variable a1 a2 σ0).1 = if f_Sg_isVariable a1 σ0 = 0 then 0 else (if f_Sg_isSort a2 σ0 = 0 then 0 else 1) := by
    have e1 : f_CL_variable a1 a2 σ0 = f_CL_variable_19 (f_Sg_setVariable a1 a2 σ0).1 (f_Sg_setVariable a1 a2 σ0).2 := rfl
    have e2 : f_Sg_setVariable a1 a2 σ0 = if f_Sg_isVariable a1 σ0 = 0 then (0, σ0) else (if f_Sg_isSort a2 σ0 = 0 then (0, σ0) else (1, sA σ0 5 a1 a2)) := rfl
    rw [e1, e2]
    by_cases c1 : f_Sg_isVariable a1 σ0 = 0
    · rw [if_pos c1, if_pos c1]; rfl
    · rw [if_neg c1, if_neg c1]
      by_cases c2 : f_Sg_isSort a2 σ0 = 0
      · rw [if_pos c2, if_pos c2]; rfl
      · rw [if_neg c2, if_neg c2]; rfl
  refine ⟨⟨trivial, fun _ => ⟨kset, fun _ => ⟨rfl, trivial⟩, fun _ => ⟨rfl, trivial⟩⟩, fun _ => ⟨rfl, trivial⟩⟩, kM, ?_, hJ _ _⟩
  rw [eC]
  show _ = (if a1 < 0 then ((0 : Int32), sF τ0 0 0 0) else (if (2 : Int32) < a1 then (0, sF τ0 0 0 0) else (if a2 < 0 then (0, sF τ0 0 0 0) else (if τ0.1 0 2 ≤ a2 then (0, sF τ0 0 0 0) else (1, sA (sF τ0 0 0 0) 4 a1 a2))))).1
  by_cases c1 : f_Sg_isVariable a1 σ0 = 0
  · rw [if_pos c1]; rw [vv] at c1
    by_cases d1 : a1 < 0
    · rw [if_pos d1]
    · rw [if_neg d1, if_pos (by rw [r3]; rw [r1] at d1; omega)]
  · rw [if_neg c1]; rw [vv] at c1
    have c1 := Classical.not_not.mp c1
    rw [if_neg (show ¬ a1 < 0 by rw [r1]; omega), if_neg (show ¬ (2 : Int32) < a1 by rw [r3]; omega)]
    by_cases c2 : f_Sg_isSort a2 σ0 = 0
    · rw [if_pos c2]; rw [hs] at c2
      by_cases d1 : a2 < 0
      · rw [if_pos d1]
      · rw [if_neg d1, if_pos (by rw [r5]; rw [r4] at d1; omega)]
    · rw [if_neg c2]; rw [hs] at c2
      have c2 := Classical.not_not.mp c2
      rw [if_neg (show ¬ a2 < 0 by rw [r4]; omega), if_neg (show ¬ τ0.1 0 2 ≤ a2 by rw [r5]; omega)]
theorem s1_draft : S_draft I1 := by
  intro n σ B τ a1 hI
  obtain ⟨rfl, rfl, hJ⟩ := hI.use
  obtain ⟨h1, h2, h3⟩ := dr_draft a1 (σ := σ0) (τ := τ0) ⟨0, by omega, by decide +kernel, by decide +kernel, fun j hj => absurd hj (Nat.not_lt_zero j)⟩
  exact ⟨h1, h2, h3.1, hJ _ _⟩
theorem s1_clause : S_clause I1 := by
  intro n σ B τ a1 a2 hI
  obtain ⟨rfl, rfl, hJ⟩ := hI.use
  have sz : f_St_sizeOf a1 σ0 = -1 := by
    show (if f_St_has a1 σ0 = 0 then (-1 : Int32) else _) = _
    rw [if_pos (step0 a1)]
  have ksz : k_St_sizeOf a1 σ0 := ⟨k_sthas a1 σ0, fun _ => trivial, fun h => absurd (step0 a1) h⟩
  have big : ¬ a2 < 0 → f_St_sizeOf a1 σ0 ≤ a2 := fun h => by
    rw [sz, Int32.le_iff_toInt_le]; rw [Int32.lt_iff_toInt_lt, Int32.toInt_zero] at h
    show (-1 : Int) ≤ _; omega
  have tr : f_St_truthOf a1 a2 σ0 = -1 := by
    show (if a2 < 0 then (-1 : Int32) else (if f_St_sizeOf a1 σ0 ≤ a2 then (-1 : Int32) else _)) = _
    by_cases h : a2 < 0
    · rw [if_pos h]
    · rw [if_neg h, if_pos (big h)]
  have ktr : k_St_truthOf a1 a2 σ0 := ⟨fun _ => trivial, fun h => ⟨ksz, fun _ => trivial, fun h2 => absurd (big h) h2⟩⟩
  refine ⟨⟨fun _ => ⟨ksz, trivial⟩, fun _ => ⟨ktr, trivial⟩⟩, ⟨fun _ => trivial, fun h => ⟨fun _ => trivial, fun h2 => absurd (Int32.not_lt.mp h) h2⟩⟩, ?_, hJ _ _⟩
  have e1 : f_CL_clause a1 a2 σ0 = -1 := by
    show (if a2 = -1 then f_St_sizeOf a1 σ0 else f_St_truthOf a1 a2 σ0) = _
    rw [sz, tr, ite_self]
  rw [e1]
  show _ = (if a1 < 0 then ((-1 : Int32), sF τ0 0 0 0) else (if (0 : Int32) ≤ a1 then ((-1 : Int32), sF τ0 0 0 0) else _)).1
  by_cases h : a1 < 0
  · rw [if_pos h]
  · rw [if_neg h, if_pos (Int32.not_lt.mp h)]
theorem s1_scope : S_scope I1 := by
  intro n σ B τ a1 hI
  obtain ⟨rfl, rfl, hJ⟩ := hI.use
  refine ⟨⟨k_sthas a1 σ0, fun _ => trivial, fun h => absurd (step0 a1) h⟩, ⟨fun _ => trivial, fun h => ⟨fun h2 => absurd h2 h, fun _ => trivial⟩⟩, ?_, hJ _ _⟩
  have e1 : f_CL_scope a1 σ0 = -1 := by
    show (if f_St_has a1 σ0 = 0 then (-1 : Int32) else _) = _
    rw [if_pos (step0 a1)]
  rw [e1]
  show _ = (if a1 < 0 then ((-1 : Int32), sF τ0 0 0 0) else (if a1 < (0 : Int32) then _ else ((-1 : Int32), sF τ0 0 0 0))).1
  by_cases h : a1 < 0
  · rw [if_pos h]
  · rw [if_neg h, if_neg h]
theorem s1_look : S_look I1 := by
  intro n σ B τ a1 a2 hI
  obtain ⟨rfl, rfl, hJ⟩ := hI.use
  have kl : k_CL_look a1 a2 σ0 := by
    refine ⟨fun _ => ?_, fun _ => ⟨k_has a1 σ0, fun _ => trivial, fun h => absurd (has0 a1) h⟩⟩
    refine ⟨?_, ?_⟩
    · exact ⟨fun _ => ⟨trivial, trivial⟩, fun _ => ⟨fun _ => ⟨trivial, trivial⟩, fun _ => ⟨fun _ => trivial, fun _ => trivial⟩⟩⟩
    · trivial
  refine ⟨kl, ⟨fun _ => ⟨fun _ => trivial, fun _ => ⟨fun _ => trivial, fun _ => ⟨fun _ => trivial, fun _ => trivial⟩⟩⟩, fun _ => ⟨fun _ => trivial, fun h => ⟨fun h2 => absurd h2 h, fun _ => trivial⟩⟩⟩, ?_, hJ _ _⟩
  show (if a1 = -1 then (if a2 = 0 then (0 : Int32) else (if a2 = 1 then 0 else (if a2 = 2 then 0 else -2))) else (if f_Te_has a1 σ0 = 0 then (-2 : Int32) else _)) = (if a1 = -1 then (if a2 = 0 then ((0 : Int32), sF τ0 0 0 0) else (if a2 = 1 then (0, sF τ0 0 0 0) else (if a2 = 2 then (0, sF τ0 0 0 0) else (-2, sF τ0 0 0 0)))) else (if a1 < 0 then ((-2 : Int32), sF τ0 0 0 0) else (if a1 < (0 : Int32) then _ else (-2, sF τ0 0 0 0)))).1
  by_cases h1 : a1 = -1
  · rw [if_pos h1, if_pos h1]
    by_cases h2 : a2 = 0
    · rw [if_pos h2, if_pos h2]
    · rw [if_neg h2, if_neg h2]
      by_cases h3 : a2 = 1
      · rw [if_pos h3, if_pos h3]
      · rw [if_neg h3, if_neg h3]
        by_cases h4 : a2 = 2
        · rw [if_pos h4, if_pos h4]
        · rw [if_neg h4, if_neg h4]
  · rw [if_neg h1, if_neg h1, if_pos (has0 a1)]
    by_cases h2 : a1 < 0
    · rw [if_pos h2]
    · rw [if_neg h2, if_neg h2]
theorem s1_text : S_text I1 := by
  intro n σ B τ a1 a2 hI
  obtain ⟨rfl, rfl, hJ⟩ := hI.use
  refine ⟨⟨k_has a1 σ0, fun _ => trivial, fun h => absurd (has0 a1) h⟩, ⟨fun _ => trivial, fun h => ⟨fun _ => trivial, fun h2 => absurd (Int32.not_lt.mp h) h2⟩⟩, ?_, hJ _ _⟩
  show (if f_Te_has a1 σ0 = 0 then (-2 : Int32) else _) = (if a1 < 0 then ((-2 : Int32), sF τ0 0 0 0) else (if (0 : Int32) ≤ a1 then ((-2 : Int32), sF τ0 0 0 0) else _)).1
  rw [if_pos (has0 a1)]
  by_cases h : a1 < 0
  · rw [if_pos h]
  · rw [if_neg h, if_pos (Int32.not_lt.mp h)]
theorem s1_empty : S_empty I1 := by
  intro n σ B τ hI
  obtain ⟨rfl, rfl, hJ⟩ := hI.use
  refine ⟨?_, ?_, by decide +kernel, hJ _ _⟩
  · repeat' (first | exact trivial | exact ⟨rfl, trivial⟩ | (intro h; exact absurd h (by decide +kernel)) | intro _ | (rw [in_iff]; decide +kernel) | refine ⟨?_, ?_⟩ | rfl)
  · repeat' (first | exact trivial | exact ⟨rfl, trivial⟩ | (intro h; exact absurd h (by decide +kernel)) | intro _ | (rw [in_iff]; decide +kernel) | refine ⟨?_, ?_⟩ | rfl)
theorem s1_open : S_open I1 := by
  intro n σ B τ hI
  obtain ⟨rfl, rfl, hJ⟩ := hI.use
  have e1 : (f_CL_open σ0).1 = .inl 1 := by decide +kernel
  refine ⟨?_, fun E hE => ?_, ?_, ⟨fun x hx => ?_, fun E hE => ?_⟩, hJ _ _⟩
  · repeat' (first | exact trivial | exact ⟨rfl, trivial⟩ | (intro h; exact absurd h (by decide +kernel)) | intro _ | (rw [in_iff]; decide +kernel) | refine ⟨?_, ?_⟩ | rfl)
  · rw [e1] at hE; cases hE
  · repeat' (first | exact trivial | exact ⟨rfl, trivial⟩ | (intro h; exact absurd h (by decide +kernel)) | intro _ | (rw [in_iff]; decide +kernel) | refine ⟨?_, ?_⟩ | rfl)
  · rw [e1] at hx; cases hx; exact ⟨by decide +kernel, by decide +kernel⟩
  · rw [e1] at hE; cases hE
theorem s1_close : S_close I1 := by
  intro n σ B τ hI
  obtain ⟨rfl, rfl, hJ⟩ := hI.use
  have e1 : (f_CL_close σ0).1 = .inr 2 := by decide +kernel
  refine ⟨?_, fun E hE => ?_, ?_, ⟨fun x hx => ?_, fun E hE => ?_⟩, hJ _ _⟩
  · repeat' (first | exact trivial | exact ⟨rfl, trivial⟩ | (intro h; exact absurd h (by decide +kernel)) | intro _ | (rw [in_iff]; decide +kernel) | refine ⟨?_, ?_⟩ | rfl)
  · rw [e1] at hE; cases hE; decide
  · repeat' (first | exact trivial | exact ⟨rfl, trivial⟩ | (intro h; exact absurd h (by decide +kernel)) | intro _ | (rw [in_iff]; decide +kernel) | refine ⟨?_, ?_⟩ | rfl)
  · rw [e1] at hx; cases hx
  · rw [e1] at hE; cases hE; exact ⟨by decide +kernel, by decide⟩
theorem s1_term : S_term I1 := by
  intro n σ B τ hI
  obtain ⟨rfl, rfl, hJ⟩ := hI.use
  have e1 : (f_CL_term σ0).1 = .inr 2 := by decide +kernel
  refine ⟨?_, fun E hE => ?_, ?_, ⟨fun x hx => ?_, fun E hE => ?_⟩, hJ _ _⟩
  · repeat' (first | exact trivial | exact ⟨rfl, trivial⟩ | (intro h; exact absurd h (by decide +kernel)) | intro _ | (rw [in_iff]; decide +kernel) | refine ⟨?_, ?_⟩ | rfl)
  · rw [e1] at hE; cases hE; decide
  · repeat' (first | exact trivial | exact ⟨rfl, trivial⟩ | (intro h; exact absurd h (by decide +kernel)) | intro _ | (rw [in_iff]; decide +kernel) | refine ⟨?_, ?_⟩ | rfl)
  · rw [e1] at hx; cases hx
  · rw [e1] at hE; cases hE; exact ⟨by decide +kernel, by decide⟩
theorem s1_default : S_default I1 := fun n σ B τ hI => hI.use.2.2 _ _
