-- too deep, and the step that a call enters
theorem td_all {τ : St} {n : Nat} (hn : n ≤ 400) (h : τ.1 0 8 = nI n) : ∀ (d i fuel : Nat) (x : Int32), i + d = n → d < fuel → (x = 0 ∨ x = 1) →
    k_Mo_tooDeep_7 fuel x (nI i) τ ∧ ((x = 1 ∨ ∃ t, i ≤ t ∧ t < n ∧ ¬ τ.1 7 t ≤ 12) → f_Mo_tooDeep_7 fuel x (nI i) τ = 1) ∧ (¬ (x = 1 ∨ ∃ t, i ≤ t ∧ t < n ∧ ¬ τ.1 7 t ≤ 12) → f_Mo_tooDeep_7 fuel x (nI i) τ = 0) := by
  intro d
  induction d with
  | zero =>
    intro i fuel x hi hf hx
    obtain ⟨fuel, rfl⟩ : ∃ k, fuel = k + 1 := ⟨fuel - 1, by omega⟩
    have h1 : τ.1 0 8 ≤ nI i := by rw [h, nI_le_iff (by omega) (by omega)]; omega
    have e : f_Mo_tooDeep_7 (fuel + 1) x (nI i) τ = x := by
      show (if τ.1 0 8 ≤ nI i then x else _) = _
      rw [if_pos h1]
    refine ⟨⟨fun _ => ⟨by rcases hx with rfl | rfl <;> rfl, trivial⟩, fun h => absurd h1 h⟩, fun h2 => ?_, fun h2 => ?_⟩
    · rw [e]
      rcases h2 with h2 | ⟨t, q1, q2, -⟩
      · exact h2
      · omega
    · rw [e]
      rcases hx with h3 | h3
      · exact h3
      · exact absurd (Or.inl h3) h2
  | succ d ih =>
    intro i fuel x hi hf hx
    obtain ⟨fuel, rfl⟩ : ∃ k, fuel = k + 1 := ⟨fuel - 1, by omega⟩
    have h1 : ¬ τ.1 0 8 ≤ nI i := fun h9 => by rw [h, nI_le_iff (by omega) (by omega)] at h9; omega
    have hcl : (nI i).toNatClampNeg = i := nI_clamp (by omega)
    have hin : vp_in (nI i) 400 := by rw [in_iff, i_nI (by omega)]; omega
    obtain ⟨a1, a2, -⟩ := ih (i + 1) fuel 1 (by omega) (by omega) (Or.inr rfl)
    obtain ⟨b1, b2, b3⟩ := ih (i + 1) fuel 0 (by omega) (by omega) (Or.inl rfl)
    have a2 := a2 (Or.inl rfl)
    rw [nI_succ] at a1 a2 b1 b2 b3
    have e : f_Mo_tooDeep_7 (fuel + 1) x (nI i) τ = if x = 0 then (if τ.1 7 i ≤ 12 then f_Mo_tooDeep_7 fuel 0 (nI i + 1) τ else 1) else 1 := by
      show (if τ.1 0 8 ≤ nI i then _ else (if x = 0 then (if τ.1 7 (nI i).toNatClampNeg ≤ 12 then f_Mo_tooDeep_7 fuel 0 (nI i + 1) τ else f_Mo_tooDeep_7 fuel 1 (nI i + 1) τ) else f_Mo_tooDeep_7 fuel 1 (nI i + 1) τ)) = _
      rw [if_neg h1, hcl, a2]
    refine ⟨⟨fun h => absurd h h1, fun _ => ⟨fun _ => ⟨hin, fun _ => b1, fun _ => a1⟩, fun _ => a1⟩⟩, ?_⟩
    rw [e]
    rcases hx with rfl | rfl
    · rw [if_pos rfl]
      by_cases h2 : τ.1 7 i ≤ 12
      · rw [if_pos h2]
        refine ⟨fun h3 => b2 ?_, fun h3 => b3 (fun h4 => h3 ?_)⟩
        · rcases h3 with h3 | ⟨t, q1, q2, q3⟩
          · exact absurd h3 (by decide)
          · by_cases e2 : t = i
            · rw [e2] at q3; exact absurd h2 q3
            · exact Or.inr ⟨t, by omega, q2, q3⟩
        · rcases h4 with h4 | ⟨t, q1, q2, q3⟩
          · exact Or.inl h4
          · exact Or.inr ⟨t, by omega, q2, q3⟩
      · rw [if_neg h2]
        exact ⟨fun _ => rfl, fun h3 => absurd (Or.inr ⟨i, Nat.le_refl i, by omega, h2⟩) h3⟩
    · rw [if_neg (by decide)]
      exact ⟨fun _ => rfl, fun h3 => absurd (Or.inl rfl) h3⟩
theorem td_eq {τ : St} {n n0 : Nat} (hn : n ≤ 400) (h0 : n0 ≤ n) (h : τ.1 0 8 = nI n) (hk : τ.1 0 9 = nI n0) : k_Mo_tooDeep τ ∧ ((∃ t, n0 ≤ t ∧ t < n ∧ ¬ τ.1 7 t ≤ 12) → f_Mo_tooDeep τ = 1) ∧ (¬ (∃ t, n0 ≤ t ∧ t < n ∧ ¬ τ.1 7 t ≤ 12) → f_Mo_tooDeep τ = 0) := by
  obtain ⟨g1, g2, g3⟩ := td_all hn h (n - n0) n0 1000 0 (by omega) (by omega) (Or.inl rfl)
  have e1 : f_Mo_tooDeep τ = f_Mo_tooDeep_7 1000 0 (nI n0) τ := by
    show f_Mo_tooDeep_7 1000 0 (τ.1 0 9) τ = _
    rw [hk]
  have k1 : k_Mo_tooDeep τ := by
    show k_Mo_tooDeep_7 1000 0 (τ.1 0 9) τ
    rw [hk]; exact g1
  rw [e1]
  refine ⟨k1, fun h3 => g2 (Or.inr h3), fun h3 => g3 ?_⟩
  rintro (h9 | h9)
  · exact absurd h9 (by decide)
  · exact h3 h9
