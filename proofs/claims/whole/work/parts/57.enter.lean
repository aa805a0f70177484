-- too deep, and the step that a call enters
theorem td_all {τ : St} {n : Nat} (hn : n ≤ 400) (h : τ.1 0 8 = nI n) : ∀ (d i fuel : Nat) (x : Int32), i + d = n → d < fuel → (x = 0 ∨ x = 1) →
    k_Mo_tooDeep_7 fuel x (nI i) τ ∧ f_Mo_tooDeep_7 fuel x (nI i) τ = (if x = 1 ∨ ∃ t, i ≤ t ∧ t < n ∧ ¬ τ.1 7 t ≤ 12 then 1 else 0) := by
  intro d
  induction d with
  | zero =>
    intro i fuel x hi hf hx
    obtain ⟨fuel, rfl⟩ : ∃ k, fuel = k + 1 := ⟨fuel - 1, by omega⟩
    have h1 : τ.1 0 8 ≤ nI i := by rw [h, nI_le_iff (by omega) (by omega)]; omega
    refine ⟨⟨fun _ => ⟨by rcases hx with rfl | rfl <;> rfl, trivial⟩, fun h => absurd h1 h⟩, ?_⟩
    show (if τ.1 0 8 ≤ nI i then x else _) = _
    rw [if_pos h1]
    rcases hx with rfl | rfl
    · rw [if_neg]
      rintro (h9 | ⟨t, h2, h3, -⟩)
      · exact absurd h9 (by decide)
      · omega
    · rw [if_pos (Or.inl rfl)]
  | succ d ih =>
    intro i fuel x hi hf hx
    obtain ⟨fuel, rfl⟩ : ∃ k, fuel = k + 1 := ⟨fuel - 1, by omega⟩
    have h1 : ¬ τ.1 0 8 ≤ nI i := fun h9 => by rw [h, nI_le_iff (by omega) (by omega)] at h9; omega
    have hcl : (nI i).toNatClampNeg = i := nI_clamp (by omega)
    have hin : vp_in (nI i) 400 := by rw [in_iff, i_nI (by omega)]; omega
    obtain ⟨a1, a2⟩ := ih (i + 1) fuel 1 (by omega) (by omega) (Or.inr rfl)
    obtain ⟨b1, b2⟩ := ih (i + 1) fuel 0 (by omega) (by omega) (Or.inl rfl)
    rw [nI_succ] at a1 a2 b1 b2
    rw [if_pos (Or.inl rfl)] at a2
    refine ⟨⟨fun h => absurd h h1, fun _ => ⟨fun _ => ⟨hin, fun _ => b1, fun _ => a1⟩, fun _ => a1⟩⟩, ?_⟩
    show (if τ.1 0 8 ≤ nI i then _ else (if x = 0 then (if τ.1 7 (nI i).toNatClampNeg ≤ 12 then f_Mo_tooDeep_7 fuel 0 (nI i + 1) τ else f_Mo_tooDeep_7 fuel 1 (nI i + 1) τ) else f_Mo_tooDeep_7 fuel 1 (nI i + 1) τ)) = _
    rw [if_neg h1, hcl, a2, b2]
    rcases hx with rfl | rfl
    · rw [if_pos rfl]
      by_cases h2 : τ.1 7 i ≤ 12
      · rw [if_pos h2]
        by_cases h3 : ∃ t, i + 1 ≤ t ∧ t < n ∧ ¬ τ.1 7 t ≤ 12
        · obtain ⟨t, q1, q2, q3⟩ := h3
          rw [if_pos (Or.inr ⟨t, q1, q2, q3⟩), if_pos (Or.inr ⟨t, by omega, q2, q3⟩)]
        · rw [if_neg, if_neg]
          · rintro (h9 | ⟨t, q1, q2, q3⟩)
            · exact absurd h9 (by decide)
            · by_cases e : t = i
              · rw [e] at q3; exact q3 h2
              · exact h3 ⟨t, by omega, q2, q3⟩
          · rintro (h9 | h9)
            · exact absurd h9 (by decide)
            · exact h3 h9
      · rw [if_neg h2, if_pos (Or.inr ⟨i, Nat.le_refl i, by omega, h2⟩)]
    · rw [if_neg (by decide), if_pos (Or.inl rfl)]
theorem td_eq {τ : St} {n n0 : Nat} (hn : n ≤ 400) (h0 : n0 ≤ n) (h : τ.1 0 8 = nI n) (hk : τ.1 0 9 = nI n0) : k_Mo_tooDeep τ ∧ f_Mo_tooDeep τ = (if ∃ t, n0 ≤ t ∧ t < n ∧ ¬ τ.1 7 t ≤ 12 then 1 else 0) := by
  obtain ⟨g1, g2⟩ := td_all hn h (n - n0) n0 1000 0 (by omega) (by omega) (Or.inl rfl)
  have e1 : f_Mo_tooDeep τ = f_Mo_tooDeep_7 1000 0 (nI n0) τ := by
    show f_Mo_tooDeep_7 1000 0 (τ.1 0 9) τ = _
    rw [hk]
  have k1 : k_Mo_tooDeep τ := by
    show k_Mo_tooDeep_7 1000 0 (τ.1 0 9) τ
    rw [hk]; exact g1
  refine ⟨k1, ?_⟩
  rw [e1, g2]
  by_cases h3 : ∃ t, n0 ≤ t ∧ t < n ∧ ¬ τ.1 7 t ≤ 12
  · rw [if_pos h3, if_pos (Or.inr h3)]
  · rw [if_neg h3, if_neg]
    rintro (h9 | h9)
    · exact absurd h9 (by decide)
    · exact h3 h9
