-- what the class reads off a sum, and the two sides together
section SUR
variable {cap m : Nat} {s : St}
theorem su_has (hO : SO cap m s) : ∀ (d i fuel : Nat), i + d = m → d < fuel → k_Su_hasAtoms_2 fuel (nI i) s ∧ (f_Su_hasAtoms_2 fuel (nI i) s = 0 ↔ ∀ j, i ≤ j → j < m → s.1 1 j = -1 ∨ (s.2 2 j).toInt = 0) := by
  obtain ⟨h3, hm, hc, h99⟩ := hO
  intro d
  induction d with
  | zero =>
    intro i fuel hi hf
    obtain ⟨fuel, rfl⟩ : ∃ k, fuel = k + 1 := ⟨fuel - 1, by omega⟩
    have pl : s.1 0 3 ≤ nI i := by rw [h3]; exact (nI_le_iff (by omega) (by omega)).mpr (by omega)
    refine ⟨⟨fun _ => trivial, fun z => absurd pl z⟩, ?_⟩
    rw [f_Su_hasAtoms_2, if_pos pl]
    exact ⟨fun _ j h1 h2 => by omega, fun _ => rfl⟩
  | succ d ih =>
    intro i fuel hi hf
    obtain ⟨fuel, rfl⟩ : ∃ k, fuel = k + 1 := ⟨fuel - 1, by omega⟩
    have pl : ¬ s.1 0 3 ≤ nI i := fun z => by
      rw [h3] at z
      have := (nI_le_iff (by omega) (by omega)).mp z
      omega
    have hcl : (nI i).toNatClampNeg = i := nI_clamp (by omega)
    have hin : vp_in (nI i) (s.1 99 0).toNatClampNeg := by rw [h99, nI_clamp (by omega), in_iff, i_nI (by omega)]; omega
    obtain ⟨k0, e0⟩ := ih (i + 1) fuel (by omega) (by omega)
    rw [nI_succ] at k0 e0
    have spl : (∀ j, i ≤ j → j < m → s.1 1 j = -1 ∨ (s.2 2 j).toInt = 0) ↔ (s.1 1 i = -1 ∨ (s.2 2 i).toInt = 0) ∧ ∀ j, i + 1 ≤ j → j < m → s.1 1 j = -1 ∨ (s.2 2 j).toInt = 0 :=
      ⟨fun h => ⟨h i (Nat.le_refl i) (by omega), fun j h1 h2 => h j (by omega) h2⟩, fun h j h1 h2 => by
        by_cases z : j = i
        · rw [z]; exact h.1
        · exact h.2 j (by omega) h2⟩
    have n1 : ¬ (1 : Int32) = 0 := by decide
    by_cases z : s.1 1 (nI i).toNatClampNeg = -1
    · refine ⟨⟨fun w => absurd w pl, fun _ => ⟨hin, fun _ => k0, fun w => absurd z w⟩⟩, ?_⟩
      rw [f_Su_hasAtoms_2, if_neg pl, if_pos z, f_Su_hasAtoms_33, e0, spl]
      rw [hcl] at z
      exact ⟨fun h => ⟨Or.inl z, h⟩, fun h => h.2⟩
    · by_cases z2 : lg_cmp (s.2 2 (nI i).toNatClampNeg) 0 = 0
      · refine ⟨⟨fun w => absurd w pl, fun _ => ⟨hin, fun w => absurd w z, fun _ => ⟨hin, fun _ => k0, fun w => absurd z2 w⟩⟩⟩, ?_⟩
        rw [f_Su_hasAtoms_2, if_neg pl, if_neg z, if_pos z2, f_Su_hasAtoms_33, e0, spl]
        rw [l_z0, hcl] at z2
        exact ⟨fun h => ⟨Or.inr z2, h⟩, fun h => h.2⟩
      · refine ⟨⟨fun w => absurd w pl, fun _ => ⟨hin, fun w => absurd w z, fun _ => ⟨hin, fun w => absurd w z2, fun _ => trivial⟩⟩⟩, ?_⟩
        rw [f_Su_hasAtoms_2, if_neg pl, if_neg z, if_neg z2, spl]
        rw [hcl] at z
        rw [l_z0, hcl] at z2
        refine ⟨fun h => absurd h n1, fun h => ?_⟩
        rcases h.1 with w | w
        · exact absurd w z
        · exact absurd w z2
theorem su_sgn (hO : SO cap m s) : ∀ (d i fuel : Nat), i + d = m → d < fuel → (∀ j, j < i → ¬ s.1 1 j = -1) → k_Su_signOfConstants_2 fuel (nI i) s ∧ ((∃ j, j < m ∧ s.1 1 j = -1 ∧ f_Su_signOfConstants_2 fuel (nI i) s = f_JL_compares (s.2 2 j) 0 s) ∨ ((∀ j, j < m → ¬ s.1 1 j = -1) ∧ f_Su_signOfConstants_2 fuel (nI i) s = 0)) := by
  obtain ⟨h3, hm, hc, h99⟩ := hO
  intro d
  induction d with
  | zero =>
    intro i fuel hi hf hno
    obtain ⟨fuel, rfl⟩ : ∃ k, fuel = k + 1 := ⟨fuel - 1, by omega⟩
    have pl : s.1 0 3 ≤ nI i := by rw [h3]; exact (nI_le_iff (by omega) (by omega)).mpr (by omega)
    refine ⟨⟨fun _ => trivial, fun z => absurd pl z⟩, Or.inr ⟨fun j hj => hno j (by omega), ?_⟩⟩
    rw [f_Su_signOfConstants_2, if_pos pl]
  | succ d ih =>
    intro i fuel hi hf hno
    obtain ⟨fuel, rfl⟩ : ∃ k, fuel = k + 1 := ⟨fuel - 1, by omega⟩
    have pl : ¬ s.1 0 3 ≤ nI i := fun z => by
      rw [h3] at z
      have := (nI_le_iff (by omega) (by omega)).mp z
      omega
    have hcl : (nI i).toNatClampNeg = i := nI_clamp (by omega)
    have hin : vp_in (nI i) (s.1 99 0).toNatClampNeg := by rw [h99, nI_clamp (by omega), in_iff, i_nI (by omega)]; omega
    by_cases z : s.1 1 (nI i).toNatClampNeg = -1
    · refine ⟨⟨fun w => absurd w pl, fun _ => ⟨hin, fun _ => ⟨hin, ⟨fun _ => ⟨fun _ => trivial, fun _ => trivial⟩, fun _ => trivial⟩, trivial⟩, fun w => absurd z w⟩⟩, Or.inl ⟨i, by omega, by rw [hcl] at z; exact z, ?_⟩⟩
      rw [f_Su_signOfConstants_2, if_neg pl, if_pos z, hcl]
    · obtain ⟨k0, e0⟩ := ih (i + 1) fuel (by omega) (by omega) (fun j hj => by
        by_cases w : j = i
        · rw [w]; rw [hcl] at z; exact z
        · exact hno j (by omega))
      rw [nI_succ] at k0 e0
      refine ⟨⟨fun w => absurd w pl, fun _ => ⟨hin, fun w => absurd w z, fun _ => k0⟩⟩, ?_⟩
      rw [f_Su_signOfConstants_2, if_neg pl, if_neg z]; exact e0
end SUR
theorem cmp_sg (a : Int64) (σ : St) : (f_JL_compares a 0 σ < 0 ↔ a.toInt < 0) ∧ (f_JL_compares a 0 σ = 0 ↔ a.toInt = 0) := by
  have z0 : (0 : Int64).toInt = 0 := by decide
  have c1 : (0 ≤ lg_cmp a 0) ↔ 0 ≤ a.toInt := by rw [lg_cmp_ge, Int64.le_iff_toInt_le, z0]
  show ((if 0 ≤ lg_cmp a 0 then (if lg_cmp a 0 = 0 then (0 : Int32) else 1) else -1) < 0 ↔ _) ∧ ((if 0 ≤ lg_cmp a 0 then (if lg_cmp a 0 = 0 then (0 : Int32) else 1) else -1) = 0 ↔ _)
  have d1 : ¬ (0 : Int32) < 0 := by decide
  have d2 : ¬ (1 : Int32) < 0 := by decide
  have d3 : (-1 : Int32) < 0 := by decide
  have d4 : ¬ (1 : Int32) = 0 := by decide
  have d5 : ¬ (-1 : Int32) = 0 := by decide
  by_cases h1 : 0 ≤ lg_cmp a 0
  · have q := c1.mp h1
    rw [if_pos h1]
    by_cases h2 : lg_cmp a 0 = 0
    · have q2 := (l_z0 a).mp h2
      rw [if_pos h2]
      exact ⟨⟨fun z => absurd z d1, fun z => by omega⟩, ⟨fun _ => q2, fun _ => rfl⟩⟩
    · have q2 : ¬ a.toInt = 0 := fun z => h2 ((l_z0 a).mpr z)
      rw [if_neg h2]
      exact ⟨⟨fun z => absurd z d2, fun z => by omega⟩, ⟨fun z => absurd z d4, fun z => absurd z q2⟩⟩
  · have q : ¬ 0 ≤ a.toInt := fun z => h1 (c1.mpr z)
    rw [if_neg h1]
    exact ⟨⟨fun _ => by omega, fun _ => d3⟩, ⟨fun z => absurd z d5, fun z => by omega⟩⟩
theorem sum_rd {m : Nat} {tt : St} (hS : SumOK DX 101 m tt) : k_Su_isTooGreats tt ∧ (tt.1 0 4 = 0 → k_Su_signOfConstants tt ∧ k_Su_hasAtoms tt ∧ (f_Su_hasAtoms tt = 0 ↔ ∀ x, DX x → ¬ x = -1 → (lk tt m x).1 = 0) ∧ (f_Su_signOfConstants tt < 0 ↔ (lk tt m (-1)).1 < 0) ∧ (f_Su_signOfConstants tt = 0 ↔ (lk tt m (-1)).1 = 0)) := by
  obtain ⟨hO, hD, h01, hE⟩ := hS
  have hm : m ≤ 101 := hO.2.1
  refine ⟨⟨?_, trivial⟩, fun h4 => ?_⟩
  · rcases h01 with z | z
    · rw [z]; rfl
    · rw [z]; rfl
  · obtain ⟨e1, e2⟩ := hE h4
    obtain ⟨k1, q1⟩ := su_has hO m 0 1000 (by omega) (by omega)
    obtain ⟨k2, q2⟩ := su_sgn hO m 0 1000 (by omega) (by omega) (fun j hj => absurd hj (Nat.not_lt_zero j))
    rw [nI_0] at k1 q1 k2 q2
    refine ⟨k2, k1, ?_, ?_⟩
    · show f_Su_hasAtoms_2 1000 0 tt = 0 ↔ _
      rw [q1]
      refine ⟨fun h x hx hne => ?_, fun h j _ hj => ?_⟩
      · by_cases z : ∃ i, i < m ∧ tt.1 1 i = x
        · obtain ⟨i, i1, i2⟩ := z
          rw [lk_at m e1 i1 i2]
          rcases h i (Nat.zero_le i) i1 with w | w
          · exact absurd (i2.symm.trans w) hne
          · exact w
        · rw [lk_no m (fun i hi w => z ⟨i, hi, w⟩)]
      · by_cases z : tt.1 1 j = -1
        · exact Or.inl z
        · have := h (tt.1 1 j) (hD j hj) z
          rw [lk_at m e1 hj rfl] at this
          exact Or.inr this
    · rcases q2 with ⟨j, j1, j2, j3⟩ | ⟨j1, j2⟩
      · have := cmp_sg (tt.2 2 j) tt
        rw [lk_at m e1 j1 j2]
        show (f_Su_signOfConstants_2 1000 0 tt < 0 ↔ _) ∧ (f_Su_signOfConstants_2 1000 0 tt = 0 ↔ _)
        rw [j3]; exact this
      · rw [lk_no m j1]
        show (f_Su_signOfConstants_2 1000 0 tt < 0 ↔ _) ∧ (f_Su_signOfConstants_2 1000 0 tt = 0 ↔ _)
        rw [j2]; decide
section TIE
variable {n : Nat} {τ : St}
theorem ntc_no (hn : n ≤ 100) (hW : ∀ t, t < n → tmW τ t) (hK : ∀ t, t < n → kdW τ t) {a b : Nat} {f : Int} {c : Int32 → Option Fr} {x : Int32} (ha : a < n) (hb : b < n) (sa : τ.1 6 a = 1) (sb : τ.1 6 b = 1) (hx : DX x) (hx2 : ¬ RA n τ x) (hc : c x = some (0, 1)) : ntc τ a b f c x = some (0, 1) := by
  unfold ntc exc
  rw [hc, ev_no hn hW hK hx hx2 a ha sa, ev_no hn hW hK hx hx2 b hb sb]
  show (cTm (-1) 1 (0, 1) (0, 1)).bind (fun e => cTm f 1 (0, 1) e) = _
  rw [cTm0 (by omega) VF01]
  exact cTm0 (by omega) VF01
theorem tie {c3 : Int32 → Option Fr} {s : Int32} {Z tt : St} (hno : ∀ x, DX x → ¬ RA n τ x → c3 x = some (0, 1)) (hA : ATS n τ c3 DX s Z) (h1 : Z.1 0 45 = 0 → c3 (-1) = some ((Z.2 0 49).toInt, (Z.2 0 50).toInt)) (hP : PT c3 tt) :
    k_Su_isTooGreats tt ∧ (tt.1 0 4 = 0 → k_Su_signOfConstants tt ∧ k_Su_hasAtoms tt) ∧ (tt.1 0 4 = 0 ↔ Z.1 0 45 = 0) ∧ (Z.1 0 45 = 0 → (f_Su_hasAtoms tt = 0 ↔ s = 0) ∧ (f_Su_signOfConstants tt < 0 ↔ (Z.2 0 49).toInt < 0) ∧ (f_Su_signOfConstants tt = 0 ↔ (Z.2 0 49).toInt = 0)) := by
  obtain ⟨m, hS, hR⟩ := hP
  obtain ⟨q1, q2⟩ := sum_rd hS
  have iff : tt.1 0 4 = 0 ↔ Z.1 0 45 = 0 := by
    refine ⟨fun h => ?_, fun h => ?_⟩
    · rcases hA with ⟨-, x, x1, x2⟩ | ⟨g0, -⟩
      · rw [hR.1 h x x1] at x2; cases x2
      · exact g0
    · apply Classical.byContradiction
      intro z
      obtain ⟨x, x1, x2⟩ := hR.2 z
      rcases hA with ⟨g1, -⟩ | ⟨-, a1, -⟩
      · exact g1 h
      · by_cases r : RA n τ x
        · obtain ⟨f, f1, -⟩ := a1 x x1 r
          rw [f1] at x2; cases x2
        · rw [hno x x1 r] at x2; cases x2
  refine ⟨q1, fun h => ⟨(q2 h).1, (q2 h).2.1⟩, iff, fun h => ?_⟩
  have h4 := iff.mpr h
  obtain ⟨-, -, e1, e2, e3⟩ := q2 h4
  have el : lk tt m (-1) = ((Z.2 0 49).toInt, (Z.2 0 50).toInt) := Option.some.inj ((hR.1 h4 (-1) (Or.inl rfl)).symm.trans (h1 h))
  rw [el] at e2 e3
  refine ⟨?_, e2, e3⟩
  rw [e1]
  rcases hA with ⟨g1, -⟩ | ⟨-, a1, a2, a3⟩
  · exact absurd h g1
  · refine ⟨fun w => ?_, fun hs x hx hne => ?_⟩
    · apply Classical.byContradiction
      intro hs
      obtain ⟨x, f, x1, x2, x3, x4, x5⟩ := a3 hs
      have := w x x1 x3
      rw [hR.1 h4 x x1] at x4
      rw [Option.some.inj x4] at this
      exact x5 this
    · by_cases r : RA n τ x
      · exact a2 hs x _ hx r hne (hR.1 h4 x hx)
      · have := (hR.1 h4 x hx).symm.trans (hno x hx r)
        rw [Option.some.inj this]
end TIE
