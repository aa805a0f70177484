-- the look for a term that is there: the class by its key, the reference by its parts
abbrev ky (k l a b : Int32) : Int64 := (((((a.toInt64 + 100000) * 262144) + (b.toInt64 + 100000)) * 256) + (((l + 1).toInt64) * 16)) + k.toInt64
theorem l_add {a b : Int64} (h : -9223372036854775808 ≤ a.toInt + b.toInt ∧ a.toInt + b.toInt ≤ 9223372036854775807) : (a + b).toInt = a.toInt + b.toInt := by
  rw [Int64.toInt_add, Int.bmod_def]; omega
theorem l_sub {a b : Int64} (h : -9223372036854775808 ≤ a.toInt - b.toInt ∧ a.toInt - b.toInt ≤ 9223372036854775807) : (a - b).toInt = a.toInt - b.toInt := by
  rw [Int64.toInt_sub, Int.bmod_def]; omega
theorem l_mul {a b : Int64} (h : -9223372036854775808 ≤ a.toInt * b.toInt ∧ a.toInt * b.toInt ≤ 9223372036854775807) : (a * b).toInt = a.toInt * b.toInt := by
  rw [Int64.toInt_mul, Int.bmod_def]; omega
theorem ky_toInt {k l a b : Int32} (hk : 0 ≤ k.toInt ∧ k.toInt ≤ 15) (hl : -1 ≤ l.toInt ∧ l.toInt ≤ 14) (ha : -100000 ≤ a.toInt ∧ a.toInt ≤ 100000) (hb : -100000 ≤ b.toInt ∧ b.toInt ≤ 100000) :
    (ky k l a b).toInt = ((a.toInt + 100000) * 262144 + (b.toInt + 100000)) * 256 + (l.toInt + 1) * 16 + k.toInt := by
  have e0 : (100000 : Int64).toInt = 100000 := by decide
  have e1 : (262144 : Int64).toInt = 262144 := by decide
  have e2 : (256 : Int64).toInt = 256 := by decide
  have e3 : (16 : Int64).toInt = 16 := by decide
  have e4 : (1 : Int32).toInt = 1 := by decide
  have a1 : (a.toInt64 + 100000).toInt = a.toInt + 100000 := by
    rw [l_add (by rw [Int32.toInt_toInt64, e0]; omega), Int32.toInt_toInt64, e0]
  have b1 : (b.toInt64 + 100000).toInt = b.toInt + 100000 := by
    rw [l_add (by rw [Int32.toInt_toInt64, e0]; omega), Int32.toInt_toInt64, e0]
  have a2 : ((a.toInt64 + 100000) * 262144).toInt = (a.toInt + 100000) * 262144 := by
    rw [l_mul (by rw [a1, e1]; omega), a1, e1]
  have a3 : (((a.toInt64 + 100000) * 262144) + (b.toInt64 + 100000)).toInt = (a.toInt + 100000) * 262144 + (b.toInt + 100000) := by
    rw [l_add (by rw [a2, b1]; omega), a2, b1]
  have a4 : ((((a.toInt64 + 100000) * 262144) + (b.toInt64 + 100000)) * 256).toInt = ((a.toInt + 100000) * 262144 + (b.toInt + 100000)) * 256 := by
    rw [l_mul (by rw [a3, e2]; omega), a3, e2]
  have c1 : ((l + 1).toInt64).toInt = l.toInt + 1 := by
    rw [Int32.toInt_toInt64, i_add (by rw [e4]; omega), e4]
  have c2 : (((l + 1).toInt64) * 16).toInt = (l.toInt + 1) * 16 := by
    rw [l_mul (by rw [c1, e3]; omega), c1, e3]
  have d1 : (((((a.toInt64 + 100000) * 262144) + (b.toInt64 + 100000)) * 256) + (((l + 1).toInt64) * 16)).toInt = ((a.toInt + 100000) * 262144 + (b.toInt + 100000)) * 256 + (l.toInt + 1) * 16 := by
    rw [l_add (by rw [a4, c2]; omega), a4, c2]
  rw [l_add (by rw [d1, Int32.toInt_toInt64]; omega), d1, Int32.toInt_toInt64]
theorem ky_inj {k l a b k' l' a' b' : Int32} (hk : 0 ≤ k.toInt ∧ k.toInt ≤ 15) (hl : -1 ≤ l.toInt ∧ l.toInt ≤ 14) (ha : -100000 ≤ a.toInt ∧ a.toInt ≤ 100000) (hb : -100000 ≤ b.toInt ∧ b.toInt ≤ 100000)
    (hk' : 0 ≤ k'.toInt ∧ k'.toInt ≤ 15) (hl' : -1 ≤ l'.toInt ∧ l'.toInt ≤ 14) (ha' : -100000 ≤ a'.toInt ∧ a'.toInt ≤ 100000) (hb' : -100000 ≤ b'.toInt ∧ b'.toInt ≤ 100000) :
    ky k l a b = ky k' l' a' b' ↔ k = k' ∧ l = l' ∧ a = a' ∧ b = b' := by
  refine ⟨fun h => ?_, fun h => by rw [h.1, h.2.1, h.2.2.1, h.2.2.2]⟩
  have h1 := congrArg Int64.toInt h
  rw [ky_toInt hk hl ha hb, ky_toInt hk' hl' ha' hb'] at h1
  rw [← Int32.toInt_inj, ← Int32.toInt_inj, ← Int32.toInt_inj, ← Int32.toInt_inj]
  omega
section FND
variable {σ : St} {key : Int64} {n : Nat}
theorem find_hit (hc : σ.1 6 11 = nI n) (hn : n ≤ 208) {m : Nat} (hm : m < n) (hM : σ.2 17 m = key) (hno : ∀ i, i < m → ¬ σ.2 17 i = key) : ∀ (d i fuel : Nat), i + d = m → d < fuel → k_Te_find_7 fuel key (nI i) σ ∧ f_Te_find_7 fuel key (nI i) σ = nI m := by
  intro d
  induction d with
  | zero =>
    intro i fuel hi hf
    obtain ⟨fuel, rfl⟩ : ∃ k, fuel = k + 1 := ⟨fuel - 1, by omega⟩
    have h1 : ¬ σ.1 6 11 ≤ nI i := fun h => by rw [hc, nI_le_iff (by omega) (by omega)] at h; omega
    have h2 : lg_cmp (σ.2 17 (nI i).toNatClampNeg) key = 0 := by rw [lg_cmp_eq, nI_clamp (by omega), show i = m by omega]; exact hM
    refine ⟨⟨fun h => absurd h h1, fun _ => ⟨by rw [in_iff, i_nI (by omega)]; omega, fun _ => trivial, fun h => absurd h2 h⟩⟩, ?_⟩
    show (if σ.1 6 11 ≤ nI i then _ else (if lg_cmp (σ.2 17 (nI i).toNatClampNeg) key = 0 then nI i else _)) = _
    rw [if_neg h1, if_pos h2, show i = m by omega]
  | succ d ih =>
    intro i fuel hi hf
    obtain ⟨fuel, rfl⟩ : ∃ k, fuel = k + 1 := ⟨fuel - 1, by omega⟩
    have h1 : ¬ σ.1 6 11 ≤ nI i := fun h => by rw [hc, nI_le_iff (by omega) (by omega)] at h; omega
    have h2 : ¬ lg_cmp (σ.2 17 (nI i).toNatClampNeg) key = 0 := by rw [lg_cmp_eq, nI_clamp (by omega)]; exact hno i (by omega)
    obtain ⟨g1, g2⟩ := ih (i + 1) fuel (by omega) (by omega)
    rw [nI_succ] at g1 g2
    refine ⟨⟨fun h => absurd h h1, fun _ => ⟨by rw [in_iff, i_nI (by omega)]; omega, fun h => absurd h h2, fun _ => g1⟩⟩, ?_⟩
    show (if σ.1 6 11 ≤ nI i then _ else (if lg_cmp (σ.2 17 (nI i).toNatClampNeg) key = 0 then _ else f_Te_find_7 fuel key (nI i + 1) σ)) = _
    rw [if_neg h1, if_neg h2]; exact g2
theorem find_miss (hc : σ.1 6 11 = nI n) (hn : n ≤ 208) (hno : ∀ i, i < n → ¬ σ.2 17 i = key) : ∀ (d i fuel : Nat), i + d = n → d < fuel → k_Te_find_7 fuel key (nI i) σ ∧ f_Te_find_7 fuel key (nI i) σ = -1 := by
  intro d
  induction d with
  | zero =>
    intro i fuel hi hf
    obtain ⟨fuel, rfl⟩ : ∃ k, fuel = k + 1 := ⟨fuel - 1, by omega⟩
    have h1 : σ.1 6 11 ≤ nI i := by rw [hc, nI_le_iff (by omega) (by omega)]; omega
    refine ⟨⟨fun _ => trivial, fun h => absurd h1 h⟩, ?_⟩
    show (if σ.1 6 11 ≤ nI i then (-1 : Int32) else _) = _
    rw [if_pos h1]
  | succ d ih =>
    intro i fuel hi hf
    obtain ⟨fuel, rfl⟩ : ∃ k, fuel = k + 1 := ⟨fuel - 1, by omega⟩
    have h1 : ¬ σ.1 6 11 ≤ nI i := fun h => by rw [hc, nI_le_iff (by omega) (by omega)] at h; omega
    have h2 : ¬ lg_cmp (σ.2 17 (nI i).toNatClampNeg) key = 0 := by rw [lg_cmp_eq, nI_clamp (by omega)]; exact hno i (by omega)
    obtain ⟨g1, g2⟩ := ih (i + 1) fuel (by omega) (by omega)
    rw [nI_succ] at g1 g2
    refine ⟨⟨fun h => absurd h h1, fun _ => ⟨by rw [in_iff, i_nI (by omega)]; omega, fun h => absurd h h2, fun _ => g1⟩⟩, ?_⟩
    show (if σ.1 6 11 ≤ nI i then _ else (if lg_cmp (σ.2 17 (nI i).toNatClampNeg) key = 0 then _ else f_Te_find_7 fuel key (nI i + 1) σ)) = _
    rw [if_neg h1, if_neg h2]; exact g2
end FND
/-- the row t of the reference is of these parts -/
def fdM (τ : St) (k a b l p q : Int32) (t : Nat) : Prop := τ.1 5 t = k ∧ τ.1 8 t = a ∧ τ.1 9 t = b ∧ τ.1 10 t = l ∧ τ.1 11 t = p ∧ τ.1 12 t = q
section FDM
variable {τ : St} {n : Nat} {k s a b l p q : Int32}
theorem fd_step {i fuel : Nat} (hc : τ.1 0 8 = nI n) (hn : n ≤ 400) (hi : i < n) (hM : ¬ fdM τ k a b l p q i) (hk : k_Mo_found_3 fuel k s a b l p q (nI (i + 1)) τ) : k_Mo_found_3 (fuel + 1) k s a b l p q (nI i) τ ∧ f_Mo_found_3 (fuel + 1) k s a b l p q (nI i) τ = f_Mo_found_3 fuel k s a b l p q (nI (i + 1)) τ := by
  have h1 : ¬ τ.1 0 8 ≤ nI i := fun h => by rw [hc, nI_le_iff (by omega) (by omega)] at h; omega
  have hin : vp_in (nI i) 400 := by rw [in_iff, i_nI (by omega)]; omega
  have hcl : (nI i).toNatClampNeg = i := nI_clamp (by omega)
  rw [nI_succ] at hk ⊢
  have hk' : k_Mo_found_85 (k_Mo_found_3 fuel) k s a b l p q (nI i) τ := hk
  refine ⟨⟨fun h => absurd h h1, fun _ => ⟨hin, fun c1 => ⟨hin, fun c2 => ⟨hin, fun c3 => ⟨hin, fun c4 => ⟨hin, fun c5 => ⟨hin, fun _ => trivial, fun _ => hk'⟩, fun _ => hk'⟩, fun _ => hk'⟩, fun _ => hk'⟩, fun _ => hk'⟩, fun _ => hk'⟩⟩, ?_⟩
  show (if τ.1 0 8 ≤ nI i then _ else (if τ.1 5 (nI i).toNatClampNeg = k then (if τ.1 8 (nI i).toNatClampNeg = a then (if τ.1 9 (nI i).toNatClampNeg = b then (if τ.1 10 (nI i).toNatClampNeg = l then (if τ.1 11 (nI i).toNatClampNeg = p then (if τ.1 12 (nI i).toNatClampNeg = q then (nI i, τ) else f_Mo_found_3 fuel k s a b l p q (nI i + 1) τ) else f_Mo_found_3 fuel k s a b l p q (nI i + 1) τ) else f_Mo_found_3 fuel k s a b l p q (nI i + 1) τ) else f_Mo_found_3 fuel k s a b l p q (nI i + 1) τ) else f_Mo_found_3 fuel k s a b l p q (nI i + 1) τ) else f_Mo_found_3 fuel k s a b l p q (nI i + 1) τ)) = _
  rw [if_neg h1, hcl]
  by_cases c1 : τ.1 5 i = k
  · rw [if_pos c1]
    by_cases c2 : τ.1 8 i = a
    · rw [if_pos c2]
      by_cases c3 : τ.1 9 i = b
      · rw [if_pos c3]
        by_cases c4 : τ.1 10 i = l
        · rw [if_pos c4]
          by_cases c5 : τ.1 11 i = p
          · rw [if_pos c5]
            by_cases c6 : τ.1 12 i = q
            · exact absurd ⟨c1, c2, c3, c4, c5, c6⟩ hM
            · rw [if_neg c6]
          · rw [if_neg c5]
        · rw [if_neg c4]
      · rw [if_neg c3]
    · rw [if_neg c2]
  · rw [if_neg c1]
theorem fd_hit (hc : τ.1 0 8 = nI n) (hn : n ≤ 400) {m : Nat} (hm : m < n) (hM : fdM τ k a b l p q m) (hno : ∀ i, i < m → ¬ fdM τ k a b l p q i) : ∀ (d i fuel : Nat), i + d = m → d < fuel → k_Mo_found_3 fuel k s a b l p q (nI i) τ ∧ f_Mo_found_3 fuel k s a b l p q (nI i) τ = (nI m, τ) := by
  intro d
  induction d with
  | zero =>
    intro i fuel hi hf
    obtain ⟨fuel, rfl⟩ : ∃ k, fuel = k + 1 := ⟨fuel - 1, by omega⟩
    obtain rfl : i = m := by omega
    have h1 : ¬ τ.1 0 8 ≤ nI i := fun h => by rw [hc, nI_le_iff (by omega) (by omega)] at h; omega
    have hin : vp_in (nI i) 400 := by rw [in_iff, i_nI (by omega)]; omega
    have hcl : (nI i).toNatClampNeg = i := nI_clamp (by omega)
    obtain ⟨c1, c2, c3, c4, c5, c6⟩ := hM
    rw [← hcl] at c1 c2 c3 c4 c5 c6
    refine ⟨⟨fun h => absurd h h1, fun _ => ⟨hin, fun _ => ⟨hin, fun _ => ⟨hin, fun _ => ⟨hin, fun _ => ⟨hin, fun _ => ⟨hin, fun _ => trivial, fun h => absurd c6 h⟩, fun h => absurd c5 h⟩, fun h => absurd c4 h⟩, fun h => absurd c3 h⟩, fun h => absurd c2 h⟩, fun h => absurd c1 h⟩⟩, ?_⟩
    show (if τ.1 0 8 ≤ nI i then _ else (if τ.1 5 (nI i).toNatClampNeg = k then (if τ.1 8 (nI i).toNatClampNeg = a then (if τ.1 9 (nI i).toNatClampNeg = b then (if τ.1 10 (nI i).toNatClampNeg = l then (if τ.1 11 (nI i).toNatClampNeg = p then (if τ.1 12 (nI i).toNatClampNeg = q then (nI i, τ) else _) else _) else _) else _) else _) else _)) = _
    rw [if_neg h1, if_pos c1, if_pos c2, if_pos c3, if_pos c4, if_pos c5, if_pos c6]
  | succ d ih =>
    intro i fuel hi hf
    obtain ⟨fuel, rfl⟩ : ∃ k, fuel = k + 1 := ⟨fuel - 1, by omega⟩
    obtain ⟨g1, g2⟩ := ih (i + 1) fuel (by omega) (by omega)
    obtain ⟨e1, e2⟩ := fd_step (s := s) hc hn (by omega) (hno i (by omega)) g1
    exact ⟨e1, e2.trans g2⟩
theorem fd_miss (hc : τ.1 0 8 = nI n) (hn : n ≤ 399) (hno : ∀ i, i < n → ¬ fdM τ k a b l p q i) (hk : k_Mo_found_101 k s a b l p q (sA τ 5 (nI n) k)) : ∀ (d i fuel : Nat), i + d = n → d < fuel → k_Mo_found_3 fuel k s a b l p q (nI i) τ ∧ f_Mo_found_3 fuel k s a b l p q (nI i) τ = f_Mo_found_101 k s a b l p q (sA τ 5 (nI n) k) := by
  intro d
  induction d with
  | zero =>
    intro i fuel hi hf
    obtain ⟨fuel, rfl⟩ : ∃ k, fuel = k + 1 := ⟨fuel - 1, by omega⟩
    have h1 : τ.1 0 8 ≤ nI i := by rw [hc, nI_le_iff (by omega) (by omega)]; omega
    refine ⟨⟨fun _ => ⟨by rw [hc, in_iff, i_nI (by omega)]; omega, by rw [hc]; exact hk⟩, fun h => absurd h1 h⟩, ?_⟩
    show (if τ.1 0 8 ≤ nI i then f_Mo_found_101 k s a b l p q (sA τ 5 (τ.1 0 8) k) else _) = _
    rw [if_pos h1, hc]
  | succ d ih =>
    intro i fuel hi hf
    obtain ⟨fuel, rfl⟩ : ∃ k, fuel = k + 1 := ⟨fuel - 1, by omega⟩
    obtain ⟨g1, g2⟩ := ih (i + 1) fuel (by omega) (by omega)
    obtain ⟨e1, e2⟩ := fd_step (s := s) hc (by omega) (by omega) (hno i (by omega)) g1
    exact ⟨e1, e2.trans g2⟩
end FDM
