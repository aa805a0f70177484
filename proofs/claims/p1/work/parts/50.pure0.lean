-- pure rows: numbers of 32 bits as integers, the state's places
theorem pu_at {α : Type} (S : Nat → α) (k : Nat) (f : α) (a : Nat) : pu S k f a = if a = k then f else S a := by
  unfold pu
  by_cases h : a = k
  · subst h; simp
  · have h1 : Nat.beq a k = false := by
      cases hb : Nat.beq a k
      · rfl
      · exact absurd (Nat.eq_of_beq_eq_true hb) h
    simp [h1, h]
theorem sF1 (σ : St) (k j : Nat) (v : Int32) (a b : Nat) : (sF σ k j v).1 a b = if a = k then (if b = j then v else σ.1 k b) else σ.1 a b := by
  show pu σ.1 k (pu (σ.1 k) j v) a b = _
  rw [pu_at]
  by_cases h : a = k
  · rw [if_pos h, if_pos h, pu_at]
  · rw [if_neg h, if_neg h]
theorem sF2 (σ : St) (k j : Nat) (v : Int32) : (sF σ k j v).2 = σ.2 := rfl
theorem upd_at (f : Nat → Int32) (k : Nat) (v : Int32) (a : Nat) : upd f k v a = if a = k then v else f a := by
  unfold upd; rfl
theorem sA1 (σ : St) (k : Nat) (i v : Int32) (a b : Nat) : (sA σ k i v).1 a b = if a = k then (if b = i.toNatClampNeg then v else σ.1 k b) else σ.1 a b := by
  show pu σ.1 k (upd (σ.1 k) i.toNatClampNeg v) a b = _
  rw [pu_at]
  by_cases h : a = k
  · rw [if_pos h, if_pos h, upd_at]
  · rw [if_neg h, if_neg h]
theorem sA2 (σ : St) (k : Nat) (i v : Int32) : (sA σ k i v).2 = σ.2 := rfl
theorem sG1 (σ : St) (k j : Nat) (v : Int64) : (sG σ k j v).1 = σ.1 := rfl
theorem sG2 (σ : St) (k j : Nat) (v : Int64) (a b : Nat) : (sG σ k j v).2 a b = if a = k then (if b = j then v else σ.2 k b) else σ.2 a b := by
  show pu σ.2 k (pu (σ.2 k) j v) a b = _
  rw [pu_at]
  by_cases h : a = k
  · rw [if_pos h, if_pos h, pu_at]
  · rw [if_neg h, if_neg h]
theorem sL1 (σ : St) (k : Nat) (i : Int32) (v : Int64) : (sL σ k i v).1 = σ.1 := rfl
theorem sL2 (σ : St) (k : Nat) (i : Int32) (v : Int64) (a b : Nat) : (sL σ k i v).2 a b = if a = k then (if b = i.toNatClampNeg then v else σ.2 k b) else σ.2 a b := by
  show pu σ.2 k (vp_updL (σ.2 k) i.toNatClampNeg v) a b = _
  rw [pu_at]
  by_cases h : a = k
  · rw [if_pos h, if_pos h]; rfl
  · rw [if_neg h, if_neg h]
theorem i_rng (a : Int32) : -2147483648 ≤ a.toInt ∧ a.toInt ≤ 2147483647 := by
  have h1 := Int32.le_toInt a
  have h2 := Int32.toInt_lt a
  omega
theorem i_add {a b : Int32} (h : -2147483648 ≤ a.toInt + b.toInt ∧ a.toInt + b.toInt ≤ 2147483647) : (a + b).toInt = a.toInt + b.toInt := by
  rw [Int32.toInt_add, Int.bmod_def]; omega
theorem i_sub {a b : Int32} (h : -2147483648 ≤ a.toInt - b.toInt ∧ a.toInt - b.toInt ≤ 2147483647) : (a - b).toInt = a.toInt - b.toInt := by
  rw [Int32.toInt_sub, Int.bmod_def]; omega
theorem i_mul {a b : Int32} (h : -2147483648 ≤ a.toInt * b.toInt ∧ a.toInt * b.toInt ≤ 2147483647) : (a * b).toInt = a.toInt * b.toInt := by
  rw [Int32.toInt_mul, Int.bmod_def]; omega
theorem i_clamp (a : Int32) : a.toNatClampNeg = a.toInt.toNat := rfl
theorem i_nI {n : Nat} (h : n < 2147483648) : (nI n).toInt = (n : Int) := nI_toInt h
theorem nJ_of {a : Int32} (h : 0 ≤ a.toInt) : a = nI a.toInt.toNat := by
  apply Int32.toInt_inj.mp
  have h1 := i_rng a
  rw [i_nI (by omega)]
  omega
theorem in_iff {a : Int32} {n : Nat} : vp_in a n ↔ 0 ≤ a.toInt ∧ a.toInt < n := by
  unfold vp_in
  rw [Int32.lt_iff_toInt_lt, i_clamp, Int32.toInt_zero]
  omega
/-- a number below n that isn't below 0 -/
theorem nI_has {a : Int32} {n : Nat} (hn : n < 2147483648) (h1 : ¬ a < 0) (h2 : ¬ nI n ≤ a) : ∃ k, k < n ∧ a = nI k := by
  rw [Int32.lt_iff_toInt_lt, Int32.toInt_zero] at h1
  rw [Int32.le_iff_toInt_le, i_nI hn] at h2
  exact ⟨a.toInt.toNat, by omega, nJ_of (by omega)⟩
theorem nI_inj {a b : Nat} (ha : a < 2147483648) (hb : b < 2147483648) : nI a = nI b ↔ a = b := by
  refine ⟨fun h => ?_, fun h => by rw [h]⟩
  have h1 := congrArg Int32.toInt h
  rw [i_nI ha, i_nI hb] at h1
  omega
theorem nI_lt_iff {a b : Nat} (ha : a < 2147483648) (hb : b < 2147483648) : nI a < nI b ↔ a < b := by
  rw [Int32.lt_iff_toInt_lt, i_nI ha, i_nI hb]; omega
theorem nI_le_iff {a b : Nat} (ha : a < 2147483648) (hb : b < 2147483648) : nI a ≤ nI b ↔ a ≤ b := by
  rw [Int32.le_iff_toInt_le, i_nI ha, i_nI hb]; omega
