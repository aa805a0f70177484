-- what a term's sum is: the coefficient of x, or none where a number is too great
def stp (τ : St) (E : Nat → Option Fr) (x : Int32) (t : Nat) : Option Fr :=
  if τ.1 5 t = 2 then (if x < 0 then rd (τ.1 11 t).toInt (τ.1 12 t).toInt else rd 0 1)
  else (if τ.1 5 t = 3 then (E (τ.1 8 t).toNatClampNeg).bind (fun p => (E (τ.1 9 t).toNatClampNeg).bind (fun q => rd (p.1 * q.2 + q.1 * p.2) (p.2 * q.2)))
  else (if τ.1 5 t = 4 then (E (τ.1 9 t).toNatClampNeg).bind (fun q => rd (q.1 * (τ.1 11 (τ.1 8 t).toNatClampNeg).toInt) (q.2 * (τ.1 12 (τ.1 8 t).toNatClampNeg).toInt))
  else rd (if nI t = x then 1 else 0) 1))
def tb (τ : St) (x : Int32) : Nat → Nat → Option Fr
  | 0, _ => none
  | k + 1, t => if t = k then stp τ (tb τ x k) x k else tb τ x k t
def ev (τ : St) (x : Int32) (t : Nat) : Option Fr := tb τ x (t + 1) t
theorem tb_lt {τ : St} {x : Int32} {t : Nat} : ∀ k, t < k → tb τ x k t = ev τ x t := by
  intro k
  induction k with
  | zero => intro h; omega
  | succ k ih =>
    intro h
    by_cases z : t = k
    · subst z; rfl
    · show (if t = k then _ else tb τ x k t) = _
      rw [if_neg z]; exact ih (by omega)
/-- the parts of the kinds that are summed -/
theorem two34 {τ : St} {t : Nat} (hW : tmW τ t) (hK : kdW τ t) (h : τ.1 5 t = 3 ∨ τ.1 5 t = 4) : ∃ a b, a < t ∧ b < t ∧ τ.1 8 t = nI a ∧ τ.1 9 t = nI b := by
  have n8 : ¬ τ.1 8 t = -1 ∧ ¬ τ.1 9 t = -1 := by
    rcases h with z | z
    · exact ⟨(hK.2.2.1 z).1, (hK.2.2.1 z).2.1⟩
    · exact ⟨(hK.2.2.2.1 z).1, (hK.2.2.2.1 z).2.1⟩
  obtain ⟨a, a1, a2⟩ := hW.1.resolve_left n8.1
  obtain ⟨b, b1, b2⟩ := hW.2.1.resolve_left n8.2
  exact ⟨a, b, a1, b1, a2, b2⟩
theorem ev_st {τ : St} {x : Int32} {t : Nat} (ht : t < 400) (hW : tmW τ t) (hK : kdW τ t) : ev τ x t = stp τ (ev τ x) x t := by
  have e : ev τ x t = stp τ (tb τ x t) x t := by
    show (if t = t then stp τ (tb τ x t) x t else _) = _
    rw [if_pos rfl]
  rw [e]
  unfold stp
  by_cases h2 : τ.1 5 t = 2
  · rw [if_pos h2, if_pos h2]
  · rw [if_neg h2, if_neg h2]
    by_cases h3 : τ.1 5 t = 3
    · obtain ⟨a, b, a1, b1, a2, b2⟩ := two34 hW hK (Or.inl h3)
      rw [if_pos h3, if_pos h3, a2, b2, nI_clamp (by omega), nI_clamp (by omega), tb_lt t a1, tb_lt t b1]
    · rw [if_neg h3, if_neg h3]
      by_cases h4 : τ.1 5 t = 4
      · obtain ⟨a, b, a1, b1, a2, b2⟩ := two34 hW hK (Or.inr h4)
        rw [if_pos h4, if_pos h4, b2, nI_clamp (n := b) (by omega), tb_lt t b1]
      · rw [if_neg h4, if_neg h4]
/-- a product's first part is a constant -/
theorem cst4 {τ : St} {t a : Nat} (ht : t < 400) (hK : kdW τ t) (h4 : τ.1 5 t = 4) (ha : a < t) (h8 : τ.1 8 t = nI a) : τ.1 5 a = 2 := by
  have h := (hK.2.2.2.1 h4).2.2.2.2.1
  unfold pO at h
  rw [h8, if_neg (nI_ne_m1 (by omega)), nI_clamp (by omega)] at h
  exact h
section EVS
variable {n : Nat} {τ : St}
theorem ev_V (hn : n ≤ 100) (hW : ∀ t, t < n → tmW τ t) (hK : ∀ t, t < n → kdW τ t) (x : Int32) : ∀ t, t < n → ∀ f, ev τ x t = some f → VF f := by
  intro t
  induction t using Nat.strongRecOn with
  | ind t ih =>
    intro ht f hf
    rw [ev_st (by omega) (hW t ht) (hK t ht)] at hf
    unfold stp at hf
    by_cases h2 : τ.1 5 t = 2
    · rw [if_pos h2] at hf
      obtain ⟨-, -, -, -, c1, c2⟩ := (hW t ht).2.2.2.2.2.2.1 h2
      by_cases z : x < 0
      · rw [if_pos z] at hf; exact rd_V c1 hf
      · rw [if_neg z] at hf; exact rd_V (by omega) hf
    · rw [if_neg h2] at hf
      by_cases h3 : τ.1 5 t = 3
      · obtain ⟨a, b, a1, b1, a2, b2⟩ := two34 (hW t ht) (hK t ht) (Or.inl h3)
        rw [if_pos h3, a2, b2, nI_clamp (by omega), nI_clamp (by omega)] at hf
        cases ea : ev τ x a with
        | none => rw [ea] at hf; cases hf
        | some p =>
          cases eb : ev τ x b with
          | none => rw [ea, eb] at hf; cases hf
          | some q =>
            rw [ea, eb] at hf
            exact rd_V (mp1 (ih a a1 (by omega) p ea).2.2.1 (ih b b1 (by omega) q eb).2.2.1) hf
      · rw [if_neg h3] at hf
        by_cases h4 : τ.1 5 t = 4
        · obtain ⟨a, b, a1, b1, a2, b2⟩ := two34 (hW t ht) (hK t ht) (Or.inr h4)
          have c5 := cst4 (by omega) (hK t ht) h4 a1 a2
          obtain ⟨-, -, -, -, c1, c2⟩ := (hW a (by omega)).2.2.2.2.2.2.1 c5
          rw [if_pos h4, a2, b2, nI_clamp (by omega), nI_clamp (by omega)] at hf
          cases eb : ev τ x b with
          | none => rw [eb] at hf; cases hf
          | some q =>
            rw [eb] at hf
            exact rd_V (mp1 (ih b b1 (by omega) q eb).2.2.1 c1) hf
        · rw [if_neg h4] at hf; exact rd_V (by omega) hf
/-- later terms change nothing -/
theorem ev_cong {τ' : St} (hn : n ≤ 100) (hW : ∀ t, t < n → tmW τ t) (hK : ∀ t, t < n → kdW τ t) (hr : rwM n τ τ') (x : Int32) : ∀ t, t < n → ev τ' x t = ev τ x t := by
  intro t
  induction t using Nat.strongRecOn with
  | ind t ih =>
    intro ht
    have r : ∀ c, 5 ≤ c → c ≤ 13 → τ'.1 c t = τ.1 c t := fun c q1 q2 => hr c q1 q2 t ht
    have hW' : tmW τ' t := (hW t ht).cong (n := n) ht (by omega) hr
    have hK' : kdW τ' t := (hK t ht).cong (n := n) ht (by omega) (hW t ht).1 (hW t ht).2.1 hr
    rw [ev_st (by omega) hW' hK', ev_st (by omega) (hW t ht) (hK t ht)]
    unfold stp
    rw [r 5 (by omega) (by omega), r 8 (by omega) (by omega), r 9 (by omega) (by omega), r 11 (by omega) (by omega), r 12 (by omega) (by omega)]
    by_cases h2 : τ.1 5 t = 2
    · rw [if_pos h2, if_pos h2]
    · rw [if_neg h2, if_neg h2]
      by_cases h3 : τ.1 5 t = 3
      · obtain ⟨a, b, a1, b1, a2, b2⟩ := two34 (hW t ht) (hK t ht) (Or.inl h3)
        rw [if_pos h3, if_pos h3, a2, b2, nI_clamp (by omega), nI_clamp (by omega), ih a a1 (by omega), ih b b1 (by omega)]
      · rw [if_neg h3, if_neg h3]
        by_cases h4 : τ.1 5 t = 4
        · obtain ⟨a, b, a1, b1, a2, b2⟩ := two34 (hW t ht) (hK t ht) (Or.inr h4)
          rw [if_pos h4, if_pos h4, a2, b2, nI_clamp (by omega), nI_clamp (by omega), ih b b1 (by omega), hr 11 (by omega) (by omega) a (by omega), hr 12 (by omega) (by omega) a (by omega)]
        · rw [if_neg h4, if_neg h4]
/-- what the reference weighs -/
def RA (n : Nat) (τ : St) (x : Int32) : Prop := x = -1 ∨ ∃ t, t < n ∧ x = nI t ∧ τ.1 6 t = 1 ∧ (τ.1 5 t = 0 ∨ τ.1 5 t = 1)
theorem rd01 {q : Int} (hq : 1 ≤ q) : rd 0 q = some (0, 1) := by
  unfold rd
  rw [lo_0 hq, if_pos (by decide)]
/-- the kinds of numbers -/
theorem num_kd {t : Nat} (hW : tmW τ t) (hK : kdW τ t) (h6 : τ.1 6 t = 1) (h2 : ¬ τ.1 5 t = 2) (h3 : ¬ τ.1 5 t = 3) (h4 : ¬ τ.1 5 t = 4) : τ.1 5 t = 0 ∨ τ.1 5 t = 1 := by
  obtain ⟨k, k1, k2⟩ := hW.2.2.2.1
  have d01 : ¬ (0 : Int32) = 1 := by decide
  have hs : k = 0 ∨ k = 1 ∨ k = 2 ∨ k = 3 ∨ k = 4 ∨ k = 5 ∨ k = 6 ∨ k = 7 ∨ k = 8 ∨ k = 9 ∨ k = 10 := by omega
  rcases hs with rfl | rfl | rfl | rfl | rfl | rfl | rfl | rfl | rfl | rfl | rfl
  · exact Or.inl (k2.trans (by decide +kernel))
  · exact Or.inr (k2.trans (by decide +kernel))
  · exact absurd (k2.trans (by decide +kernel)) h2
  · exact absurd (k2.trans (by decide +kernel)) h3
  · exact absurd (k2.trans (by decide +kernel)) h4
  · exact absurd ((hK.2.2.2.2.1 (k2.trans (by decide +kernel))).2.2.2.1.symm.trans h6) d01
  · exact absurd ((hK.2.2.2.2.2.1 (k2.trans (by decide +kernel))).2.2.2.1.symm.trans h6) d01
  · exact absurd ((hK.2.2.2.2.2.2.1 (k2.trans (by decide +kernel))).2.2.2.1.symm.trans h6) d01
  · exact absurd ((hK.2.2.2.2.2.2.2.1 (k2.trans (by decide +kernel))).2.2.2.1.symm.trans h6) d01
  · exact absurd ((hK.2.2.2.2.2.2.2.2.1 (k2.trans (by decide +kernel))).2.2.2.1.symm.trans h6) d01
  · exact absurd ((hK.2.2.2.2.2.2.2.2.2 (k2.trans (by decide +kernel))).2.2.2.2.1.symm.trans h6) d01
/-- parts of sums are numbers -/
theorem num_parts {t a b : Nat} (ht : t < 400) (hW : tmW τ t) (hK : kdW τ t) (ha : a < t) (hb : b < t) (h8 : τ.1 8 t = nI a) (h9 : τ.1 9 t = nI b) : (τ.1 5 t = 3 → τ.1 6 a = 1 ∧ τ.1 6 b = 1) ∧ (τ.1 5 t = 4 → τ.1 6 b = 1) := by
  have c : ∀ c, c < t → pO (τ.1 6) (nI c) = τ.1 6 c := fun c hc => by
    unfold pO
    rw [if_neg (nI_ne_m1 (by omega)), nI_clamp (by omega)]
  refine ⟨fun z => ?_, fun z => ?_⟩
  · obtain ⟨-, -, -, -, q1, q2⟩ := hK.2.2.1 z
    rw [h8, c a ha] at q1
    rw [h9, c b hb] at q2
    exact ⟨q1, q2⟩
  · obtain ⟨-, -, -, -, q1, q2⟩ := hK.2.2.2.1 z
    rw [h9, c b hb] at q2
    exact q2
theorem ev_no (hn : n ≤ 100) (hW : ∀ t, t < n → tmW τ t) (hK : ∀ t, t < n → kdW τ t) {x : Int32} (hx : DX x) (hx2 : ¬ RA n τ x) : ∀ t, t < n → τ.1 6 t = 1 → ev τ x t = some (0, 1) := by
  have nx : ¬ x < 0 := by
    rcases hx with z | ⟨j, j1, z⟩
    · exact absurd (Or.inl z) hx2
    · rw [z]; exact nI_pos (by omega)
  intro t
  induction t using Nat.strongRecOn with
  | ind t ih =>
    intro ht h6
    rw [ev_st (by omega) (hW t ht) (hK t ht)]
    unfold stp
    by_cases h2 : τ.1 5 t = 2
    · rw [if_pos h2, if_neg nx]; exact rd01 (by omega)
    · rw [if_neg h2]
      by_cases h3 : τ.1 5 t = 3
      · obtain ⟨a, b, a1, b1, a2, b2⟩ := two34 (hW t ht) (hK t ht) (Or.inl h3)
        obtain ⟨s1, s2⟩ := (num_parts (by omega) (hW t ht) (hK t ht) a1 b1 a2 b2).1 h3
        rw [if_pos h3, a2, b2, nI_clamp (by omega), nI_clamp (by omega), ih a a1 (by omega) s1, ih b b1 (by omega) s2]
        show rd (0 * 1 + 0 * 1) (1 * 1) = _
        rw [show (0 * 1 + 0 * 1 : Int) = 0 from rfl, show (1 * 1 : Int) = 1 from rfl]
        exact rd01 (by decide)
      · rw [if_neg h3]
        by_cases h4 : τ.1 5 t = 4
        · obtain ⟨a, b, a1, b1, a2, b2⟩ := two34 (hW t ht) (hK t ht) (Or.inr h4)
          have s2 := (num_parts (by omega) (hW t ht) (hK t ht) a1 b1 a2 b2).2 h4
          have c5 := cst4 (by omega) (hK t ht) h4 a1 a2
          obtain ⟨-, -, -, -, c1, c2⟩ := (hW a (by omega)).2.2.2.2.2.2.1 c5
          rw [if_pos h4, a2, b2, nI_clamp (by omega), nI_clamp (by omega), ih b b1 (by omega) s2]
          show rd (0 * (τ.1 11 a).toInt) (1 * (τ.1 12 a).toInt) = _
          rw [Int.zero_mul, Int.one_mul]; exact rd01 c1
        · rw [if_neg h4, if_neg (fun z => hx2 (Or.inr ⟨t, ht, z.symm, h6, num_kd (hW t ht) (hK t ht) h6 h2 h3 h4⟩))]
          exact rd01 (by omega)
end EVS
