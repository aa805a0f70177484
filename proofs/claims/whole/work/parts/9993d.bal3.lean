-- which terms get a sum; what is asked of the sums
def up (X : Nat → Bool) (t : Nat) : Nat → Bool := fun j => if j = t then true else X j
def nd (σ : St) : Nat → (Nat → Bool) → Nat → (Nat → Bool)
  | 0, X, _ => X
  | d + 1, X, t => if X t = true then X else up (if f_Te_kindOf (nI t) σ = 4 then nd σ d X (f_Te_secondOf (nI t) σ).toNatClampNeg else (if f_Te_kindOf (nI t) σ = 3 then nd σ d (nd σ d X (f_Te_secondOf (nI t) σ).toNatClampNeg) (f_Te_firstOf (nI t) σ).toNatClampNeg else X)) t
/-- the same, of the parts alone -/
def ndp (σ : St) (d : Nat) (X : Nat → Bool) (t : Nat) : Nat → Bool := if f_Te_kindOf (nI t) σ = 4 then nd σ d X (f_Te_secondOf (nI t) σ).toNatClampNeg else (if f_Te_kindOf (nI t) σ = 3 then nd σ d (nd σ d X (f_Te_secondOf (nI t) σ).toNatClampNeg) (f_Te_firstOf (nI t) σ).toNatClampNeg else X)
theorem nd_s (σ : St) (d : Nat) (X : Nat → Bool) (t : Nat) : nd σ (d + 1) X t = if X t = true then X else up (ndp σ d X t) t := rfl
def cn (X : Nat → Bool) : Nat → Nat
  | 0 => 0
  | m + 1 => cn X m + (if X m = true then 1 else 0)
theorem cn_le (X : Nat → Bool) : ∀ m, cn X m ≤ m := by
  intro m
  induction m with
  | zero => exact Nat.le_refl 0
  | succ m ih =>
    show cn X m + (if X m = true then 1 else 0) ≤ m + 1
    by_cases h : X m = true
    · rw [if_pos h]; omega
    · rw [if_neg h]; omega
theorem cn_mono {X Y : Nat → Bool} (h : ∀ j, X j = true → Y j = true) : ∀ m, cn X m ≤ cn Y m := by
  intro m
  induction m with
  | zero => exact Nat.le_refl 0
  | succ m ih =>
    show cn X m + (if X m = true then 1 else 0) ≤ cn Y m + (if Y m = true then 1 else 0)
    by_cases h1 : X m = true
    · rw [if_pos h1, if_pos (h m h1)]; omega
    · rw [if_neg h1]; omega
theorem cn_same {X Y : Nat → Bool} : ∀ m, (∀ j, j < m → X j = Y j) → cn X m = cn Y m := by
  intro m
  induction m with
  | zero => intro _; rfl
  | succ m ih =>
    intro h
    show cn X m + (if X m = true then 1 else 0) = cn Y m + (if Y m = true then 1 else 0)
    rw [ih (fun j hj => h j (by omega)), h m (by omega)]
theorem cn_up {X : Nat → Bool} {t : Nat} (h : ¬ X t = true) : ∀ m, t < m → cn (up X t) m = cn X m + 1 := by
  intro m
  induction m with
  | zero => intro h; omega
  | succ m ih =>
    intro hm
    show cn (up X t) m + (if up X t m = true then 1 else 0) = cn X m + (if X m = true then 1 else 0) + 1
    by_cases z : m = t
    · subst z
      rw [cn_same (X := up X m) (Y := X) m (fun j hj => by unfold up; rw [if_neg (by omega)])]
      have e : up X m m = true := by unfold up; rw [if_pos rfl]
      rw [if_pos e, if_neg h]
    · have e : up X t m = X m := by unfold up; rw [if_neg z]
      rw [e, ih (by omega)]; omega
/-- what the walk asks of the mathematics: which terms are summed (G, by depth), what their sums are (Sp) -/
def Cl (σ : St) (G : Nat → Nat → Prop) (Sp : Nat → St → Prop) : Prop := ∀ d t, G d t → t < 100 ∧
  (f_Te_kindOf (nI t) σ = 2 → k_single (-1) (f_Te_topOf (nI t) σ) (f_Te_bottomOf (nI t) σ) ∧ Sp t (f_single (-1) (f_Te_topOf (nI t) σ) (f_Te_bottomOf (nI t) σ))) ∧
  (¬ f_Te_kindOf (nI t) σ = 2 → ¬ f_Te_kindOf (nI t) σ = 3 → ¬ f_Te_kindOf (nI t) σ = 4 → k_single (nI t) 1 1 ∧ Sp t (f_single (nI t) 1 1)) ∧
  (f_Te_kindOf (nI t) σ = 4 → ∃ d' b, d = d' + 1 ∧ f_Te_secondOf (nI t) σ = nI b ∧ b < t ∧ G d' b ∧ ∀ ω, Sp b ω → ∃ n, n ≤ 101 ∧ ω.1 0 3 = nI n ∧ k_at ω (f_Te_topOf (f_Te_firstOf (nI t) σ) σ).toInt64 (f_Te_bottomOf (f_Te_firstOf (nI t) σ) σ).toInt64 (s0 n) ∧ Sp t (f_at ω (f_Te_topOf (f_Te_firstOf (nI t) σ) σ).toInt64 (f_Te_bottomOf (f_Te_firstOf (nI t) σ) σ).toInt64 (s0 n))) ∧
  (f_Te_kindOf (nI t) σ = 3 → ∃ d' a b, d = d' + 1 ∧ f_Te_firstOf (nI t) σ = nI a ∧ f_Te_secondOf (nI t) σ = nI b ∧ a < t ∧ b < t ∧ G d' a ∧ G d' b ∧ ∀ α ω, Sp a α → Sp b ω → ∃ n, n ≤ 101 ∧ (if (101 : Int32) < α.1 0 3 + ω.1 0 3 then 101 else α.1 0 3 + ω.1 0 3) = nI n ∧ k_at α 1 1 (s0 n) ∧ k_at ω 1 1 (f_at α 1 1 (s0 n)) ∧ Sp t (f_at ω 1 1 (f_at α 1 1 (s0 n))))
/-- the table's sums are what they should be -/
def BI (Sp : Nat → St → Prop) (A : Nat → Option Nat) (L : List Itm) : Prop := ∀ t a, A t = some a → ∃ i x, 3 ≤ i ∧ L[i]? = some x ∧ x.1 0 = a ∧ Sp t x.2
abbrev dom (A : Nat → Option Nat) : Nat → Bool := fun j => (A j).isSome
theorem nd_in {σ : St} : ∀ (d : Nat) (X : Nat → Bool) (t j : Nat), X j = true → nd σ d X t j = true := by
  intro d
  induction d with
  | zero => intro X t j h; exact h
  | succ d ih =>
    intro X t j h
    rw [nd_s]
    by_cases h1 : X t = true
    · rw [if_pos h1]; exact h
    · rw [if_neg h1]
      unfold up
      by_cases h2 : j = t
      · rw [if_pos h2]
      · rw [if_neg h2]
        unfold ndp
        by_cases h4 : f_Te_kindOf (nI t) σ = 4
        · rw [if_pos h4]; exact ih _ _ _ h
        · rw [if_neg h4]
          by_cases h3 : f_Te_kindOf (nI t) σ = 3
          · rw [if_pos h3]; exact ih _ _ _ (ih _ _ _ h)
          · rw [if_neg h3]; exact h
section NDS
variable {σ : St} {G : Nat → Nat → Prop} {Sp : Nat → St → Prop}
theorem nd_gt (C : Cl σ G Sp) : ∀ (d : Nat) (X : Nat → Bool) (t : Nat), G d t → (∀ j, t < j → nd σ (d + 1) X t j = X j) ∧ ∀ j, t ≤ j → ndp σ d X t j = X j := by
  intro d
  induction d with
  | zero =>
    intro X t hG
    obtain ⟨-, -, -, c4, c3⟩ := C 0 t hG
    have h4 : ¬ f_Te_kindOf (nI t) σ = 4 := fun z => by obtain ⟨d', b, h, -⟩ := c4 z; omega
    have h3 : ¬ f_Te_kindOf (nI t) σ = 3 := fun z => by obtain ⟨d', a, b, h, -⟩ := c3 z; omega
    have e : ndp σ 0 X t = X := by unfold ndp; rw [if_neg h4, if_neg h3]
    refine ⟨fun j hj => ?_, fun j _ => by rw [e]⟩
    rw [nd_s, e]
    by_cases h1 : X t = true
    · rw [if_pos h1]
    · rw [if_neg h1]; unfold up; rw [if_neg (by omega)]
  | succ d ih =>
    intro X t hG
    obtain ⟨-, -, -, c4, c3⟩ := C (d + 1) t hG
    have hp : ∀ j, t ≤ j → ndp σ (d + 1) X t j = X j := by
      intro j hj
      unfold ndp
      by_cases h4 : f_Te_kindOf (nI t) σ = 4
      · rw [if_pos h4]
        obtain ⟨d', b, e1, e2, e3, e4, -⟩ := c4 h4
        obtain rfl : d' = d := by omega
        rw [e2, nI_clamp (by have := (C _ _ hG).1; omega)]
        exact (ih X b e4).1 j (by omega)
      · rw [if_neg h4]
        by_cases h3 : f_Te_kindOf (nI t) σ = 3
        · rw [if_pos h3]
          obtain ⟨d', a, b, e1, e2, e3, e4, e5, e6, e7, -⟩ := c3 h3
          obtain rfl : d' = d := by omega
          have ht := (C _ _ hG).1
          rw [e2, e3, nI_clamp (by omega), nI_clamp (by omega), (ih _ a e6).1 j (by omega), (ih _ b e7).1 j (by omega)]
        · rw [if_neg h3]
    refine ⟨fun j hj => ?_, hp⟩
    rw [nd_s]
    by_cases h1 : X t = true
    · rw [if_pos h1]
    · rw [if_neg h1]; unfold up; rw [if_neg (by omega)]; exact hp j (by omega)
/-- how many are new -/
theorem cn_new (C : Cl σ G Sp) {d t : Nat} {X : Nat → Bool} (hG : G d t) (h : ¬ X t = true) : cn (nd σ (d + 1) X t) 100 = cn (ndp σ d X t) 100 + 1 := by
  rw [nd_s, if_neg h]
  refine cn_up (fun z => h ?_) 100 (C d t hG).1
  rw [← (nd_gt C d X t hG).2 t (Nat.le_refl t)]; exact z
theorem cn_nd (d : Nat) (X : Nat → Bool) (t : Nat) : cn X 100 ≤ cn (nd σ d X t) 100 := cn_mono (fun j h => nd_in d X t j h) 100
end NDS
theorem BI.app {Sp : Nat → St → Prop} {A : Nat → Option Nat} {L N : List Itm} (h : BI Sp A L) : BI Sp A (L ++ N) := fun t a e => by
  obtain ⟨i, x, h1, h2, h3, h4⟩ := h t a e
  exact ⟨i, x, h1, by rw [List.getElem?_append_left (List.getElem?_eq_some_iff.mp h2).1]; exact h2, h3, h4⟩
theorem WB_end {ty : Nat → ClassId} {h : Nat → Nat} {σ : St} {cA : ClassId} {A : Nat → Option Nat} {px : va_W} {L : List Itm} {z : Itm} : List.Perm (Ws ty z.1 z.2 (WB ty h σ cA A px L)) (WB ty h σ cA A px (L ++ [z])) := (WB_on (List.perm_append_comm (l₁ := L) (l₂ := [z]))).symm
abbrev TA (ty : Nat → ClassId) (cA : ClassId) : List (ClassId × FieldType) := Ta ty ++ [(cA, .object "ClauseLedger$Sum")]
theorem pfx {L N M : List Itm} : ∃ K, (L ++ N) ++ M = L ++ K := ⟨N ++ M, List.append_assoc L N M⟩
