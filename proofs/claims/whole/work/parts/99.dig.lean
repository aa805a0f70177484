-- numbers as letters
theorem chr_eq {v : Int32} (h0 : 0 ≤ v.toInt) (h1 : v.toInt ≤ 255) : (v.toUInt32 % 65536).toInt32 = v := (pk_vc v).symm.trans (char_eq h0 h1)
/-- the digit at a place -/
def dC (j v : Nat) : Int32 := nI (48 + v / 10 ^ j % 10)
theorem dC_rng (j v : Nat) : 48 ≤ (dC j v).toInt ∧ (dC j v).toInt ≤ 57 := by
  unfold dC
  have : v / 10 ^ j % 10 < 10 := Nat.mod_lt _ (by omega)
  generalize v / 10 ^ j % 10 = w at this
  rw [i_nI (by omega)]; omega
def numT : Nat → Nat → List Int32
  | 0, v => [dC 0 v]
  | j + 1, v => dC (j + 1) v :: numT j v
theorem numT_len (j v : Nat) : (numT j v).length = j + 1 := by
  induction j with
  | zero => rfl
  | succ j ih => show (numT j v).length + 1 = _; rw [ih]
theorem numT_get (j v : Nat) : ∀ x, x ≤ j → (numT j v).getD x 0 = dC (j - x) v := by
  induction j with
  | zero =>
    intro x hx
    obtain rfl : x = 0 := by omega
    rfl
  | succ j ih =>
    intro x hx
    cases x with
    | zero => rfl
    | succ x =>
      show (numT j v).getD x 0 = _
      rw [ih x (by omega), show j + 1 - (x + 1) = j - x by omega]
def dgt (j v : Nat) : Prop := v < 10 ^ (j + 1) ∧ (j = 0 ∨ 10 ^ j ≤ v) ∧ j ≤ 4
def plc (v : Nat) : Nat := if v < 10 then 0 else (if v < 100 then 1 else (if v < 1000 then 2 else (if v < 10000 then 3 else 4)))
theorem plc_dgt {v : Nat} (h : v ≤ 99999) : dgt (plc v) v := by
  have p1 : (10 : Nat) ^ 1 = 10 := rfl
  have p2 : (10 : Nat) ^ 2 = 100 := rfl
  have p3 : (10 : Nat) ^ 3 = 1000 := rfl
  have p4 : (10 : Nat) ^ 4 = 10000 := rfl
  have p5 : (10 : Nat) ^ 5 = 100000 := rfl
  unfold plc dgt
  by_cases h1 : v < 10
  · rw [if_pos h1]; exact ⟨by omega, Or.inl rfl, by omega⟩
  rw [if_neg h1]
  by_cases h2 : v < 100
  · rw [if_pos h2]; exact ⟨by omega, Or.inr (by omega), by omega⟩
  rw [if_neg h2]
  by_cases h3 : v < 1000
  · rw [if_pos h3]; exact ⟨by omega, Or.inr (by omega), by omega⟩
  rw [if_neg h3]
  by_cases h4 : v < 10000
  · rw [if_pos h4]; exact ⟨by omega, Or.inr (by omega), by omega⟩
  rw [if_neg h4]
  exact ⟨by omega, Or.inr (by omega), by omega⟩
theorem p10_le {j : Nat} (h : j ≤ 4) : 1 ≤ 10 ^ j ∧ 10 ^ j ≤ 10000 := by
  have h2 : (10 : Nat) ^ j ≤ 10 ^ 4 := Nat.pow_le_pow_right (by omega) h
  have h3 : (10 : Nat) ^ 4 = 10000 := rfl
  exact ⟨Nat.one_le_pow _ _ (by omega), by omega⟩
theorem nI_div {a b : Nat} (ha : a < 2147483648) (hb : b < 2147483648) : nI a / nI b = nI (a / b) := by
  apply Int32.toInt_inj.mp
  have h2 : a / b ≤ a := Nat.div_le_self a b
  rw [i_div (i_nI ha) (i_nI hb), i_nI (by omega)]
theorem nI_mod10 {a : Nat} (ha : a < 2147483648) : nI a - nI a / 10 * 10 = nI (a % 10) := by
  apply Int32.toInt_inj.mp
  have h10 : (10 : Int32).toInt = ((10 : Nat) : Int) := by decide
  rw [i_mod (i_nI ha) h10, i_nI (by omega)]
theorem nI_div10 {a : Nat} (ha : a < 2147483648) : nI a / 10 = nI (a / 10) := by
  have := nI_div (b := 10) ha (by omega)
  rw [show nI 10 = 10 by decide +kernel] at this; exact this
theorem nI_48 (a : Nat) : 48 + nI a = nI (48 + a) := by
  have := nI_plus 48 a
  rw [show nI 48 = 48 by decide +kernel] at this; exact this
section DIG
variable {σ : St}
theorem dgo : ∀ (j c r fuel : Nat), (j = 0 → r = 0) → (0 < j → 10 ^ (j - 1) ≤ r) → r < 10 ^ j → c + j ≤ 9 → j < fuel → r ≤ 99999 → f_Wr_digitsOf_7 fuel (nI c) (nI r) σ = nI (c + j) := by
  intro j
  induction j with
  | zero =>
    intro c r fuel h1 h2 h3 h4 h5 h6
    obtain ⟨fuel, rfl⟩ : ∃ k, fuel = k + 1 := ⟨fuel - 1, by omega⟩
    rw [h1 rfl]
    show (if nI 0 ≤ 0 then nI c else _) = _
    rw [if_pos (by rw [nI_0]; decide)]; rfl
  | succ j ih =>
    intro c r fuel h1 h2 h3 h4 h5 h6
    obtain ⟨fuel, rfl⟩ : ∃ k, fuel = k + 1 := ⟨fuel - 1, by omega⟩
    have h2 : 10 ^ j ≤ r := h2 (by omega)
    have p1 : 1 ≤ 10 ^ j := Nat.one_le_pow _ _ (by omega)
    have n1 : ¬ nI r ≤ 0 := nI_nle (by omega) (by omega)
    have n2 : ¬ (10 : Int32) ≤ nI c := fun z => by have := (nI_le_iff (a := 10) (by omega) (by omega)).mp z; omega
    have h7 : r / 10 ≤ r := Nat.div_le_self _ _
    rw [Nat.pow_succ] at h3
    have g := ih (c + 1) (r / 10) fuel (fun z => by rw [z] at h3; omega) (fun z => by
      obtain ⟨i, rfl⟩ : ∃ i, j = i + 1 := ⟨j - 1, by omega⟩
      rw [Nat.pow_succ] at h2
      show 10 ^ i ≤ r / 10
      omega) (by omega) (by omega) (by omega) (by omega)
    show (if nI r ≤ 0 then nI c else (if (10 : Int32) ≤ nI c then nI c else f_Wr_digitsOf_7 fuel (nI c + 1) (nI r / 10) σ)) = _
    rw [if_neg n1, if_neg n2, nI_div10 (by omega), ← nI_succ, g, show c + 1 + j = c + (j + 1) by omega]
theorem digitsOf_eq {j v : Nat} (h : dgt j v) (hv : v ≤ 99999) : f_Wr_digitsOf (nI v) σ = nI (j + 1) := by
  obtain ⟨h1, h2, h3⟩ := h
  show f_Wr_digitsOf_7 1000 1 (nI v / 10) σ = _
  rw [nI_div10 (by omega), show (1 : Int32) = nI 1 by decide +kernel]
  rw [Nat.pow_succ] at h1
  have := dgo (σ := σ) j 1 (v / 10) 1000 (fun z => by rw [z] at h1; omega) (fun z => by
    obtain ⟨i, rfl⟩ : ∃ i, j = i + 1 := ⟨j - 1, by omega⟩
    have h2 := h2.resolve_left (by omega)
    rw [Nat.pow_succ] at h2
    show 10 ^ i ≤ v / 10
    omega) (by omega) (by omega) (by omega) (by omega)
  rw [this, Nat.add_comm]
theorem dgd : ∀ (e place i r fuel : Nat), i + e = place → e < fuel → place ≤ 100 → r ≤ 99999 → k_Wr_digit_4 fuel (nI place) (nI r) (nI i) σ ∧ f_Wr_digit_4 fuel (nI place) (nI r) (nI i) σ = dC e r := by
  intro e
  induction e with
  | zero =>
    intro place i r fuel h1 h2 h3 h4
    obtain ⟨fuel, rfl⟩ : ∃ k, fuel = k + 1 := ⟨fuel - 1, by omega⟩
    have l : nI place ≤ nI i := (nI_le_iff (by omega) (by omega)).mpr (by omega)
    have ev : 48 + (nI r - nI r / 10 * 10) = nI (48 + r % 10) := by rw [nI_mod10 (by omega), nI_48]
    have ec : ((48 + (nI r - nI r / 10 * 10)).toUInt32 % 65536).toInt32 = nI (48 + r % 10) := by
      rw [ev]; exact chr_eq (by rw [i_nI (by omega)]; omega) (by rw [i_nI (by omega)]; omega)
    refine ⟨⟨fun _ => ⟨by decide, ?_, trivial⟩, fun z => absurd l z⟩, ?_⟩
    · rw [ec]; exact nar_char (by rw [i_nI (by omega)]; omega) (by rw [i_nI (by omega)]; omega)
    · show (if nI place ≤ nI i then ((48 + (nI r - nI r / 10 * 10)).toUInt32 % 65536).toInt32 else _) = _
      rw [if_pos l, ec]
      unfold dC
      rw [Nat.pow_zero, Nat.div_one]
  | succ e ih =>
    intro place i r fuel h1 h2 h3 h4
    obtain ⟨fuel, rfl⟩ : ∃ k, fuel = k + 1 := ⟨fuel - 1, by omega⟩
    have l : ¬ nI place ≤ nI i := fun z => by have := (nI_le_iff (by omega) (by omega)).mp z; omega
    have h7 : r / 10 ≤ r := Nat.div_le_self _ _
    obtain ⟨g1, g2⟩ := ih place (i + 1) (r / 10) fuel (by omega) (by omega) h3 (by omega)
    rw [nI_succ, ← nI_div10 (by omega)] at g1 g2
    refine ⟨⟨fun z => absurd z l, fun _ => ⟨by decide, g1⟩⟩, ?_⟩
    show (if nI place ≤ nI i then _ else f_Wr_digit_4 fuel (nI place) (nI r / 10) (nI i + 1) σ) = _
    rw [if_neg l, g2]
    unfold dC
    rw [Nat.div_div_eq_div_mul, Nat.pow_succ, Nat.mul_comm]
theorem digit_eq {place v : Nat} (hp : place ≤ 100) (hv : v ≤ 99999) : k_Wr_digit (nI v) (nI place) σ ∧ f_Wr_digit (nI v) (nI place) σ = dC place v := by
  have := dgd (σ := σ) place place 0 v 1000 (by omega) (by omega) hp hv
  rw [nI_0] at this; exact this
end DIG
/-- letters written one after the other -/
def wr (L : List Int32) (τ : St) : St := L.foldl (fun s c => f_Mo_write c s) τ
theorem wr_nil (τ : St) : wr [] τ = τ := rfl
theorem wr_cons (c : Int32) (L : List Int32) (τ : St) : wr (c :: L) τ = wr L (f_Mo_write c τ) := rfl
theorem wr_app (L M : List Int32) (τ : St) : wr (L ++ M) τ = wr M (wr L τ) := List.foldl_append ..
theorem kW (c : Int32) (τ : St) : k_Mo_write c τ := ⟨fun _ => trivial, fun _ => trivial⟩
theorem wn18 : ∀ (j fuel v : Nat) (τ : St), j + 1 < fuel → v ≤ 99999 → j ≤ 4 → k_Mo_writeNumber_18 fuel (nI v) (nI (10 ^ j)) τ ∧ f_Mo_writeNumber_18 fuel (nI v) (nI (10 ^ j)) τ = wr (numT j v) τ := by
  have step : ∀ (j v : Nat), v ≤ 99999 → j ≤ 4 → 48 + (nI v / nI (10 ^ j) - nI v / nI (10 ^ j) / 10 * 10) = dC j v := fun j v hv hj => by
    have := p10_le hj
    have h2 : v / 10 ^ j ≤ v := Nat.div_le_self _ _
    rw [nI_div (by omega) (by omega), nI_mod10 (by omega), nI_48]; rfl
  intro j
  induction j with
  | zero =>
    intro fuel v τ h1 hv hj
    obtain ⟨fuel, rfl⟩ : ∃ k, fuel = k + 2 := ⟨fuel - 2, by omega⟩
    have e := step 0 v hv hj
    have n0 : ¬ nI (10 ^ 0) ≤ 0 := nI_nle (by omega) (by omega)
    have z0 : ¬ nI (10 ^ 0) = 0 := fun z => n0 (by rw [z]; decide)
    have u0 : nI (10 ^ 0) / 10 = 0 := by rw [nI_div10 (by omega)]; exact nI_0
    have l0 : (0 : Int32) ≤ 0 := by decide
    refine ⟨⟨fun z => absurd z n0, fun _ => ⟨z0, by decide, kW _ _, by decide, ?_⟩⟩, ?_⟩
    · rw [u0]; exact ⟨fun _ => trivial, fun z => absurd l0 z⟩
    · show (if nI (10 ^ 0) ≤ 0 then _ else f_Mo_writeNumber_18 (fuel + 1) (nI v) (nI (10 ^ 0) / 10) (f_Mo_write (48 + (nI v / nI (10 ^ 0) - nI v / nI (10 ^ 0) / 10 * 10)) τ)) = _
      rw [if_neg n0, u0, e]
      show (if (0 : Int32) ≤ 0 then _ else _) = _
      rw [if_pos l0]; rfl
  | succ j ih =>
    intro fuel v τ h1 hv hj
    obtain ⟨fuel, rfl⟩ : ∃ k, fuel = k + 1 := ⟨fuel - 1, by omega⟩
    have e := step (j + 1) v hv hj
    have p := p10_le hj
    have n0 : ¬ nI (10 ^ (j + 1)) ≤ 0 := nI_nle (by omega) (by omega)
    have z0 : ¬ nI (10 ^ (j + 1)) = 0 := fun z => n0 (by rw [z]; decide)
    have u0 : nI (10 ^ (j + 1)) / 10 = nI (10 ^ j) := by
      rw [nI_div10 (by omega), Nat.pow_succ, Nat.mul_div_cancel _ (by omega)]
    obtain ⟨g1, g2⟩ := ih fuel v (f_Mo_write (dC (j + 1) v) τ) (by omega) hv (by omega)
    refine ⟨⟨fun z => absurd z n0, fun _ => ⟨z0, by decide, kW _ _, by decide, ?_⟩⟩, ?_⟩
    · rw [u0, e]; exact g1
    · show (if nI (10 ^ (j + 1)) ≤ 0 then _ else f_Mo_writeNumber_18 fuel (nI v) (nI (10 ^ (j + 1)) / 10) (f_Mo_write (48 + (nI v / nI (10 ^ (j + 1)) - nI v / nI (10 ^ (j + 1)) / 10 * 10)) τ)) = _
      rw [if_neg n0, u0, e, g2]; rfl
theorem wn2 {j v : Nat} (h : dgt j v) (hv : v ≤ 99999) (τ : St) : ∀ (e i fuel : Nat), i + e = j → e < fuel → k_Mo_writeNumber_2 fuel (nI v) (nI (10 ^ i)) τ ∧ f_Mo_writeNumber_2 fuel (nI v) (nI (10 ^ i)) τ = wr (numT j v) τ := by
  obtain ⟨h1, h2, h3⟩ := h
  intro e
  induction e with
  | zero =>
    intro i fuel hi hf
    obtain ⟨fuel, rfl⟩ : ∃ k, fuel = k + 1 := ⟨fuel - 1, by omega⟩
    obtain rfl : i = j := by omega
    have p := p10_le h3
    have z0 : ¬ nI (10 ^ i) = 0 := fun z => by
      have := nI_nle (n := 10 ^ i) (by omega) (by omega)
      exact this (by rw [z]; decide)
    have l9 : nI v / nI (10 ^ i) ≤ 9 := by
      rw [nI_div (by omega) (by omega)]
      have : v / 10 ^ i ≤ 9 := by
        rw [Nat.pow_succ] at h1
        have := Nat.div_lt_of_lt_mul h1
        omega
      exact (nI_le_iff (b := 9) (by omega) (by omega)).mpr this
    obtain ⟨g1, g2⟩ := wn18 i 1000 v τ (by omega) hv h3
    refine ⟨⟨z0, fun _ => g1, fun z => absurd l9 z⟩, ?_⟩
    show (if nI v / nI (10 ^ i) ≤ 9 then f_Mo_writeNumber_18 1000 (nI v) (nI (10 ^ i)) τ else _) = _
    rw [if_pos l9, g2]
  | succ e ih =>
    intro i fuel hi hf
    obtain ⟨fuel, rfl⟩ : ∃ k, fuel = k + 1 := ⟨fuel - 1, by omega⟩
    have p := p10_le (j := i) (by omega)
    have z0 : ¬ nI (10 ^ i) = 0 := fun z => by
      have := nI_nle (n := 10 ^ i) (by omega) (by omega)
      exact this (by rw [z]; decide)
    have h2 : 10 ^ j ≤ v := h2.resolve_left (by omega)
    have hd : v / 10 ^ i ≤ v := Nat.div_le_self _ _
    have l9 : ¬ nI v / nI (10 ^ i) ≤ 9 := fun z => by
      rw [nI_div (by omega) (by omega)] at z
      have z := (nI_le_iff (b := 9) (by omega) (by omega)).mp z
      have w : 10 ^ (i + 1) ≤ 10 ^ j := Nat.pow_le_pow_right (by omega) (by omega)
      rw [Nat.pow_succ] at w
      have w2 : 10 ≤ v / 10 ^ i := by
        rw [Nat.le_div_iff_mul_le (by omega)]
        have := Nat.mul_comm (10 ^ i) 10
        omega
      omega
    have u : nI (10 ^ i) * 10 = nI (10 ^ (i + 1)) := by
      apply Int32.toInt_inj.mp
      have e10 : (10 : Int32).toInt = 10 := by decide
      rw [i_mul (by rw [i_nI (by omega), e10]; omega), i_nI (by omega), e10, Nat.pow_succ, i_nI (by omega)]
      omega
    obtain ⟨g1, g2⟩ := ih (i + 1) fuel (by omega) (by omega)
    rw [← u] at g1 g2
    refine ⟨⟨z0, fun z => absurd z l9, fun _ => g1⟩, ?_⟩
    show (if nI v / nI (10 ^ i) ≤ 9 then _ else f_Mo_writeNumber_2 fuel (nI v) (nI (10 ^ i) * 10) τ) = _
    rw [if_neg l9, g2]
theorem wnum {v : Nat} (hv : v ≤ 99999) (τ : St) : k_Mo_writeNumber (nI v) τ ∧ f_Mo_writeNumber (nI v) τ = wr (numT (plc v) v) τ := by
  have h := plc_dgt hv
  have h3 := h.2.2
  have := wn2 h hv τ (plc v) 0 1000 (by omega) (by omega)
  rw [show nI (10 ^ 0) = 1 by decide +kernel] at this
  exact this
