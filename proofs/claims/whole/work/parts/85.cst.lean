-- the greatest common divisor, on both sides; constants
theorem l_rng (a : Int64) : -9223372036854775808 ≤ a.toInt ∧ a.toInt ≤ 9223372036854775807 := by
  have h1 := Int64.le_toInt a
  have h2 := Int64.toInt_lt a
  omega
theorem l_div {a b : Int64} {x y : Nat} (ha : a.toInt = x) (hb : b.toInt = y) : (a / b).toInt = ((x / y : Nat) : Int) := by
  have h1 := l_rng a
  rw [Int64.toInt_div, ha, hb]
  have e : Int.tdiv (x : Int) (y : Int) = ((x / y : Nat) : Int) := by
    rw [Int.tdiv_eq_ediv_of_nonneg (by omega)]; rfl
  rw [e, Int.bmod_def]
  have h2 : x / y ≤ x := Nat.div_le_self x y
  generalize x / y = z at h2
  omega
theorem l_mod {a b : Int64} {x y : Nat} (ha : a.toInt = x) (hb : b.toInt = y) : (a - a / b * b).toInt = ((x % y : Nat) : Int) := by
  have h1 := l_rng a
  have d := l_div ha hb
  have h3 : x / y * y ≤ x := Nat.div_mul_le_self x y
  have m : (a / b * b).toInt = ((x / y * y : Nat) : Int) := by
    rw [l_mul (by rw [d, hb, ← Int.natCast_mul]; omega), d, hb, ← Int.natCast_mul]
  have h4 : x % y = x - x / y * y := by
    have := Nat.div_add_mod x y
    rw [Nat.mul_comm] at this
    omega
  rw [l_sub (by rw [m, ha]; omega), m, ha]
  omega
theorem i_div {a b : Int32} {x y : Nat} (ha : a.toInt = x) (hb : b.toInt = y) : (a / b).toInt = ((x / y : Nat) : Int) := by
  have h1 := i_rng a
  rw [Int32.toInt_div, ha, hb]
  have e : Int.tdiv (x : Int) (y : Int) = ((x / y : Nat) : Int) := by
    rw [Int.tdiv_eq_ediv_of_nonneg (by omega)]; rfl
  rw [e, Int.bmod_def]
  have h2 : x / y ≤ x := Nat.div_le_self x y
  generalize x / y = z at h2
  omega
theorem i_divs {a b : Int32} {x y : Nat} (ha : a.toInt = -(x : Int)) (hb : b.toInt = y) (hx : x < 2147483648) : (a / b).toInt = -((x / y : Nat) : Int) := by
  rw [Int32.toInt_div, ha, hb, Int.neg_tdiv]
  have e : Int.tdiv (x : Int) (y : Int) = ((x / y : Nat) : Int) := by
    rw [Int.tdiv_eq_ediv_of_nonneg (by omega)]; rfl
  rw [e, Int.bmod_def]
  have h2 : x / y ≤ x := Nat.div_le_self x y
  generalize x / y = z at h2
  omega
theorem i_mod {a b : Int32} {x y : Nat} (ha : a.toInt = x) (hb : b.toInt = y) : (a - a / b * b).toInt = ((x % y : Nat) : Int) := by
  have h1 := i_rng a
  have d := i_div ha hb
  have h3 : x / y * y ≤ x := Nat.div_mul_le_self x y
  have m : (a / b * b).toInt = ((x / y * y : Nat) : Int) := by
    rw [i_mul (by rw [d, hb, ← Int.natCast_mul]; omega), d, hb, ← Int.natCast_mul]
  have h4 : x % y = x - x / y * y := by
    have := Nat.div_add_mod x y
    rw [Nat.mul_comm] at this
    omega
  rw [i_sub (by rw [m, ha]; omega), m, ha]
  omega
theorem gcd_st {x y : Nat} : Nat.gcd x y = Nat.gcd y (x % y) := by
  rw [Nat.gcd_comm x y, Nat.gcd_rec y x, Nat.gcd_comm]
theorem gcd_half {x y m : Nat} (h : y < 2 ^ (m + 1)) (hr : 0 < x % y) (hy : 0 < y) : y % (x % y) < 2 ^ m := by
  have h1 : x % y < y := Nat.mod_lt x hy
  have h2 : y % (x % y) < x % y := Nat.mod_lt y hr
  have h3 : y % (x % y) ≤ y - x % y := by
    have := Nat.mod_le (y - x % y) (x % y)
    rw [← Nat.mod_eq_sub_mod (by omega)] at this
    exact this
  have h4 : 2 ^ (m + 1) = 2 * 2 ^ m := by rw [Nat.pow_succ, Nat.mul_comm]
  omega
theorem l_zero (b : Int64) : b = 0 ↔ b.toInt = 0 := by
  rw [← Int64.toInt_inj]; rfl
theorem i_zero (b : Int32) : b = 0 ↔ b.toInt = 0 := by
  rw [← Int32.toInt_inj]; rfl
theorem gc_C {σ : St} : ∀ (m x y : Nat) (a b : Int64) (c fuel : Nat), a.toInt = x → b.toInt = y → y < 2 ^ m → c + 2 * m ≤ 198 → 2 * m < fuel → k_CL_gcd_31 fuel a b (nI c) σ ∧ (f_CL_gcd_31 fuel a b (nI c) σ).toInt = ((Nat.gcd x y : Nat) : Int) := by
  have stop : ∀ (a b : Int64) (c fuel : Nat), b = 0 → c < 200 → k_CL_gcd_31 (fuel + 1) a b (nI c) σ ∧ f_CL_gcd_31 (fuel + 1) a b (nI c) σ = a := fun a b c fuel hb hc => by
    have h1 : ¬ (200 : Int32) ≤ nI c := fun z => by have := (nI_le_iff (a := 200) (by omega) (by omega)).mp z; omega
    have h2 : lg_cmp b 0 = 0 := (lg_cmp_eq b 0).mpr hb
    refine ⟨⟨fun _ => trivial, fun _ => ⟨fun _ => trivial, fun z => absurd h2 z⟩⟩, ?_⟩
    show (if (200 : Int32) ≤ nI c then a else (if lg_cmp b 0 = 0 then a else _)) = _
    rw [if_neg h1, if_pos h2]
  have go : ∀ (a b : Int64) (c fuel : Nat), ¬ b = 0 → c < 200 → f_CL_gcd_31 (fuel + 1) a b (nI c) σ = f_CL_gcd_31 fuel b (a - a / b * b) (nI (c + 1)) σ ∧ (k_CL_gcd_31 fuel b (a - a / b * b) (nI (c + 1)) σ → k_CL_gcd_31 (fuel + 1) a b (nI c) σ) := fun a b c fuel hb hc => by
    have h1 : ¬ (200 : Int32) ≤ nI c := fun z => by have := (nI_le_iff (a := 200) (by omega) (by omega)).mp z; omega
    have h2 : ¬ lg_cmp b 0 = 0 := fun z => hb ((lg_cmp_eq b 0).mp z)
    rw [nI_succ]
    refine ⟨?_, fun w => ⟨fun z => absurd z h1, fun _ => ⟨fun z => absurd z h2, fun _ => ⟨hb, w⟩⟩⟩⟩
    show (if (200 : Int32) ≤ nI c then a else (if lg_cmp b 0 = 0 then a else f_CL_gcd_31 fuel b (a - a / b * b) (nI c + 1) σ)) = _
    rw [if_neg h1, if_neg h2]
  intro m
  induction m with
  | zero =>
    intro x y a b c fuel ha hb hy hc hf
    obtain ⟨fuel, rfl⟩ : ∃ k, fuel = k + 1 := ⟨fuel - 1, by omega⟩
    have y0 : y = 0 := by
      have : 2 ^ 0 = 1 := rfl
      omega
    subst y0
    obtain ⟨k1, k2⟩ := stop a b c fuel ((l_zero b).mpr hb) (by omega)
    exact ⟨k1, by rw [k2, Nat.gcd_zero_right]; exact ha⟩
  | succ m ih =>
    intro x y a b c fuel ha hb hy hc hf
    obtain ⟨fuel, rfl⟩ : ∃ k, fuel = k + 1 := ⟨fuel - 1, by omega⟩
    by_cases y0 : y = 0
    · subst y0
      obtain ⟨k1, k2⟩ := stop a b c fuel ((l_zero b).mpr hb) (by omega)
      exact ⟨k1, by rw [k2, Nat.gcd_zero_right]; exact ha⟩
    · have nb : ¬ b = 0 := fun z => by
        have := (l_zero b).mp z
        rw [hb] at this; omega
      obtain ⟨g1, g2⟩ := go a b c fuel nb (by omega)
      have hr := l_mod ha hb
      rw [g1, gcd_st]
      obtain ⟨fuel, rfl⟩ : ∃ k, fuel = k + 1 := ⟨fuel - 1, by omega⟩
      by_cases r0 : x % y = 0
      · rw [r0] at hr ⊢
        obtain ⟨k1, k2⟩ := stop b (a - a / b * b) (c + 1) fuel ((l_zero _).mpr hr) (by omega)
        exact ⟨g2 k1, by rw [k2, Nat.gcd_zero_right]; exact hb⟩
      · have nr : ¬ (a - a / b * b) = 0 := fun z => by
          have := (l_zero _).mp z
          rw [hr] at this; omega
        obtain ⟨g3, g4⟩ := go b (a - a / b * b) (c + 1) fuel nr (by omega)
        have hr2 := l_mod hb hr
        obtain ⟨k1, k2⟩ := ih (x % y) (y % (x % y)) (a - a / b * b) _ (c + 1 + 1) fuel hr hr2 (gcd_half hy (by omega) (by omega)) (by omega) (by omega)
        rw [g3, gcd_st]
        exact ⟨g2 (g4 k1), k2⟩
/-- of numbers that may be below 0 -/
theorem gcd_C {σ : St} {a b : Int64} (ha : -9223372036854775808 < a.toInt) (hb : -9223372036854775808 < b.toInt) : k_CL_gcd a b σ ∧ (f_CL_gcd a b σ).toInt = ((Nat.gcd a.toInt.natAbs b.toInt.natAbs : Nat) : Int) := by
  have key : ∀ a b : Int64, 0 ≤ a.toInt → 0 ≤ b.toInt → k_CL_gcd_31 1000 a b 0 σ ∧ (f_CL_gcd_31 1000 a b 0 σ).toInt = ((Nat.gcd a.toInt.natAbs b.toInt.natAbs : Nat) : Int) := fun a b h1 h2 => by
    have h3 := l_rng b
    have := gc_C (σ := σ) 63 a.toInt.natAbs b.toInt.natAbs a b 0 1000 (by omega) (by omega) (by omega) (by omega) (by omega)
    rw [nI_0] at this; exact this
  have ng : ∀ a : Int64, -9223372036854775808 < a.toInt → (-a).toInt = -a.toInt := fun a h => by
    have := l_rng a
    rw [Int64.toInt_neg, Int.bmod_def]; omega
  have z0 : (0 : Int64).toInt = 0 := by decide
  have c1 : (0 ≤ lg_cmp a 0) ↔ 0 ≤ a.toInt := by rw [lg_cmp_ge, Int64.le_iff_toInt_le, z0]
  have c2 : (0 ≤ lg_cmp b 0) ↔ 0 ≤ b.toInt := by rw [lg_cmp_ge, Int64.le_iff_toInt_le, z0]
  have s2 : ∀ a' : Int64, 0 ≤ a'.toInt → k_CL_gcd_12 b a' σ ∧ (f_CL_gcd_12 b a' σ).toInt = ((Nat.gcd a'.toInt.natAbs b.toInt.natAbs : Nat) : Int) := fun a' h => by
    by_cases h2 : 0 ≤ b.toInt
    · obtain ⟨k1, k2⟩ := key a' b h h2
      refine ⟨⟨fun _ => k1, fun z => absurd (c2.mpr h2) z⟩, ?_⟩
      show (if 0 ≤ lg_cmp b 0 then f_CL_gcd_31 1000 a' b 0 σ else _).toInt = _
      rw [if_pos (c2.mpr h2)]; exact k2
    · obtain ⟨k1, k2⟩ := key a' (-b) h (by rw [ng b hb]; omega)
      refine ⟨⟨fun z => absurd (c2.mp z) h2, fun _ => k1⟩, ?_⟩
      show (if 0 ≤ lg_cmp b 0 then _ else f_CL_gcd_31 1000 a' (-b) 0 σ).toInt = _
      rw [if_neg (fun z => h2 (c2.mp z)), k2, ng b hb, Int.natAbs_neg]
  by_cases h1 : 0 ≤ a.toInt
  · obtain ⟨k1, k2⟩ := s2 a h1
    refine ⟨⟨fun _ => k1, fun z => absurd (c1.mpr h1) z⟩, ?_⟩
    show (if 0 ≤ lg_cmp a 0 then f_CL_gcd_12 b a σ else _).toInt = _
    rw [if_pos (c1.mpr h1)]; exact k2
  · obtain ⟨k1, k2⟩ := s2 (-a) (by rw [ng a ha]; omega)
    refine ⟨⟨fun z => absurd (c1.mp z) h1, fun _ => k1⟩, ?_⟩
    show (if 0 ≤ lg_cmp a 0 then _ else f_CL_gcd_12 b (-a) σ).toInt = _
    rw [if_neg (fun z => h1 (c1.mp z)), k2, ng a ha, Int.natAbs_neg]
theorem cm_M {σ : St} : ∀ (m x y : Nat) (a b : Int32) (fuel : Nat), a.toInt = x → b.toInt = y → y < 2 ^ m → 2 * m < fuel → k_Mo_common_4 fuel a b σ ∧ (f_Mo_common_4 fuel a b σ).toInt = ((Nat.gcd x y : Nat) : Int) := by
  have stop : ∀ (a b : Int32) (fuel : Nat), b = 0 → k_Mo_common_4 (fuel + 1) a b σ ∧ f_Mo_common_4 (fuel + 1) a b σ = a := fun a b fuel hb => by
    refine ⟨⟨fun _ => trivial, fun z => absurd hb z⟩, ?_⟩
    show (if b = 0 then a else _) = _
    rw [if_pos hb]
  have go : ∀ (a b : Int32) (fuel : Nat), ¬ b = 0 → f_Mo_common_4 (fuel + 1) a b σ = f_Mo_common_4 fuel b (a - a / b * b) σ ∧ (k_Mo_common_4 fuel b (a - a / b * b) σ → k_Mo_common_4 (fuel + 1) a b σ) := fun a b fuel hb => by
    refine ⟨?_, fun w => ⟨fun z => absurd z hb, fun _ => ⟨hb, w⟩⟩⟩
    show (if b = 0 then a else f_Mo_common_4 fuel b (a - a / b * b) σ) = _
    rw [if_neg hb]
  intro m
  induction m with
  | zero =>
    intro x y a b fuel ha hb hy hf
    obtain ⟨fuel, rfl⟩ : ∃ k, fuel = k + 1 := ⟨fuel - 1, by omega⟩
    have y0 : y = 0 := by
      have : 2 ^ 0 = 1 := rfl
      omega
    subst y0
    obtain ⟨k1, k2⟩ := stop a b fuel ((i_zero b).mpr hb)
    exact ⟨k1, by rw [k2, Nat.gcd_zero_right]; exact ha⟩
  | succ m ih =>
    intro x y a b fuel ha hb hy hf
    obtain ⟨fuel, rfl⟩ : ∃ k, fuel = k + 1 := ⟨fuel - 1, by omega⟩
    by_cases y0 : y = 0
    · subst y0
      obtain ⟨k1, k2⟩ := stop a b fuel ((i_zero b).mpr hb)
      exact ⟨k1, by rw [k2, Nat.gcd_zero_right]; exact ha⟩
    · have nb : ¬ b = 0 := fun z => by
        have := (i_zero b).mp z
        rw [hb] at this; omega
      obtain ⟨g1, g2⟩ := go a b fuel nb
      have hr := i_mod ha hb
      rw [g1, gcd_st]
      obtain ⟨fuel, rfl⟩ : ∃ k, fuel = k + 1 := ⟨fuel - 1, by omega⟩
      by_cases r0 : x % y = 0
      · rw [r0] at hr ⊢
        obtain ⟨k1, k2⟩ := stop b (a - a / b * b) fuel ((i_zero _).mpr hr)
        exact ⟨g2 k1, by rw [k2, Nat.gcd_zero_right]; exact hb⟩
      · have nr : ¬ (a - a / b * b) = 0 := fun z => by
          have := (i_zero _).mp z
          rw [hr] at this; omega
        obtain ⟨g3, g4⟩ := go b (a - a / b * b) fuel nr
        have hr2 := i_mod hb hr
        obtain ⟨k1, k2⟩ := ih (x % y) (y % (x % y)) (a - a / b * b) _ fuel hr hr2 (gcd_half hy (by omega) (by omega)) (by omega)
        rw [g3, gcd_st]
        exact ⟨g2 (g4 k1), k2⟩
/-- both sides divide by the same -/
theorem common_sim {σ τ : St} {p q : Int32} (hp : 0 ≤ p.toInt ∧ p.toInt ≤ 99999) (hq : 1 ≤ q.toInt ∧ q.toInt ≤ 99999) :
    k_CL_gcd p.toInt64 q.toInt64 σ ∧ k_Mo_common q p τ ∧ (f_CL_gcd p.toInt64 q.toInt64 σ).toInt32 = f_Mo_common q p τ ∧ 1 ≤ (f_Mo_common q p τ).toInt ∧ (f_Mo_common q p τ).toInt ≤ 99999 := by
  obtain ⟨a1, a2⟩ := gcd_C (σ := σ) (a := p.toInt64) (b := q.toInt64) (by rw [Int32.toInt_toInt64]; omega) (by rw [Int32.toInt_toInt64]; omega)
  rw [Int32.toInt_toInt64, Int32.toInt_toInt64] at a2
  obtain ⟨b1, b2⟩ := cm_M (σ := τ) 31 q.toInt.natAbs p.toInt.natAbs q p 1000 (by omega) (by omega) (by omega) (by omega)
  have g1 : 0 < Nat.gcd q.toInt.natAbs p.toInt.natAbs := Nat.gcd_pos_of_pos_left _ (by omega)
  have g2 : Nat.gcd q.toInt.natAbs p.toInt.natAbs ≤ q.toInt.natAbs := Nat.le_of_dvd (by omega) (Nat.gcd_dvd_left _ _)
  rw [Nat.gcd_comm] at a2
  have e : f_Mo_common q p τ = f_Mo_common_4 1000 q p τ := rfl
  refine ⟨a1, b1, ?_, by rw [e, b2]; omega, by rw [e, b2]; omega⟩
  apply Int32.toInt_inj.mp
  rw [Int64.toInt_toInt32, a2, e, b2, Int.bmod_def]
  omega
theorem kdig {σ : St} : ∀ (d c fuel : Nat) (x : Int32), c + d = 10 → d < fuel → k_Wr_digitsOf_7 fuel (nI c) x σ := by
  intro d
  induction d with
  | zero =>
    intro c fuel x hc hf
    obtain ⟨fuel, rfl⟩ : ∃ k, fuel = k + 1 := ⟨fuel - 1, by omega⟩
    have h : (10 : Int32) ≤ nI c := (nI_le_iff (a := 10) (by omega) (by omega)).mpr (by omega)
    exact ⟨fun _ => trivial, fun _ => ⟨fun _ => trivial, fun z => absurd h z⟩⟩
  | succ d ih =>
    intro c fuel x hc hf
    obtain ⟨fuel, rfl⟩ : ∃ k, fuel = k + 1 := ⟨fuel - 1, by omega⟩
    have := ih (c + 1) fuel (x / 10) (by omega) (by omega)
    rw [nI_succ] at this
    exact ⟨fun _ => trivial, fun _ => ⟨fun _ => trivial, fun _ => ⟨by decide, this⟩⟩⟩
theorem k_digits (x : Int32) (σ : St) : k_Wr_digitsOf x σ := by
  have := kdig (σ := σ) 9 1 1000 (x / 10) (by omega) (by omega)
  exact ⟨by decide, this⟩
theorem k_lenC (p q : Int32) (σ : St) : k_Wr_lengthOfConstant p q σ := by
  have h9 : ∀ s : Int32, k_Wr_lengthOfConstant_9 p q s σ := fun s => ⟨k_digits _ σ, fun _ => trivial, fun _ => ⟨k_digits _ σ, trivial⟩⟩
  exact ⟨fun _ => h9 0, fun _ => h9 1⟩
/-- a row has a constant's key just where it is that constant's -/
theorem key_rowC {σ τ : St} {n t : Nat} {p q : Int32} (hn : n ≤ 400) (ht : t < n) (h : TM n σ τ) (hp : -99999 ≤ p.toInt ∧ p.toInt ≤ 99999) (hq : 1 ≤ q.toInt ∧ q.toInt ≤ 99999) :
    σ.2 17 t = ky 2 (-1) p q ↔ fdM τ 2 (-1) (-1) (-1) p q t := by
  obtain ⟨⟨-, -, -, -, -, -, -, -, e9⟩, hW⟩ := h.2.2 t ht
  have hr := hW.rng (by omega)
  rw [e9]
  unfold kyR fdM
  by_cases h2 : τ.1 5 t = 2
  · rw [if_pos h2]
    obtain ⟨-, -, w3, -, -, -, hc, -⟩ := hW
    obtain ⟨c1, c2, -, c3, c4⟩ := hc h2
    rw [ky_inj (by decide) (by decide) (by omega) (by omega) (by decide) (by decide) (by omega) (by omega)]
    exact ⟨fun w => ⟨h2, c1, w3 c1, c2, w.2.2.1, w.2.2.2⟩, fun w => ⟨rfl, rfl, w.2.2.2.2.1, w.2.2.2.2.2⟩⟩
  · rw [if_neg h2, ky_inj hr.1 hr.2.1 hr.2.2.1 hr.2.2.2 (by decide) (by decide) (by omega) (by omega)]
    exact ⟨fun w => absurd w.1 h2, fun w => absurd w.1 h2⟩
/-- the class's state behind a new constant -/
def cNewC (σ : St) (n : Nat) (key : Int64) (p q ln : Int32) : St := sA (sA (sA (sA (sA (sA (sA (sA (sA (sA (sL (sF σ 6 11 (nI n + 1)) 17 (nI n) key) 7 (nI n) 2) 8 (nI n) 1) 9 (nI n) (-1)) 10 (nI n) (-1)) 11 (nI n) (-1)) 12 (nI n) p) 13 (nI n) q) 14 (nI n) 1) 15 (nI n) ln) 16 (nI n) 0
theorem mkC_new {σ : St} {n : Nat} {p q : Int32} (key : Int64) (hn : n ≤ 206) (hc : σ.1 6 11 = nI n) :
    k_Te_makeConstant_16 p q key (-1) σ ∧ ∃ σ', f_Te_makeConstant_16 p q key (-1) σ = (nI n, cNewC σ n key p q (f_Wr_lengthOfConstant p q σ')) := by
  have hin : vp_in (nI n) 208 := by rw [in_iff, i_nI (by omega)]; omega
  have h207 : ¬ (207 : Int32) < nI n := fun h => by
    have := (nI_lt_iff (a := 207) (by omega) (by omega)).mp h; omega
  let σa : St := sA (sA (sA (sL (sF σ 6 11 (nI n + 1)) 17 (nI n) key) 7 (nI n) 2) 8 (nI n) 1) 9 (nI n) (-1)
  have hA : f_Te_append key 2 1 (-1) σ = (nI n, σa) := by
    show f_Te_append_12 key 2 1 (-1) (if 207 < σ.1 6 11 then 207 else σ.1 6 11) σ = _
    rw [hc, if_neg h207]; rfl
  have kA : k_Te_append key 2 1 (-1) σ := by
    show k_Te_append_12 key 2 1 (-1) (if 207 < σ.1 6 11 then 207 else σ.1 6 11) σ
    rw [hc, if_neg h207]; exact ⟨hin, hin, hin, hin, trivial⟩
  refine ⟨⟨fun _ => ⟨kA, ?_⟩, fun z => absurd rfl z⟩, sA (sA (sA (sA (sA σa 10 (nI n) (-1)) 11 (nI n) (-1)) 12 (nI n) p) 13 (nI n) q) 14 (nI n) 1, ?_⟩
  · rw [hA]
    exact ⟨hin, hin, hin, hin, hin, k_lenC _ _ _, hin, hin, trivial⟩
  · show (if (-1 : Int32) = -1 then f_Te_makeConstant_33 p q (f_Te_append key 2 1 (-1) σ).1 (f_Te_append key 2 1 (-1) σ).2 else _) = _
    rw [if_pos rfl, hA]; rfl
theorem mkC_sim {σ τ : St} {n : Nat} {p q : Int32} (h : TM n σ τ) (hn : n ≤ 206) (hp : -99999 ≤ p.toInt ∧ p.toInt ≤ 99999) (hq : 1 ≤ q.toInt ∧ q.toInt ≤ 99999) :
    k_Te_makeConstant p q σ ∧ k_Mo_found 2 1 (-1) (-1) (-1) p q τ ∧
    ((∃ m, m < n ∧ fdM τ 2 (-1) (-1) (-1) p q m ∧ f_Te_makeConstant p q σ = (nI m, σ) ∧ f_Mo_found 2 1 (-1) (-1) (-1) p q τ = (nI m, τ)) ∨
     ((∃ σ', f_Te_makeConstant p q σ = (nI n, cNewC σ n (ky 2 (-1) p q) p q (f_Wr_lengthOfConstant p q σ'))) ∧ f_Mo_found 2 1 (-1) (-1) (-1) p q τ = (nI n, mNew τ n 2 1 (-1) (-1) (-1) p q 1 0))) := by
  have hM : ∀ t, t < n → (σ.2 17 t = ky 2 (-1) p q ↔ fdM τ 2 (-1) (-1) (-1) p q t) := fun t ht => key_rowC (by omega) ht h hp hq
  have e0 : f_Te_makeConstant p q σ = f_Te_makeConstant_16 p q (ky 2 (-1) p q) (f_Te_find_7 1000 (ky 2 (-1) p q) (nI 0) σ) σ := by
    show f_Te_makeConstant_16 p q (ky 2 (-1) p q) (f_Te_find_7 1000 (ky 2 (-1) p q) (if (0 : Int32) < 0 then 0 else 0) σ) σ = _
    rw [if_neg (by decide), nI_0]
  have k0 : k_Te_find_7 1000 (ky 2 (-1) p q) (nI 0) σ → k_Te_makeConstant_16 p q (ky 2 (-1) p q) (f_Te_find_7 1000 (ky 2 (-1) p q) (nI 0) σ) σ → k_Te_makeConstant p q σ := fun w1 w2 => by
    refine ⟨trivial, ?_, ?_⟩
    · show k_Te_find_7 1000 (ky 2 (-1) p q) (if (0 : Int32) < 0 then 0 else 0) σ
      rw [if_neg (by decide)]; rw [nI_0] at w1; exact w1
    · show k_Te_makeConstant_16 p q (ky 2 (-1) p q) (f_Te_find_7 1000 (ky 2 (-1) p q) (if (0 : Int32) < 0 then 0 else 0) σ) σ
      rw [if_neg (by decide)]; rw [nI_0] at w2; exact w2
  have m0 : f_Mo_found 2 1 (-1) (-1) (-1) p q τ = f_Mo_found_3 1000 2 1 (-1) (-1) (-1) p q (nI 0) τ := by rw [nI_0]; rfl
  have km0 : k_Mo_found_3 1000 2 1 (-1) (-1) (-1) p q (nI 0) τ → k_Mo_found 2 1 (-1) (-1) (-1) p q τ := fun h => by rw [nI_0] at h; exact h
  rcases first_of (fdM τ 2 (-1) (-1) (-1) p q) n with ⟨m, hm, h1, h2⟩ | hno
  · obtain ⟨g1, g2⟩ := find_hit h.1 (by omega) hm ((hM m hm).mpr h1) (fun i hi hi2 => h2 i hi ((hM i (by omega)).mp hi2)) m 0 1000 (by omega) (by omega)
    obtain ⟨g3, g4⟩ := fd_hit (s := 1) h.2.1 (by omega) hm h1 h2 m 0 1000 (by omega) (by omega)
    have n1 : ¬ nI m = -1 := nI_ne_m1 (by omega)
    refine ⟨k0 g1 ?_, km0 g3, Or.inl ⟨m, hm, h1, ?_, ?_⟩⟩
    · rw [g2]; exact ⟨fun h => absurd h n1, fun _ => trivial⟩
    · rw [e0, g2]
      show (if nI m = -1 then _ else (nI m, σ)) = _
      rw [if_neg n1]
    · rw [m0, g4]
  · obtain ⟨g1, g2⟩ := find_miss h.1 (by omega) (fun i hi hi2 => hno i hi ((hM i hi).mp hi2)) n 0 1000 (by omega) (by omega)
    obtain ⟨g5, g6⟩ := fd_new (τ := τ) (n := n) (s := 1) (p := p) (q := q) (k := 2) (l := -1) (a := -1) (b := -1) (by omega) h.2.1 (Or.inl rfl) (Or.inl rfl) (fun _ => rfl) (fun t ht => by have := (h.2.2 t ht).2.2.2.2.2.2.2.2.2.2.2; omega)
    obtain ⟨g3, g4⟩ := fd_miss (s := 1) h.2.1 (by omega) hno g5 n 0 1000 (by omega) (by omega)
    obtain ⟨g7, σ', g8⟩ := mkC_new (p := p) (q := q) (ky 2 (-1) p q) hn h.1
    have eD : dpW (τ.1 7) (-1) (-1) = 1 := by
      unfold dpW pO
      rw [if_pos rfl, if_neg (by decide)]; decide
    have eF : frW (τ.1 13) 2 (-1) (-1) (-1) = 0 := by
      unfold frW pO
      rw [if_neg (by decide), if_neg (by decide), if_pos rfl]; decide
    rw [eD, eF] at g6
    refine ⟨k0 g1 ?_, km0 g3, Or.inr ⟨⟨σ', ?_⟩, ?_⟩⟩
    · rw [g2]; exact g7
    · rw [e0, g2]; exact g8
    · rw [m0, g4, g6]
theorem cNewC_at {σ : St} {n : Nat} {key : Int64} {p q ln : Int32} (hn : n < 2147483648) : (∀ c, 7 ≤ c → c ≤ 16 → ∀ j, ¬ j = n → (cNewC σ n key p q ln).1 c j = σ.1 c j) ∧ ∀ j, ¬ j = n → (cNewC σ n key p q ln).2 17 j = σ.2 17 j := by
  have hcl : (nI n).toNatClampNeg = n := nI_clamp hn
  refine ⟨fun c h1 h2 j hj => ?_, fun j hj => ?_⟩
  · unfold cNewC
    have h6 : ¬ c = 6 := by omega
    simp only [sF1c, sA1c, sL1, hcl, hj, h6, and_false, false_and, if_false]
  · show vp_updL (σ.2 17) (nI n).toNatClampNeg key j = _
    unfold vp_updL
    rw [hcl, if_neg hj]
theorem TM.newC {σ τ : St} {n : Nat} {p q : Int32} (h : TM n σ τ) (hn : n ≤ 398) (hp : -99999 ≤ p.toInt ∧ p.toInt ≤ 99999) (hq : 1 ≤ q.toInt ∧ q.toInt ≤ 99999) (ln : Int32) :
    TM (n + 1) (cNewC σ n (ky 2 (-1) p q) p q ln) (mNew τ n 2 1 (-1) (-1) (-1) p q 1 0) := by
  have hcl : (nI n).toNatClampNeg = n := nI_clamp (by omega)
  refine ⟨by rw [nI_succ]; rfl, by rw [nI_succ]; rfl, fun t ht => ?_⟩
  by_cases e : t = n
  · subst e
    let τ' := mNew τ t 2 1 (-1) (-1) (-1) p q 1 0
    have up : ∀ (f : Nat → Int32) (v : Int32), upd f (nI t).toNatClampNeg v t = v := fun f v => by rw [upd_at, hcl, if_pos rfl]
    have r5 : τ'.1 5 t = 2 := up _ _
    have r6 : τ'.1 6 t = 1 := up _ _
    have r7 : τ'.1 7 t = 1 := up _ _
    have r8 : τ'.1 8 t = -1 := up _ _
    have r9 : τ'.1 9 t = -1 := up _ _
    have r10 : τ'.1 10 t = -1 := up _ _
    have r11 : τ'.1 11 t = p := up _ _
    have r12 : τ'.1 12 t = q := up _ _
    have r13 : τ'.1 13 t = 0 := up _ _
    refine ⟨⟨?_, ?_, ?_, ?_, ?_, ?_, ?_, ?_, ?_⟩, ?_⟩
    · show upd _ (nI t).toNatClampNeg 2 t = τ'.1 5 t; rw [up, r5]
    · show upd _ (nI t).toNatClampNeg 1 t = τ'.1 6 t; rw [up, r6]
    · show upd _ (nI t).toNatClampNeg (-1) t = τ'.1 10 t; rw [up, r10]
    · show upd _ (nI t).toNatClampNeg (-1) t = τ'.1 8 t; rw [up, r8]
    · show upd _ (nI t).toNatClampNeg (-1) t = τ'.1 9 t; rw [up, r9]
    · show upd _ (nI t).toNatClampNeg 1 t = τ'.1 7 t; rw [up, r7]
    · show upd _ (nI t).toNatClampNeg 0 t = τ'.1 13 t; rw [up, r13]
    · intro _
      refine ⟨?_, ?_⟩
      · show upd _ (nI t).toNatClampNeg p t = τ'.1 11 t; rw [up, r11]
      · show upd _ (nI t).toNatClampNeg q t = τ'.1 12 t; rw [up, r12]
    · show vp_updL _ (nI t).toNatClampNeg _ t = kyR τ' t
      unfold vp_updL kyR
      rw [hcl, if_pos rfl, r5, r11, r12, if_pos rfl]
    · show tmW τ' t
      unfold tmW
      rw [r5, r6, r7, r8, r9, r10, r11, r12, r13]
      refine ⟨Or.inl rfl, Or.inl rfl, fun _ => rfl, ⟨2, by omega, by decide +kernel⟩, by decide, ⟨1, by omega, by decide +kernel⟩, fun _ => ⟨rfl, rfl, rfl, hp, hq⟩, fun z => absurd rfl z, ?_, ?_, ?_⟩
      · unfold dpW pO
        rw [if_pos rfl, if_neg (by decide)]; decide
      · unfold frW pO
        rw [if_neg (by decide), if_neg (by decide), if_pos rfl]; decide
      · have e1 : (1 : Int32).toInt = 1 := by decide
        rw [e1]; omega
  · have ht' : t < n := by omega
    obtain ⟨⟨e1, e2, e3, e4, e5, e6, e7, e8, e9⟩, hW⟩ := h.2.2 t ht'
    have agM : ∀ c, 5 ≤ c → c ≤ 13 → ∀ j, j < n → (mNew τ n 2 1 (-1) (-1) (-1) p q 1 0).1 c j = τ.1 c j := fun c h1 h2 j hj => mNew_at (by omega) c h1 h2 j (by omega)
    have agC := cNewC_at (σ := σ) (n := n) (key := ky 2 (-1) p q) (p := p) (q := q) (ln := ln) (by omega)
    refine ⟨?_, hW.cong ht' (by omega) agM⟩
    unfold tmE kyR
    rw [agC.1 7 (by omega) (by omega) t e, agC.1 8 (by omega) (by omega) t e, agC.1 9 (by omega) (by omega) t e, agC.1 10 (by omega) (by omega) t e, agC.1 11 (by omega) (by omega) t e, agC.1 12 (by omega) (by omega) t e, agC.1 13 (by omega) (by omega) t e, agC.1 14 (by omega) (by omega) t e, agC.1 16 (by omega) (by omega) t e, agC.2 t e,
      agM 5 (by omega) (by omega) t ht', agM 6 (by omega) (by omega) t ht', agM 7 (by omega) (by omega) t ht', agM 8 (by omega) (by omega) t ht', agM 9 (by omega) (by omega) t ht', agM 10 (by omega) (by omega) t ht', agM 11 (by omega) (by omega) t ht', agM 12 (by omega) (by omega) t ht', agM 13 (by omega) (by omega) t ht']
    exact ⟨e1, e2, e3, e4, e5, e6, e7, e8, e9⟩
/-- one more constant: the same number on both sides -/
theorem TT.makeC {σ τ : St} {n0 n : Nat} {p q : Int32} (h : TT n0 n σ τ) (hn : n ≤ 206) (hp : -99999 ≤ p.toInt ∧ p.toInt ≤ 99999) (hq : 1 ≤ q.toInt ∧ q.toInt ≤ 99999) :
    k_Te_makeConstant p q σ ∧ k_Mo_found 2 1 (-1) (-1) (-1) p q τ ∧ ∃ m n' σ' τ', f_Te_makeConstant p q σ = (nI m, σ') ∧ f_Mo_found 2 1 (-1) (-1) (-1) p q τ = (nI m, τ') ∧ m < n' ∧ n ≤ n' ∧ n' ≤ n + 1 ∧ TT n0 n' σ' τ' ∧
      rwM n τ τ' ∧ (∀ c, c < 6 ∨ 17 < c → σ'.1 c = σ.1 c) ∧ σ'.1 6 12 = σ.1 6 12 ∧ (∀ c, 13 < c ∨ (1 ≤ c ∧ c < 5) → τ'.1 c = τ.1 c) ∧ τ'.2 = τ.2 ∧ ∀ j, ¬ j = 8 → τ'.1 0 j = τ.1 0 j := by
  have h0 := h
  obtain ⟨h1, h2, hT, hL, hK, e12, e9, hD⟩ := h
  obtain ⟨k1, k2, hc⟩ := mkC_sim hT hn hp hq
  refine ⟨k1, k2, ?_⟩
  rcases hc with ⟨m, hm, hM, f1, f2⟩ | ⟨⟨σl, f1⟩, f2⟩
  · exact ⟨m, n, σ, τ, f1, f2, hm, Nat.le_refl n, Nat.le_succ n, h0, fun _ _ _ _ _ => rfl, fun _ _ => rfl, rfl, fun _ _ => rfl, rfl, fun _ _ => rfl⟩
  · have hcl : (nI n).toNatClampNeg = n := nI_clamp (by omega)
    have up : ∀ (f : Nat → Int32) (v : Int32), upd f (nI n).toNatClampNeg v n = v := fun f v => by rw [upd_at, hcl, if_pos rfl]
    have agM : ∀ c, 5 ≤ c → c ≤ 13 → ∀ j, j < n → (mNew τ n 2 1 (-1) (-1) (-1) p q 1 0).1 c j = τ.1 c j := fun c q1 q2 j hj => mNew_at (by omega) c q1 q2 j (by omega)
    have agC := cNewC_at (σ := σ) (n := n) (key := ky 2 (-1) p q) (p := p) (q := q) (ln := f_Wr_lengthOfConstant p q σl) (by omega)
    have hT' := hT.newC (by omega) hp hq (f_Wr_lengthOfConstant p q σl)
    have r5 : (mNew τ n 2 1 (-1) (-1) (-1) p q 1 0).1 5 n = 2 := up _ _
    have r6 : (mNew τ n 2 1 (-1) (-1) (-1) p q 1 0).1 6 n = 1 := up _ _
    have r7 : (mNew τ n 2 1 (-1) (-1) (-1) p q 1 0).1 7 n = 1 := up _ _
    have r11 : (mNew τ n 2 1 (-1) (-1) (-1) p q 1 0).1 11 n = p := up _ _
    have r12 : (mNew τ n 2 1 (-1) (-1) (-1) p q 1 0).1 12 n = q := up _ _
    refine ⟨n, n + 1, _, _, f1, f2, by omega, by omega, by omega, ⟨h1, by omega, hT', ?_, ?_, e12, e9, ?_⟩, agM, fun c hc => ?_, rfl, fun c hc => ?_, rfl, fun j hj => ?_⟩
    · -- lengths
      intro t ht
      by_cases e : t = n
      · subst e
        rw [r5]
        refine ⟨fun z => absurd rfl z, fun _ σ' => ?_⟩
        rw [r11, r12]
        show upd _ (nI t).toNatClampNeg _ t = _
        rw [up]; exact lenC_any _ _ _ _
      · have ht' : t < n := by omega
        obtain ⟨q1, q2⟩ := hL t ht'
        have hW := (hT.2.2 t ht').2
        rw [agM 5 (by omega) (by omega) t ht', agM 8 (by omega) (by omega) t ht', agM 9 (by omega) (by omega) t ht', agM 11 (by omega) (by omega) t ht', agM 12 (by omega) (by omega) t ht', agC.1 15 (by omega) (by omega) t e,
          lnW_cong hW.1 hW.2.1 (Nat.le_of_lt ht') (by omega) (fun j hj => agC.1 15 (by omega) (by omega) j (by omega))]
        exact ⟨q1, q2⟩
    · -- kinds
      refine ⟨fun t ht => ?_, ?_⟩
      · by_cases e : t = n
        · subst e
          unfold kdW
          rw [r5]
          exact ⟨fun z => absurd z (by decide), fun z => absurd z (by decide), fun z => absurd z (by decide), fun z => absurd z (by decide), fun z => absurd z (by decide), fun z => absurd z (by decide), fun z => absurd z (by decide), fun z => absurd z (by decide), fun z => absurd z (by decide), fun z => absurd z (by decide)⟩
        · have ht' : t < n := by omega
          have hW := (hT.2.2 t ht').2
          exact (hK.1 t ht').cong ht' (by omega) hW.1 hW.2.1 agM
      · obtain ⟨ny, y1, y2, y3⟩ := hK.2
        refine ⟨ny, y1, y2, fun t ht => ?_⟩
        by_cases e : t = n
        · subst e
          rw [r5]; exact ⟨fun z => absurd z (by decide), fun z => absurd z (by decide)⟩
        · have ht' : t < n := by omega
          rw [agM 5 (by omega) (by omega) t ht', agM 6 (by omega) (by omega) t ht', agM 8 (by omega) (by omega) t ht', agM 9 (by omega) (by omega) t ht', agM 10 (by omega) (by omega) t ht']
          exact y3 t ht'
    · -- depth
      rcases hD with ⟨d1, d2⟩ | ⟨d1, t, d2, d3, d4⟩
      · refine Or.inl ⟨d1, fun t q1 q2 => ?_⟩
        by_cases e : t = n
        · rw [e, r7]; decide
        · rw [agM 7 (by omega) (by omega) t (by omega)]; exact d2 t q1 (by omega)
      · exact Or.inr ⟨d1, t, d2, by omega, by rw [agM 7 (by omega) (by omega) t d3]; exact d4⟩
    · funext j
      unfold cNewC
      have q6 : ¬ c = 6 := by omega
      have q7 : ¬ c = 7 := by omega
      have q8 : ¬ c = 8 := by omega
      have q9 : ¬ c = 9 := by omega
      have q10 : ¬ c = 10 := by omega
      have q11 : ¬ c = 11 := by omega
      have q12 : ¬ c = 12 := by omega
      have q13 : ¬ c = 13 := by omega
      have q14 : ¬ c = 14 := by omega
      have q15 : ¬ c = 15 := by omega
      have q16 : ¬ c = 16 := by omega
      simp only [sF1c, sA1c, sL1, q6, q7, q8, q9, q10, q11, q12, q13, q14, q15, q16, false_and, if_false]
    · funext j
      unfold mNew
      have q0 : ¬ c = 0 := by omega
      have q5 : ¬ c = 5 := by omega
      have q6 : ¬ c = 6 := by omega
      have q7 : ¬ c = 7 := by omega
      have q8 : ¬ c = 8 := by omega
      have q9 : ¬ c = 9 := by omega
      have q10 : ¬ c = 10 := by omega
      have q11 : ¬ c = 11 := by omega
      have q12 : ¬ c = 12 := by omega
      have q13 : ¬ c = 13 := by omega
      simp only [sF1c, sA1c, q0, q5, q6, q7, q8, q9, q10, q11, q12, q13, false_and, if_false]
    · show pu (τ.1 0) 8 _ j = _
      rw [pu_at, if_neg hj]
