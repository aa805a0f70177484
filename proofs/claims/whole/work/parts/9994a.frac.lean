-- fractions: exact, in lowest terms, within bounds; both sides' divisions
abbrev Fr : Type := Int × Int
def lo (p q : Int) : Fr := (p.tdiv ((Nat.gcd p.natAbs q.natAbs : Nat) : Int), q.tdiv ((Nat.gcd p.natAbs q.natAbs : Nat) : Int))
def rd (p q : Int) : Option Fr := if -1000000000 ≤ (lo p q).1 ∧ (lo p q).1 ≤ 1000000000 ∧ (lo p q).2 ≤ 1000000000 then some (lo p q) else none
def VF (f : Fr) : Prop := -1000000000 ≤ f.1 ∧ f.1 ≤ 1000000000 ∧ 1 ≤ f.2 ∧ f.2 ≤ 1000000000 ∧ Nat.gcd f.1.natAbs f.2.natAbs = 1
theorem VF01 : VF (0, 1) := ⟨by decide, by decide, by decide, by decide, by decide⟩
theorem rd_id {f : Fr} (h : VF f) : rd f.1 f.2 = some f := by
  obtain ⟨h1, h2, h3, h4, h5⟩ := h
  have e : lo f.1 f.2 = f := by
    unfold lo
    rw [h5]
    show (f.1.tdiv 1, f.2.tdiv 1) = f
    rw [Int.tdiv_one, Int.tdiv_one]
  unfold rd
  rw [e, if_pos ⟨h1, h2, h4⟩]
theorem tdiv_nn {x y : Nat} : Int.tdiv (x : Int) (y : Int) = ((x / y : Nat) : Int) := by
  rw [Int.tdiv_eq_ediv_of_nonneg (by omega)]; rfl
theorem lo_den {p q : Int} (hq : 1 ≤ q) : 1 ≤ (lo p q).2 := by
  have g0 : 0 < Nat.gcd p.natAbs q.natAbs := Nat.gcd_pos_of_pos_right _ (by omega)
  have e : q = ((q.natAbs : Nat) : Int) := by omega
  show 1 ≤ q.tdiv ((Nat.gcd p.natAbs q.natAbs : Nat) : Int)
  have d : Nat.gcd p.natAbs q.natAbs ∣ q.natAbs := Nat.gcd_dvd_right _ _
  have l : Nat.gcd p.natAbs q.natAbs ≤ q.natAbs := Nat.le_of_dvd (by omega) d
  have z : 0 < q.natAbs / Nat.gcd p.natAbs q.natAbs := Nat.div_pos l g0
  generalize Nat.gcd p.natAbs q.natAbs = g at *
  rw [e, tdiv_nn]
  generalize q.natAbs / g = w at z
  omega
theorem lo_gcd {p q : Int} (hq : 1 ≤ q) : Nat.gcd (lo p q).1.natAbs (lo p q).2.natAbs = 1 := by
  show Nat.gcd (p.tdiv ((Nat.gcd p.natAbs q.natAbs : Nat) : Int)).natAbs (q.tdiv ((Nat.gcd p.natAbs q.natAbs : Nat) : Int)).natAbs = 1
  rw [Int.natAbs_tdiv, Int.natAbs_tdiv, Int.natAbs_natCast]
  exact Nat.gcd_div_gcd_div_gcd_of_pos_right (by omega)
theorem rd_V {p q : Int} {f : Fr} (hq : 1 ≤ q) (h : rd p q = some f) : VF f := by
  unfold rd at h
  by_cases c : -1000000000 ≤ (lo p q).1 ∧ (lo p q).1 ≤ 1000000000 ∧ (lo p q).2 ≤ 1000000000
  · rw [if_pos c] at h
    cases h
    exact ⟨c.1, c.2.1, lo_den hq, c.2.2, lo_gcd hq⟩
  · rw [if_neg c] at h; cases h
theorem mb {x y : Int} (h1 : -1000000000 ≤ x) (h2 : x ≤ 1000000000) (h3 : 0 ≤ y) (h4 : y ≤ 1000000000) : -1000000000000000000 ≤ x * y ∧ x * y ≤ 1000000000000000000 := by
  have a := Int.mul_le_mul_of_nonneg_right h1 h3
  have b := Int.mul_le_mul_of_nonneg_right h2 h3
  omega
theorem mp1 {x y : Int} (h1 : 1 ≤ x) (h2 : 1 ≤ y) : 1 ≤ x * y := by
  have a := Int.mul_le_mul_of_nonneg_right h1 (show 0 ≤ y by omega)
  omega
/-- the class's gcd in the sums' own text -/
theorem gcds_31 (σ σ' : St) : ∀ (n : Nat) (a b : Int64) (c : Int32), f_CL_gcds_31 n a b c σ = f_CL_gcd_31 n a b c σ' ∧ (k_CL_gcd_31 n a b c σ' → k_CL_gcds_31 n a b c σ) := by
  intro n
  induction n with
  | zero => intro a b c; exact ⟨rfl, id⟩
  | succ n ih =>
    intro a b c
    obtain ⟨i1, i2⟩ := ih b (a - a / b * b) (c + 1)
    refine ⟨?_, fun h => ⟨fun z => trivial, fun z => ⟨fun _ => trivial, fun w => ⟨((h.2 z).2 w).1, i2 ((h.2 z).2 w).2⟩⟩⟩⟩
    show (if 200 ≤ c then a else (if lg_cmp b 0 = 0 then a else f_CL_gcds_31 n b (a - a / b * b) (c + 1) σ)) = (if 200 ≤ c then a else (if lg_cmp b 0 = 0 then a else f_CL_gcd_31 n b (a - a / b * b) (c + 1) σ'))
    rw [i1]
theorem gcd_S {σ : St} {a b : Int64} (ha : -9223372036854775808 < a.toInt) (hb : -9223372036854775808 < b.toInt) : k_CL_gcds a b σ ∧ (f_CL_gcds a b σ).toInt = ((Nat.gcd a.toInt.natAbs b.toInt.natAbs : Nat) : Int) := by
  obtain ⟨h1, h2⟩ := gcd_C (σ := σ) ha hb
  have s12 : ∀ x y : Int64, f_CL_gcds_12 y x σ = f_CL_gcd_12 y x σ ∧ (k_CL_gcd_12 y x σ → k_CL_gcds_12 y x σ) := fun x y => by
    refine ⟨?_, fun h => ⟨fun z => (gcds_31 σ σ 1000 x y 0).2 (h.1 z), fun z => (gcds_31 σ σ 1000 x (-y) 0).2 (h.2 z)⟩⟩
    show (if 0 ≤ lg_cmp y 0 then f_CL_gcds_31 1000 x y 0 σ else f_CL_gcds_31 1000 x (-y) 0 σ) = (if 0 ≤ lg_cmp y 0 then f_CL_gcd_31 1000 x y 0 σ else f_CL_gcd_31 1000 x (-y) 0 σ)
    rw [(gcds_31 σ σ 1000 x y 0).1, (gcds_31 σ σ 1000 x (-y) 0).1]
  refine ⟨⟨fun z => (s12 a b).2 (h1.1 z), fun z => (s12 (-a) b).2 (h1.2 z)⟩, ?_⟩
  rw [← h2]
  show (if 0 ≤ lg_cmp a 0 then f_CL_gcds_12 b a σ else f_CL_gcds_12 b (-a) σ).toInt = (if 0 ≤ lg_cmp a 0 then f_CL_gcd_12 b a σ else f_CL_gcd_12 b (-a) σ).toInt
  rw [(s12 a b).1, (s12 (-a) b).1]
/-- the reference's -/
theorem cm_L {σ : St} : ∀ (m x y : Nat) (a b : Int64) (fuel : Nat), a.toInt = x → b.toInt = y → y < 2 ^ m → 2 * m < fuel → k_Mo_commonOf_17 fuel a b σ ∧ (f_Mo_commonOf_17 fuel a b σ).toInt = ((Nat.gcd x y : Nat) : Int) := by
  have stop : ∀ (a b : Int64) (fuel : Nat), b = 0 → k_Mo_commonOf_17 (fuel + 1) a b σ ∧ f_Mo_commonOf_17 (fuel + 1) a b σ = a := fun a b fuel hb => by
    have h2 : lg_cmp b 0 = 0 := (lg_cmp_eq b 0).mpr hb
    refine ⟨⟨fun _ => trivial, fun z => absurd h2 z⟩, ?_⟩
    show (if lg_cmp b 0 = 0 then a else _) = _
    rw [if_pos h2]
  have go : ∀ (a b : Int64) (fuel : Nat), ¬ b = 0 → f_Mo_commonOf_17 (fuel + 1) a b σ = f_Mo_commonOf_17 fuel b (a - a / b * b) σ ∧ (k_Mo_commonOf_17 fuel b (a - a / b * b) σ → k_Mo_commonOf_17 (fuel + 1) a b σ) := fun a b fuel hb => by
    have h2 : ¬ lg_cmp b 0 = 0 := fun z => hb ((lg_cmp_eq b 0).mp z)
    refine ⟨?_, fun w => ⟨fun z => absurd z h2, fun _ => ⟨hb, w⟩⟩⟩
    show (if lg_cmp b 0 = 0 then a else f_Mo_commonOf_17 fuel b (a - a / b * b) σ) = _
    rw [if_neg h2]
  intro m
  induction m with
  | zero =>
    intro x y a b fuel ha hb hy hf
    obtain ⟨fuel, rfl⟩ : ∃ k, fuel = k + 1 := ⟨fuel - 1, by omega⟩
    have y0 : y = 0 := by
      have : 2 ^ 0 = 1 := rfl
      omega
    subst y0
    obtain ⟨k1, k2⟩ := stop a b fuel ((l_zero b).mpr hb)
    exact ⟨k1, by rw [k2, Nat.gcd_zero_right]; exact ha⟩
  | succ m ih =>
    intro x y a b fuel ha hb hy hf
    obtain ⟨fuel, rfl⟩ : ∃ k, fuel = k + 1 := ⟨fuel - 1, by omega⟩
    by_cases y0 : y = 0
    · subst y0
      obtain ⟨k1, k2⟩ := stop a b fuel ((l_zero b).mpr hb)
      exact ⟨k1, by rw [k2, Nat.gcd_zero_right]; exact ha⟩
    · have nb : ¬ b = 0 := fun z => by
        have := (l_zero b).mp z
        rw [hb] at this; omega
      obtain ⟨g1, g2⟩ := go a b fuel nb
      have hr := l_mod ha hb
      rw [g1, gcd_st]
      obtain ⟨fuel, rfl⟩ : ∃ k, fuel = k + 1 := ⟨fuel - 1, by omega⟩
      by_cases r0 : x % y = 0
      · rw [r0] at hr ⊢
        obtain ⟨k1, k2⟩ := stop b (a - a / b * b) fuel ((l_zero _).mpr hr)
        exact ⟨g2 k1, by rw [k2, Nat.gcd_zero_right]; exact hb⟩
      · have nr : ¬ (a - a / b * b) = 0 := fun z => by
          have := (l_zero _).mp z
          rw [hr] at this; omega
        obtain ⟨g3, g4⟩ := go b (a - a / b * b) fuel nr
        have hr2 := l_mod hb hr
        obtain ⟨k1, k2⟩ := ih (x % y) (y % (x % y)) (a - a / b * b) _ fuel hr hr2 (gcd_half hy (by omega) (by omega)) (by omega)
        rw [g3, gcd_st]
        exact ⟨g2 (g4 k1), k2⟩
theorem l_neg {a : Int64} (h : -9223372036854775808 < a.toInt) : (-a).toInt = -a.toInt := by
  have := l_rng a
  rw [Int64.toInt_neg, Int.bmod_def]; omega
theorem com_M {σ : St} {a b : Int64} (ha : -9223372036854775808 < a.toInt) (hb : 0 ≤ b.toInt) : k_Mo_commonOf a b σ ∧ (f_Mo_commonOf a b σ).toInt = ((Nat.gcd a.toInt.natAbs b.toInt.natAbs : Nat) : Int) := by
  have z0 : (0 : Int64).toInt = 0 := by decide
  have c1 : (0 ≤ lg_cmp a 0) ↔ 0 ≤ a.toInt := by rw [lg_cmp_ge, Int64.le_iff_toInt_le, z0]
  have key : ∀ x : Int64, 0 ≤ x.toInt → k_Mo_commonOf_17 1000 x b σ ∧ (f_Mo_commonOf_17 1000 x b σ).toInt = ((Nat.gcd x.toInt.natAbs b.toInt.natAbs : Nat) : Int) := fun x h1 => by
    have h3 := l_rng b
    exact cm_L (σ := σ) 63 x.toInt.natAbs b.toInt.natAbs x b 1000 (by omega) (by omega) (by omega) (by omega)
  by_cases h1 : 0 ≤ a.toInt
  · obtain ⟨k1, k2⟩ := key a h1
    refine ⟨⟨fun _ => k1, fun z => absurd (c1.mpr h1) z⟩, ?_⟩
    show (if 0 ≤ lg_cmp a 0 then f_Mo_commonOf_17 1000 a b σ else _).toInt = _
    rw [if_pos (c1.mpr h1)]; exact k2
  · obtain ⟨k1, k2⟩ := key (-a) (by rw [l_neg ha]; omega)
    refine ⟨⟨fun z => absurd (c1.mp z) h1, fun _ => k1⟩, ?_⟩
    show (if 0 ≤ lg_cmp a 0 then _ else f_Mo_commonOf_17 1000 (-a) b σ).toInt = _
    rw [if_neg (fun z => h1 (c1.mp z)), k2, l_neg ha, Int.natAbs_neg]
theorem l_tdiv {a b : Int64} (ha : -9223372036854775808 < a.toInt) : (a / b).toInt = a.toInt.tdiv b.toInt := by
  have h := Int.natAbs_tdiv_le_natAbs a.toInt b.toInt
  have r := l_rng a
  rw [Int64.toInt_div, Int.bmod_def]
  generalize a.toInt.tdiv b.toInt = z at h ⊢
  omega
/-- a and b divided by their gcd g -/
theorem lo_L {a b g : Int64} (ha : -9223372036854775808 < a.toInt) (hb : 1 ≤ b.toInt) (hg : g.toInt = ((Nat.gcd a.toInt.natAbs b.toInt.natAbs : Nat) : Int)) : ¬ g = 0 ∧ ¬ lg_cmp g 0 = 0 ∧ (a / g).toInt = (lo a.toInt b.toInt).1 ∧ (b / g).toInt = (lo a.toInt b.toInt).2 := by
  have g0 : 0 < Nat.gcd a.toInt.natAbs b.toInt.natAbs := Nat.gcd_pos_of_pos_right _ (by omega)
  have n0 : ¬ g = 0 := fun z => by
    have := (l_zero g).mp z
    omega
  refine ⟨n0, fun z => n0 ((lg_cmp_eq g 0).mp z), ?_, ?_⟩
  · rw [l_tdiv ha, hg]; rfl
  · rw [l_tdiv (by omega), hg]; rfl
theorem bey_C {σ : St} (x y : Int64) : k_Su_isBeyonds x y σ ∧ (f_Su_isBeyonds x y σ = 0 ↔ -1000000000 ≤ x.toInt ∧ x.toInt ≤ 1000000000 ∧ y.toInt ≤ 1000000000) := by
  have e1 : (lg_cmp x (-1000000000) < 0) ↔ x.toInt < -1000000000 := by rw [lg_cmp_lt, Int64.lt_iff_toInt_lt]; rfl
  have e2 : (0 < lg_cmp x 1000000000) ↔ 1000000000 < x.toInt := by rw [lg_cmp_gt, Int64.lt_iff_toInt_lt]; rfl
  have e3 : (lg_cmp y 1000000000 ≤ 0) ↔ y.toInt ≤ 1000000000 := by rw [lg_cmp_le, Int64.le_iff_toInt_le]; rfl
  refine ⟨⟨fun _ => ⟨rfl, trivial⟩, fun _ => ⟨fun _ => ⟨rfl, trivial⟩, fun _ => ⟨fun _ => ⟨rfl, trivial⟩, fun _ => ⟨rfl, trivial⟩⟩⟩⟩, ?_⟩
  show (if lg_cmp x (-1000000000) < 0 then (1 : Int32) else (if 0 < lg_cmp x 1000000000 then 1 else (if lg_cmp y 1000000000 ≤ 0 then 0 else 1))) = 0 ↔ _
  have d10 : ¬ (1 : Int32) = 0 := by decide
  by_cases c1 : lg_cmp x (-1000000000) < 0
  · rw [if_pos c1]
    exact ⟨fun z => absurd z d10, fun z => by have := e1.mp c1; omega⟩
  · rw [if_neg c1]
    have n1 : ¬ x.toInt < -1000000000 := fun z => c1 (e1.mpr z)
    by_cases c2 : 0 < lg_cmp x 1000000000
    · rw [if_pos c2]
      exact ⟨fun z => absurd z d10, fun z => by have := e2.mp c2; omega⟩
    · rw [if_neg c2]
      have n2 : ¬ 1000000000 < x.toInt := fun z => c2 (e2.mpr z)
      by_cases c3 : lg_cmp y 1000000000 ≤ 0
      · rw [if_pos c3]
        exact ⟨fun _ => ⟨by omega, by omega, e3.mp c3⟩, fun _ => rfl⟩
      · rw [if_neg c3]
        exact ⟨fun z => absurd z d10, fun z => absurd (e3.mpr z.2.2) c3⟩
