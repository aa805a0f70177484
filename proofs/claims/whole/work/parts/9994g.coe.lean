-- a coefficient, as the reference works it out
theorem lf_sum {p1 p2 q1 q2 : Int64} (hp : VF (p1.toInt, p2.toInt)) (hq : VF (q1.toInt, q2.toInt)) : (p1 * q2 + q1 * p2).toInt = p1.toInt * q2.toInt + q1.toInt * p2.toInt ∧ (p2 * q2).toInt = p2.toInt * q2.toInt ∧ -9223372036854775808 < (p1 * q2 + q1 * p2).toInt ∧ 1 ≤ (p2 * q2).toInt := by
  obtain ⟨a1, a2, a3, a4, -⟩ := hp
  obtain ⟨b1, b2, b3, b4, -⟩ := hq
  have a1 : -1000000000 ≤ p1.toInt := a1
  have a2 : p1.toInt ≤ 1000000000 := a2
  have a3 : 1 ≤ p2.toInt := a3
  have a4 : p2.toInt ≤ 1000000000 := a4
  have b1 : -1000000000 ≤ q1.toInt := b1
  have b2 : q1.toInt ≤ 1000000000 := b2
  have b3 : 1 ≤ q2.toInt := b3
  have b4 : q2.toInt ≤ 1000000000 := b4
  have m1 := mb a1 a2 (by omega) b4
  have m2 := mb b1 b2 (by omega) a4
  have m3 := mb (x := p2.toInt) (by omega) a4 (by omega) b4
  have m4 := mp1 a3 b3
  have e1 := l_mul (a := p1) (b := q2) (by omega)
  have e2 := l_mul (a := q1) (b := p2) (by omega)
  have e3 := l_mul (a := p2) (b := q2) (by omega)
  have e4 : (p1 * q2 + q1 * p2).toInt = p1.toInt * q2.toInt + q1.toInt * p2.toInt := by
    rw [l_add (by rw [e1, e2]; omega), e1, e2]
  exact ⟨e4, e3, by rw [e4]; omega, by rw [e3]; omega⟩
/-- times a small number -/
theorem l_tms {p t : Int64} (h1 : -1000000000 ≤ p.toInt) (h2 : p.toInt ≤ 1000000000) (h3 : -100000 ≤ t.toInt) (h4 : t.toInt ≤ 100000) : (p * t).toInt = p.toInt * t.toInt ∧ -9223372036854775808 < (p * t).toInt := by
  have m : -1000000000000000 ≤ p.toInt * t.toInt ∧ p.toInt * t.toInt ≤ 1000000000000000 := by
    rcases Int.le_total 0 t.toInt with z | z
    · have a := Int.mul_le_mul_of_nonneg_right h1 z
      have b := Int.mul_le_mul_of_nonneg_right h2 z
      omega
    · have a := Int.mul_le_mul_of_nonpos_right h1 z
      have b := Int.mul_le_mul_of_nonpos_right h2 z
      omega
  have e := l_mul (a := p) (b := t) (by omega)
  exact ⟨e, by rw [e]; omega⟩
theorem dx_pos {x : Int32} (hx : DX x) : (0 ≤ x) ↔ ¬ x < 0 := by
  rcases hx with z | ⟨j, j1, z⟩
  · rw [z]; decide
  · rw [z]
    exact ⟨fun _ => nI_pos (by omega), fun _ => by
      have := (nI_le_iff (a := 0) (b := j) (by omega) (by omega)).mpr (Nat.zero_le j)
      rw [nI_0] at this; exact this⟩
def vls (τ : St) (x : Int32) (X : St) (j : Nat) : Prop := ev τ x j = some ((X.2 27 j).toInt, (X.2 28 j).toInt)
section COE
variable {n : Nat} {τ : St}
theorem co39 {x : Int32} {i r : Nat} {X : St} {F : Int32 → Int32 → Int32 → St → St} {K : Int32 → Int32 → Int32 → St → Prop} (hx : DX x) (hn : n ≤ 100) (hW : ∀ t, t < n → tmW τ t) (hK : ∀ t, t < n → kdW τ t) (hi : i < n) (hX : ∀ c, ¬ c = 0 → ¬ c = 29 → X.1 c = τ.1 c) (hv : ∀ j, j < i → ¬ X.1 29 j = 0 → vls τ x X j) (hc : c34 τ (fun p => ¬ X.1 29 p = 0) i) :
    ∃ P Q : Int64, -9223372036854775808 < P.toInt ∧ 1 ≤ Q.toInt ∧ rd P.toInt Q.toInt = ev τ x i ∧ f_Mo_coefficient_39 F (nI r) x (nI i) (X.1 8 (nI i).toNatClampNeg) X = f_Mo_coefficient_224 F (nI r) x (nI i) (f_Mo_become P Q X) ∧
      (k_Mo_become P Q X → k_Mo_coefficient_224 K (nI r) x (nI i) (f_Mo_become P Q X) → k_Mo_coefficient_39 K (nI r) x (nI i) (X.1 8 (nI i).toNatClampNeg) X) := by
  have hcl : (nI i).toNatClampNeg = i := nI_clamp (by omega)
  have hin : vp_in (nI i) 400 := by rw [in_iff, i_nI (by omega)]; omega
  have hWi := hW i hi
  have hKi := hK i hi
  have est := ev_st (x := x) (by omega) hWi hKi
  have c5 : X.1 5 (nI i).toNatClampNeg = τ.1 5 i := by rw [hcl, hX 5 (by omega) (by omega)]
  have c8 : X.1 8 (nI i).toNatClampNeg = τ.1 8 i := by rw [hcl, hX 8 (by omega) (by omega)]
  have c9 : X.1 9 (nI i).toNatClampNeg = τ.1 9 i := by rw [hcl, hX 9 (by omega) (by omega)]
  have c11 : ∀ j, X.1 11 j = τ.1 11 j := fun j => by rw [hX 11 (by omega) (by omega)]
  have c12 : ∀ j, X.1 12 j = τ.1 12 j := fun j => by rw [hX 12 (by omega) (by omega)]
  have d1 : (1 : Int64).toInt = 1 := by decide
  have d0 : (0 : Int64).toInt = 0 := by decide
  rw [est]
  unfold stp
  by_cases k2 : τ.1 5 i = 2
  · obtain ⟨-, -, -, c0, c1, c2⟩ := hWi.2.2.2.2.2.2.1 k2
    rw [if_pos k2]
    by_cases z : x < 0
    · have nz : ¬ 0 ≤ x := fun w => (dx_pos hx).mp w z
      refine ⟨(τ.1 11 i).toInt64, (τ.1 12 i).toInt64, by rw [Int32.toInt_toInt64]; omega, by rw [Int32.toInt_toInt64]; omega, ?_, ?_, fun w1 w2 => ⟨hin, hin, fun _ => ⟨fun w => absurd w nz, fun _ => ⟨hin, fun w => absurd w nz, fun _ => ⟨hin, ?_⟩⟩⟩, fun w => absurd (c5.trans k2) w⟩⟩
      · rw [if_pos z, Int32.toInt_toInt64, Int32.toInt_toInt64]
      · rw [f_Mo_coefficient_39, f_Mo_coefficient_47, if_pos (c5.trans k2), if_neg nz, f_Mo_coefficient_96, if_neg nz, hcl, c11, c12]; rfl
      · rw [hcl, c11, c12]; exact ⟨w1, w2⟩
    · have pz : 0 ≤ x := (dx_pos hx).mpr z
      refine ⟨0, 1, by decide, by decide, by rw [if_neg z]; rfl, ?_, fun w1 w2 => ⟨hin, hin, fun _ => ⟨fun _ => ⟨fun _ => ⟨w1, w2⟩, fun w => absurd pz w⟩, fun w => absurd pz w⟩, fun w => absurd (c5.trans k2) w⟩⟩
      rw [f_Mo_coefficient_39, f_Mo_coefficient_47, if_pos (c5.trans k2), if_pos pz, f_Mo_coefficient_96, if_pos pz]; rfl
  · have n2 : ¬ X.1 5 (nI i).toNatClampNeg = 2 := fun z => k2 (c5.symm.trans z)
    rw [if_neg k2]
    by_cases k3 : τ.1 5 i = 3
    · obtain ⟨a, b, a1, b1, a2, b2⟩ := two34 hWi hKi (Or.inl k3)
      have hca : (nI a).toNatClampNeg = a := nI_clamp (by omega)
      have hcb : (nI b).toNatClampNeg = b := nI_clamp (by omega)
      have hia : vp_in (nI a) 400 := by rw [in_iff, i_nI (by omega)]; omega
      have hib : vp_in (nI b) 400 := by rw [in_iff, i_nI (by omega)]; omega
      obtain ⟨ma, mb2⟩ := hc.1 k3
      rw [a2, hca] at ma
      rw [b2, hcb] at mb2
      have va := hv a a1 ma
      have vb := hv b b1 mb2
      obtain ⟨s1, s2, s3, s4⟩ := lf_sum (ev_V hn hW hK x a (by omega) _ va) (ev_V hn hW hK x b (by omega) _ vb)
      refine ⟨X.2 27 a * X.2 28 b + X.2 27 b * X.2 28 a, X.2 28 a * X.2 28 b, s3, s4, ?_, ?_, fun w1 w2 => ⟨hin, hin, fun w => absurd w n2, fun _ => ⟨fun _ => ?_, fun w => absurd (c5.trans k3) w⟩⟩⟩
      · rw [if_pos k3, a2, b2, hca, hcb, va, vb, s1, s2]; rfl
      · rw [f_Mo_coefficient_39, f_Mo_coefficient_47, if_neg n2, if_pos (c5.trans k3), c8, c9, a2, b2, hca, hcb]; rfl
      · rw [c8, c9, a2, b2, hca, hcb]
        exact ⟨hia, hib, hib, hia, hia, hib, w1, w2⟩
    · have n3 : ¬ X.1 5 (nI i).toNatClampNeg = 3 := fun z => k3 (c5.symm.trans z)
      rw [if_neg k3]
      by_cases k4 : τ.1 5 i = 4
      · obtain ⟨a, b, a1, b1, a2, b2⟩ := two34 hWi hKi (Or.inr k4)
        have hca : (nI a).toNatClampNeg = a := nI_clamp (by omega)
        have hcb : (nI b).toNatClampNeg = b := nI_clamp (by omega)
        have hia : vp_in (nI a) 400 := by rw [in_iff, i_nI (by omega)]; omega
        have hib : vp_in (nI b) 400 := by rw [in_iff, i_nI (by omega)]; omega
        have h2 := cst4 (by omega) hKi k4 a1 a2
        obtain ⟨-, -, -, q0, q1, q2⟩ := (hW a (by omega)).2.2.2.2.2.2.1 h2
        have mb2 := hc.2 k4
        rw [b2, hcb] at mb2
        have vb := hv b b1 mb2
        obtain ⟨v1, v2, v3, v4, -⟩ := ev_V hn hW hK x b (by omega) _ vb
        have v3 : 1 ≤ (X.2 28 b).toInt := v3
        have v4 : (X.2 28 b).toInt ≤ 1000000000 := v4
        have t1 := l_tms (p := X.2 27 b) (t := (τ.1 11 a).toInt64) v1 v2 (by rw [Int32.toInt_toInt64]; omega) (by rw [Int32.toInt_toInt64]; omega)
        have t2 := l_tms (p := X.2 28 b) (t := (τ.1 12 a).toInt64) (by omega) v4 (by rw [Int32.toInt_toInt64]; omega) (by rw [Int32.toInt_toInt64]; omega)
        rw [Int32.toInt_toInt64] at t1 t2
        refine ⟨X.2 27 b * (τ.1 11 a).toInt64, X.2 28 b * (τ.1 12 a).toInt64, t1.2, by rw [t2.1]; exact mp1 v3 q1, ?_, ?_, fun w1 w2 => ⟨hin, hin, fun w => absurd w n2, fun _ => ⟨fun w => absurd w n3, fun _ => ⟨fun _ => ?_, fun w => absurd (c5.trans k4) w⟩⟩⟩⟩
        · rw [if_pos k4, a2, b2, hca, hcb, vb, t1.1, t2.1]; rfl
        · rw [f_Mo_coefficient_39, f_Mo_coefficient_47, if_neg n2, if_neg n3, if_pos (c5.trans k4), c8, c9, a2, b2, hca, hcb, c11, c12]; rfl
        · rw [c8, c9, a2, b2, hca, hcb, c11, c12]
          exact ⟨hib, hia, hib, hia, w1, w2⟩
      · have n4 : ¬ X.1 5 (nI i).toNatClampNeg = 4 := fun z => k4 (c5.symm.trans z)
        rw [if_neg k4]
        by_cases z : nI i = x
        · refine ⟨1, 1, by decide, by decide, by rw [if_pos z]; rfl, ?_, fun w1 w2 => ⟨hin, hin, fun w => absurd w n2, fun _ => ⟨fun w => absurd w n3, fun _ => ⟨fun w => absurd w n4, fun _ => ⟨fun _ => ⟨w1, w2⟩, fun w => absurd z w⟩⟩⟩⟩⟩
          rw [f_Mo_coefficient_39, f_Mo_coefficient_47, if_neg n2, if_neg n3, if_neg n4, if_pos z]; rfl
        · refine ⟨0, 1, by decide, by decide, by rw [if_neg z]; rfl, ?_, fun w1 w2 => ⟨hin, hin, fun w => absurd w n2, fun _ => ⟨fun w => absurd w n3, fun _ => ⟨fun w => absurd w n4, fun _ => ⟨fun w => absurd w z, fun _ => ⟨w1, w2⟩⟩⟩⟩⟩⟩
          rw [f_Mo_coefficient_39, f_Mo_coefficient_47, if_neg n2, if_neg n3, if_neg n4, if_neg z]; rfl
theorem co7 {x : Int32} {r : Nat} (hx : DX x) (hn : n ≤ 100) (hW : ∀ t, t < n → tmW τ t) (hK : ∀ t, t < n → kdW τ t) (hr : r < n) :
    ∀ (d i fuel : Nat) (X : St), i + d = r + 1 → d < fuel → X.1 0 45 = 0 → (∀ c, ¬ c = 0 → ¬ c = 29 → X.1 c = τ.1 c) → (∀ j, j < i → ¬ X.1 29 j = 0 → vls τ x X j) → (∀ j, j ≤ r → ¬ X.1 29 j = 0 → c34 τ (fun p => ¬ X.1 29 p = 0) j) → ¬ X.1 29 r = 0 → (∀ j, j ≤ r → ¬ X.1 29 j = 0 → ev τ x j = none → ev τ x r = none) → (i = r + 1 → ST X (ev τ x r)) →
    k_Mo_coefficient_7 fuel (nI r) x (nI i) X ∧ ∃ Y, f_Mo_coefficient_7 fuel (nI r) x (nI i) X = Y ∧ fq X Y ∧ ST Y (ev τ x r) := by
  intro d
  induction d with
  | zero =>
    intro i fuel X hi hf h45 hX hv hc hm hS hE
    obtain ⟨fuel, rfl⟩ : ∃ k, fuel = k + 1 := ⟨fuel - 1, by omega⟩
    have pl : nI r < nI i := (nI_lt_iff (by omega) (by omega)).mpr (by omega)
    refine ⟨⟨fun _ => trivial, fun z => absurd pl z⟩, X, ?_, fq.rf X, hE (by omega)⟩
    rw [f_Mo_coefficient_7, if_pos pl]; rfl
  | succ d ih =>
    intro i fuel X hi hf h45 hX hv hc hm hS hE
    obtain ⟨fuel, rfl⟩ : ∃ k, fuel = k + 1 := ⟨fuel - 1, by omega⟩
    have pl : ¬ nI r < nI i := fun z => by
      have := (nI_lt_iff (by omega) (by omega)).mp z
      omega
    have hcl : (nI i).toNatClampNeg = i := nI_clamp (by omega)
    have hin : vp_in (nI i) 400 := by rw [in_iff, i_nI (by omega)]; omega
    have c29 : X.1 29 (nI i).toNatClampNeg = X.1 29 i := by rw [hcl]
    by_cases w0 : X.1 29 i = 0
    · have nr : ¬ i = r := fun z => hm (by rw [← z]; exact w0)
      obtain ⟨k0, Y, y1, y2, y3⟩ := ih (i + 1) fuel X (by omega) (by omega) h45 hX (fun j hj hj2 => by
        by_cases z : j = i
        · rw [z] at hj2; exact absurd w0 hj2
        · exact hv j (by omega) hj2) hc hm hS (fun z => by omega)
      rw [nI_succ] at k0 y1
      refine ⟨⟨fun z => absurd z pl, fun _ => ⟨fun _ => ⟨hin, fun _ => k0, fun z => absurd (c29.trans w0) z⟩, fun z => absurd h45 z⟩⟩, Y, ?_, y2, y3⟩
      rw [f_Mo_coefficient_7, if_neg pl, if_pos h45, if_pos (c29.trans w0)]; exact y1
    · have w0' : ¬ X.1 29 (nI i).toNatClampNeg = 0 := fun z => w0 (c29.symm.trans z)
      obtain ⟨P, Q, p1, p2, p3, p4, p5⟩ := co39 (r := r) (F := f_Mo_coefficient_7 fuel) (K := k_Mo_coefficient_7 fuel) hx hn hW hK (by omega) hX hv (hc i (by omega) w0)
      obtain ⟨b1, Z, b2, b3, b4, b5, b6⟩ := bec h45 p1 p2
      rw [b2] at p4 p5
      rw [p3] at b6
      let V : St := sL (sL Z 27 (nI i) (Z.2 0 43)) 28 (nI i) (Z.2 0 44)
      have v1 : V.1 = Z.1 := rfl
      have v20 : V.2 0 = Z.2 0 := rfl
      have fz : fq X V := b3.tr ⟨fun _ _ _ => rfl, fun _ _ => rfl, fun _ _ _ => rfl⟩
      have e224 : f_Mo_coefficient_224 (f_Mo_coefficient_7 fuel) (nI r) x (nI i) Z = f_Mo_coefficient_7 fuel (nI r) x (nI i + 1) V := rfl
      have k224 : k_Mo_coefficient_7 fuel (nI r) x (nI i + 1) V → k_Mo_coefficient_224 (k_Mo_coefficient_7 fuel) (nI r) x (nI i) Z := fun w => ⟨hin, hin, w⟩
      have fin : (k_Mo_coefficient_7 fuel (nI r) x (nI i + 1) V ∧ ∃ Y, f_Mo_coefficient_7 fuel (nI r) x (nI i + 1) V = Y ∧ fq V Y ∧ ST Y (ev τ x r)) → k_Mo_coefficient_7 (fuel + 1) (nI r) x (nI i) X ∧ ∃ Y, f_Mo_coefficient_7 (fuel + 1) (nI r) x (nI i) X = Y ∧ fq X Y ∧ ST Y (ev τ x r) := fun ⟨q1, Y, q2, q3, q4⟩ => by
        refine ⟨⟨fun z => absurd z pl, fun _ => ⟨fun _ => ⟨hin, fun z => absurd z w0', fun _ => ⟨hin, p5 b1 (k224 q1)⟩⟩, fun z => absurd h45 z⟩⟩, Y, ?_, fz.tr q3, q4⟩
        rw [f_Mo_coefficient_7, if_neg pl, if_pos h45, if_neg w0', p4, e224]; exact q2
      apply fin
      rcases b6 with ⟨g0, ge⟩ | ⟨g1, gn⟩
      · -- it has a value
        have sV : ∀ j, j ≤ r → V.1 29 j = X.1 29 j := fun j _ => by show Z.1 29 j = _; rw [b4]
        have h27 : ∀ j, V.2 27 j = if j = i then Z.2 0 43 else X.2 27 j := fun j => by
          show (sL (sL Z 27 (nI i) (Z.2 0 43)) 28 (nI i) (Z.2 0 44)).2 27 j = _
          rw [sL2, if_neg (by omega), sL2, if_pos rfl, hcl, b5 27 (by omega)]
        have h28 : ∀ j, V.2 28 j = if j = i then Z.2 0 44 else X.2 28 j := fun j => by
          show (sL (sL Z 27 (nI i) (Z.2 0 43)) 28 (nI i) (Z.2 0 44)).2 28 j = _
          rw [sL2, if_pos rfl, hcl, sL2, if_neg (show ¬ (28 : Nat) = 27 by omega), b5 28 (by omega)]
        have m29e : V.1 29 = X.1 29 := b4
        have := ih (i + 1) fuel V (by omega) (by omega) g0 (fun c q1 q2 => (fz.1 c q1 q2).trans (hX c q1 q2)) (fun j hj hj2 => by
          show ev τ x j = some ((V.2 27 j).toInt, (V.2 28 j).toInt)
          rw [h27, h28]
          by_cases z : j = i
          · rw [if_pos z, if_pos z, z]; exact ge
          · rw [if_neg z, if_neg z]
            rw [m29e] at hj2
            exact hv j (by omega) hj2) (fun j hj => by rw [m29e]; exact hc j hj) (by rw [m29e]; exact hm) (fun j hj hj2 => by rw [m29e] at hj2; exact hS j hj hj2) (fun z => by
          have : r = i := by omega
          rw [this]
          exact Or.inl ⟨g0, ge⟩)
        rw [nI_succ] at this
        exact this
      · -- too great
        have nr := hS i (by omega) w0 gn
        obtain ⟨fuel, rfl⟩ : ∃ k, fuel = k + 1 := ⟨fuel - 1, by omega⟩
        have g45 : ¬ V.1 0 45 = 0 := g1
        have sto : k_Mo_coefficient_7 (fuel + 1) (nI r) x (nI i + 1) V ∧ f_Mo_coefficient_7 (fuel + 1) (nI r) x (nI i + 1) V = V := by
          refine ⟨⟨fun _ => trivial, fun _ => ⟨fun z => absurd z g45, fun _ => trivial⟩⟩, ?_⟩
          rw [f_Mo_coefficient_7]
          by_cases z : nI r < nI i + 1
          · rw [if_pos z]; rfl
          · rw [if_neg z, if_neg g45]; rfl
        exact ⟨sto.1, V, sto.2, fq.rf V, Or.inr ⟨g45, nr⟩⟩
theorem coe {x : Int32} {r : Nat} {X : St} (hx : DX x) (hn : n ≤ 100) (hW : ∀ t, t < n → tmW τ t) (hK : ∀ t, t < n → kdW τ t) (hr : r < n) (h8 : X.1 0 8 = nI n) (h45 : X.1 0 45 = 0) (hX : ∀ c, ¬ c = 0 → ¬ c = 29 → X.1 c = τ.1 c) : k_Mo_coefficient (nI r) x X ∧ ∃ Y, f_Mo_coefficient (nI r) x X = Y ∧ fq X Y ∧ ST Y (ev τ x r) := by
  obtain ⟨k1, Y, y1, y2, y3, y4, y5⟩ := ne_ok (S := fun j => ev τ x j = none → ev τ x r = none) hW hK hn h8 hr hX (fun j hj hS => by
    have est := ev_st (x := x) (by omega) (hW j hj) (hK j hj)
    refine ⟨fun k3 => ?_, fun k4 => ?_⟩
    · have n2 : ¬ τ.1 5 j = 2 := by rw [k3]; decide
      refine ⟨fun z => hS ?_, fun z => hS ?_⟩
      · rw [est]; unfold stp
        rw [if_neg n2, if_pos k3, z]; rfl
      · rw [est]; unfold stp
        rw [if_neg n2, if_pos k3, z]
        cases ev τ x (τ.1 8 j).toNatClampNeg with
        | none => rfl
        | some p => rfl
    · have n2 : ¬ τ.1 5 j = 2 := by rw [k4]; decide
      have n3 : ¬ τ.1 5 j = 3 := by rw [k4]; decide
      intro z
      apply hS
      rw [est]; unfold stp
      rw [if_neg n2, if_neg n3, if_pos k4, z]; rfl) (fun z => z)
  have f1 := y2.fq
  obtain ⟨k2, Z, z1, z2, z3⟩ := co7 hx hn hW hK hr (r + 1) 0 1000 Y (by omega) (by omega) ((congrFun (y2.1 0 (by omega)) 45).trans h45) (fun c q1 q2 => (f1.1 c q1 q2).trans (hX c q1 q2)) (fun j hj => absurd hj (Nat.not_lt_zero j)) y5 y4 y3 (fun z => absurd z (by omega))
  rw [nI_0] at k2 z1
  refine ⟨⟨k1, ?_⟩, Z, ?_, f1.tr z2, z3⟩
  · rw [y1]; exact k2
  · show f_Mo_coefficient_5 (nI r) x (f_Mo_need (nI r) X) = _
    rw [y1]; exact z1
end COE
