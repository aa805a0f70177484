-- the reference's fractions: one step, the marks, a coefficient
def fq (X Y : St) : Prop := (∀ c, ¬ c = 0 → ¬ c = 29 → Y.1 c = X.1 c) ∧ (∀ j, ¬ j = 45 → Y.1 0 j = X.1 0 j) ∧ (∀ j, ¬ j = 43 → ¬ j = 44 → Y.2 0 j = X.2 0 j)
theorem fq.rf (X : St) : fq X X := ⟨fun _ _ _ => rfl, fun _ _ => rfl, fun _ _ _ => rfl⟩
theorem fq.tr {X Y Z : St} (h1 : fq X Y) (h2 : fq Y Z) : fq X Z := ⟨fun c a b => (h2.1 c a b).trans (h1.1 c a b), fun j a => (h2.2.1 j a).trans (h1.2.1 j a), fun j a b => (h2.2.2 j a b).trans (h1.2.2 j a b)⟩
theorem m29.fq {X Y : St} (h : m29 X Y) : fq X Y := ⟨fun c _ b => h.1 c b, fun j _ => by rw [h.1 0 (by omega)], fun j _ _ => by rw [h.2]⟩
def ST (Y : St) (o : Option Fr) : Prop := (Y.1 0 45 = 0 ∧ o = some ((Y.2 0 43).toInt, (Y.2 0 44).toInt)) ∨ (¬ Y.1 0 45 = 0 ∧ o = none)
theorem bec {p q : Int64} {X : St} (h0 : X.1 0 45 = 0) (hp : -9223372036854775808 < p.toInt) (hq : 1 ≤ q.toInt) : k_Mo_become p q X ∧ ∃ Y, f_Mo_become p q X = Y ∧ fq X Y ∧ Y.1 29 = X.1 29 ∧ (∀ c, ¬ c = 0 → Y.2 c = X.2 c) ∧ ST Y (rd p.toInt q.toInt) := by
  obtain ⟨g1, g2⟩ := com_M (σ := X) hp (show 0 ≤ q.toInt by omega)
  obtain ⟨n0, -, e1, e2⟩ := lo_L hp hq g2
  have ef : f_Mo_become p q X = f_Mo_become_23 (sG (sG X 0 43 (p / f_Mo_commonOf p q X)) 0 44 (q / f_Mo_commonOf p q X)) := rfl
  have ek : k_Mo_become_23 (sG (sG X 0 43 (p / f_Mo_commonOf p q X)) 0 44 (q / f_Mo_commonOf p q X)) → k_Mo_become p q X := fun w => ⟨g1, n0, n0, w⟩
  rw [ef]
  generalize f_Mo_commonOf p q X = g at *
  let W : St := sG (sG X 0 43 (p / g)) 0 44 (q / g)
  have w0 : W.1 0 45 = 0 := h0
  have w3 : W.2 0 43 = p / g := rfl
  have w4 : W.2 0 44 = q / g := rfl
  have c1 : (lg_cmp (W.2 0 43) (-1000000000) < 0) ↔ (lo p.toInt q.toInt).1 < -1000000000 := by rw [w3, lg_cmp_lt, Int64.lt_iff_toInt_lt, e1]; rfl
  have c2 : (0 < lg_cmp (W.2 0 43) 1000000000) ↔ 1000000000 < (lo p.toInt q.toInt).1 := by rw [w3, lg_cmp_gt, Int64.lt_iff_toInt_lt, e1]; rfl
  have c3 : (lg_cmp (W.2 0 44) 1000000000 ≤ 0) ↔ (lo p.toInt q.toInt).2 ≤ 1000000000 := by rw [w4, lg_cmp_le, Int64.le_iff_toInt_le, e2]; rfl
  have fr : ∀ v : Int32, fq X (sF W 0 45 v) ∧ (sF W 0 45 v).1 29 = X.1 29 ∧ (∀ c, ¬ c = 0 → (sF W 0 45 v).2 c = X.2 c) := fun v => by
    refine ⟨⟨fun c a _ => ?_, fun j a => ?_, fun j a b => ?_⟩, rfl, fun c a => ?_⟩
    · show pu X.1 0 _ c = _
      rw [pu_at, if_neg a]
    · show pu (X.1 0) 45 v j = _
      rw [pu_at, if_neg a]
    · show W.2 0 j = _
      show (sG (sG X 0 43 (p / g)) 0 44 (q / g)).2 0 j = _
      rw [sG2, if_pos rfl, if_neg b, sG2, if_pos rfl, if_neg a]
    · funext j
      show (sG (sG X 0 43 (p / g)) 0 44 (q / g)).2 c j = _
      rw [sG2, if_neg a, sG2, if_neg a]
  have great : ¬ (-1000000000 ≤ (lo p.toInt q.toInt).1 ∧ (lo p.toInt q.toInt).1 ≤ 1000000000 ∧ (lo p.toInt q.toInt).2 ≤ 1000000000) → ST (sF W 0 45 1) (rd p.toInt q.toInt) := fun z => by
    refine Or.inr ⟨by show ¬ (1 : Int32) = 0; decide, ?_⟩
    unfold rd; rw [if_neg z]
  have kk : ∀ v : Int32, (v = 0 ∨ v = 1) → k_Mo_become_69 v W := fun v hv => by
    rcases hv with rfl | rfl
    · exact ⟨⟨rfl, rfl⟩, trivial⟩
    · exact ⟨⟨rfl, rfl⟩, trivial⟩
  by_cases q1 : lg_cmp (W.2 0 43) (-1000000000) < 0
  · have z := c1.mp q1
    refine ⟨ek ⟨fun _ => ⟨fun _ => kk 1 (Or.inr rfl), fun w => absurd q1 w⟩, fun w => absurd w0 w⟩, sF W 0 45 1, ?_, (fr 1).1, (fr 1).2.1, (fr 1).2.2, great (by omega)⟩
    show f_Mo_become_23 W = _
    rw [f_Mo_become_23, if_pos w0, if_pos q1]; rfl
  · have z1 : ¬ (lo p.toInt q.toInt).1 < -1000000000 := fun w => q1 (c1.mpr w)
    by_cases q2 : 0 < lg_cmp (W.2 0 43) 1000000000
    · have z := c2.mp q2
      refine ⟨ek ⟨fun _ => ⟨fun w => absurd w q1, fun _ => ⟨fun _ => kk 1 (Or.inr rfl), fun w => absurd q2 w⟩⟩, fun w => absurd w0 w⟩, sF W 0 45 1, ?_, (fr 1).1, (fr 1).2.1, (fr 1).2.2, great (by omega)⟩
      show f_Mo_become_23 W = _
      rw [f_Mo_become_23, if_pos w0, if_neg q1, if_pos q2]; rfl
    · have z2 : ¬ 1000000000 < (lo p.toInt q.toInt).1 := fun w => q2 (c2.mpr w)
      by_cases q3 : lg_cmp (W.2 0 44) 1000000000 ≤ 0
      · have z := c3.mp q3
        refine ⟨ek ⟨fun _ => ⟨fun w => absurd w q1, fun _ => ⟨fun w => absurd w q2, fun _ => ⟨fun _ => kk 0 (Or.inl rfl), fun w => absurd q3 w⟩⟩⟩, fun w => absurd w0 w⟩, sF W 0 45 0, ?_, (fr 0).1, (fr 0).2.1, (fr 0).2.2, Or.inl ⟨rfl, ?_⟩⟩
        · show f_Mo_become_23 W = _
          rw [f_Mo_become_23, if_pos w0, if_neg q1, if_neg q2, if_pos q3]; rfl
        · unfold rd
          rw [if_pos ⟨by omega, by omega, z⟩]
          show _ = some ((p / g).toInt, (q / g).toInt)
          rw [e1, e2]
      · have z := fun w => q3 (c3.mpr w)
        refine ⟨ek ⟨fun _ => ⟨fun w => absurd w q1, fun _ => ⟨fun w => absurd w q2, fun _ => ⟨fun w => absurd w q3, fun _ => kk 1 (Or.inr rfl)⟩⟩⟩, fun w => absurd w0 w⟩, sF W 0 45 1, ?_, (fr 1).1, (fr 1).2.1, (fr 1).2.2, great (fun w => z w.2.2)⟩
        show f_Mo_become_23 W = _
        rw [f_Mo_become_23, if_pos w0, if_neg q1, if_neg q2, if_neg q3]; rfl
/-- a set of terms closed under what is summed -/
def c34 (τ : St) (S : Nat → Prop) (i : Nat) : Prop := (τ.1 5 i = 3 → S (τ.1 8 i).toNatClampNeg ∧ S (τ.1 9 i).toNatClampNeg) ∧ (τ.1 5 i = 4 → S (τ.1 9 i).toNatClampNeg)
section NE2
variable {n : Nat} {τ : St}
theorem ne2 {t0 : Nat} (ht : t0 < n) (hn : n ≤ 400) : ∀ (d i fuel : Nat) (X : St), i + d = n → d < fuel → X.1 0 8 = nI n → ∃ Y, m29 X Y ∧ (∀ j, j < n → Y.1 29 j = if j < i then X.1 29 j else (if j = t0 then 1 else 0)) ∧ f_Mo_need_2 fuel (nI t0) (nI i) X = f_Mo_need_34 1000 (nI t0) Y ∧ (k_Mo_need_34 1000 (nI t0) Y → k_Mo_need_2 fuel (nI t0) (nI i) X) := by
  intro d
  induction d with
  | zero =>
    intro i fuel X hi hf h8
    obtain ⟨fuel, rfl⟩ : ∃ k, fuel = k + 1 := ⟨fuel - 1, by omega⟩
    have pl : X.1 0 8 ≤ nI i := by rw [h8]; exact (nI_le_iff (by omega) (by omega)).mpr (by omega)
    refine ⟨X, m29.rf X, fun j hj => by rw [if_pos (by omega)], ?_, fun w => ⟨fun _ => w, fun z => absurd pl z⟩⟩
    rw [f_Mo_need_2, if_pos pl]
  | succ d ih =>
    intro i fuel X hi hf h8
    obtain ⟨fuel, rfl⟩ : ∃ k, fuel = k + 1 := ⟨fuel - 1, by omega⟩
    have pl : ¬ X.1 0 8 ≤ nI i := by
      rw [h8]; intro z
      have := (nI_le_iff (by omega) (by omega)).mp z
      omega
    have hin : vp_in (nI i) 400 := by rw [in_iff, i_nI (by omega)]; omega
    have eqi : nI i = nI t0 ↔ i = t0 := nI_inj (by omega) (by omega)
    have hcl : (nI i).toNatClampNeg = i := nI_clamp (by omega)
    let v : Int32 := if i = t0 then 1 else 0
    obtain ⟨Y, y1, y2, y3, y4⟩ := ih (i + 1) fuel (sA X 29 (nI i) v) (by omega) (by omega) h8
    refine ⟨Y, (m29.sA X _ _).tr y1, fun j hj => ?_, ?_, fun w => ⟨fun z => absurd z pl, fun _ => ⟨fun z => ⟨hin, ?_⟩, fun z => ⟨hin, ?_⟩⟩⟩⟩
    · rw [y2 j hj, sA1, if_pos rfl, hcl]
      by_cases z : j = i
      · rw [if_pos (show j < i + 1 by omega), if_pos z, if_neg (show ¬ j < i by omega), z]
      · rw [if_neg z]
        by_cases z2 : j < i
        · rw [if_pos (show j < i + 1 by omega), if_pos z2]
        · rw [if_neg (show ¬ j < i + 1 by omega), if_neg z2]
    · rw [f_Mo_need_2, if_neg pl, ← y3]
      by_cases z : i = t0
      · rw [if_pos (eqi.mpr z), f_Mo_need_25, vn1, f_Mo_need_26, ← nI_succ]
        show _ = f_Mo_need_2 fuel (nI t0) (nI (i + 1)) (sA X 29 (nI i) (if i = t0 then 1 else 0))
        rw [if_pos z]
      · rw [if_neg (fun w => z (eqi.mp w)), f_Mo_need_25, vn0, f_Mo_need_26, ← nI_succ]
        show _ = f_Mo_need_2 fuel (nI t0) (nI (i + 1)) (sA X 29 (nI i) (if i = t0 then 1 else 0))
        rw [if_neg z]
    · have := y4 w
      show k_Mo_need_2 fuel (nI t0) (nI i + 1) (sA X 29 (nI i) (vp_nar .boolean 1))
      rw [vn1, ← nI_succ]
      have ev : v = 1 := by show (if i = t0 then (1 : Int32) else 0) = 1; rw [if_pos (eqi.mp z)]
      rw [ev] at this; exact this
    · have := y4 w
      show k_Mo_need_2 fuel (nI t0) (nI i + 1) (sA X 29 (nI i) (vp_nar .boolean 0))
      rw [vn0, ← nI_succ]
      have ev : v = 0 := by show (if i = t0 then (1 : Int32) else 0) = 0; rw [if_neg (fun w => z (eqi.mpr w))]
      rw [ev] at this; exact this
/-- the marks of one term's parts -/
theorem ne34s {i fuel : Nat} {X : St} (hi : i < 400) (hW : tmW τ i) (hK : kdW τ i) (hX : ∀ c, ¬ c = 0 → ¬ c = 29 → X.1 c = τ.1 c) : ∃ Y, m29 X Y ∧ (∀ j, ¬ X.1 29 j = 0 → ¬ Y.1 29 j = 0) ∧ (∀ j, ¬ Y.1 29 j = 0 → ¬ X.1 29 j = 0 ∨ (¬ X.1 29 i = 0 ∧ ∀ S : Nat → Prop, c34 τ S i → S j)) ∧ (∀ j, i ≤ j → Y.1 29 j = X.1 29 j) ∧ (¬ X.1 29 i = 0 → c34 τ (fun j => ¬ Y.1 29 j = 0) i) ∧
    f_Mo_need_34 (fuel + 1) (nI i) X = f_Mo_need_34 fuel (nI i + (-1)) Y ∧ (k_Mo_need_34 fuel (nI i + (-1)) Y → k_Mo_need_34 (fuel + 1) (nI i) X) := by
  have np : ¬ nI i < 0 := nI_pos (by omega)
  have hcl : (nI i).toNatClampNeg = i := nI_clamp (by omega)
  have hin : vp_in (nI i) 400 := by rw [in_iff, i_nI (by omega)]; omega
  have c5 : ∀ Z : St, m29 X Z → Z.1 5 (nI i).toNatClampNeg = τ.1 5 i := fun Z hZ => by rw [hcl, hZ.1 5 (by omega), hX 5 (by omega) (by omega)]
  have c8 : ∀ Z : St, m29 X Z → Z.1 8 (nI i).toNatClampNeg = τ.1 8 i := fun Z hZ => by rw [hcl, hZ.1 8 (by omega), hX 8 (by omega) (by omega)]
  have c9 : ∀ Z : St, m29 X Z → Z.1 9 (nI i).toNatClampNeg = τ.1 9 i := fun Z hZ => by rw [hcl, hZ.1 9 (by omega), hX 9 (by omega) (by omega)]
  have r0 := m29.rf X
  have d34 : ¬ (3 : Int32) = 4 := by decide
  have c29 : X.1 29 (nI i).toNatClampNeg = X.1 29 i := by rw [hcl]
  by_cases w0 : X.1 29 i = 0
  · refine ⟨X, r0, fun j h => h, fun j h => Or.inl h, fun _ _ => rfl, fun z => absurd w0 z, ?_, fun w => ⟨fun z => absurd z np, fun _ => ⟨hin, fun _ => ⟨hin, fun _ => w, fun z => absurd (c29.trans w0) z⟩, fun z => absurd (c29.trans w0) z⟩⟩⟩
    rw [f_Mo_need_34, if_neg np, if_pos (c29.trans w0), f_Mo_need_69, if_pos (c29.trans w0)]; rfl
  · have w0' : ¬ X.1 29 (nI i).toNatClampNeg = 0 := fun z => w0 (c29.symm.trans z)
    by_cases k3 : τ.1 5 i = 3
    · obtain ⟨a, b, a1, b1, a2, b2⟩ := two34 hW hK (Or.inl k3)
      have hca : (nI a).toNatClampNeg = a := nI_clamp (by omega)
      have hcb : (nI b).toNatClampNeg = b := nI_clamp (by omega)
      have hia : vp_in (nI a) 400 := by rw [in_iff, i_nI (by omega)]; omega
      have hib : vp_in (nI b) 400 := by rw [in_iff, i_nI (by omega)]; omega
      let Z : St := sA X 29 (nI a) 1
      let Y : St := sA Z 29 (nI b) 1
      have mz : m29 X Z := m29.sA X _ _
      have my : m29 X Y := mz.tr (m29.sA Z _ _)
      have vz : ∀ j, Z.1 29 j = if j = a then 1 else X.1 29 j := fun j => by
        show (sA X 29 (nI a) 1).1 29 j = _
        rw [sA1, if_pos rfl, hca]
      have vy : ∀ j, Y.1 29 j = if j = b then 1 else (if j = a then 1 else X.1 29 j) := fun j => by
        show (sA Z 29 (nI b) 1).1 29 j = _
        rw [sA1, if_pos rfl, hcb, vz]
      have zi : ¬ Z.1 29 (nI i).toNatClampNeg = 0 := by rw [hcl, vz, if_neg (by omega)]; exact w0
      refine ⟨Y, my, fun j h => ?_, fun j h => ?_, fun j h => ?_, fun _ => ⟨fun _ => ?_, fun z => absurd (k3.symm.trans z) d34⟩, ?_, fun w => ⟨fun z => absurd z np, fun _ => ⟨hin, fun z => absurd z w0', fun _ => ⟨hin, fun _ => ⟨hin, ?_⟩, fun z => absurd ((c5 X r0).trans k3) z⟩⟩⟩⟩
      · rw [vy]
        by_cases z : j = b
        · rw [if_pos z]; decide
        · rw [if_neg z]
          by_cases z2 : j = a
          · rw [if_pos z2]; decide
          · rw [if_neg z2]; exact h
      · by_cases z : j = b
        · exact Or.inr ⟨w0, fun S hS => by
            have := (hS.1 k3).2
            rw [b2, hcb] at this; rw [z]; exact this⟩
        · by_cases z2 : j = a
          · exact Or.inr ⟨w0, fun S hS => by
              have := (hS.1 k3).1
              rw [a2, hca] at this; rw [z2]; exact this⟩
          · rw [vy, if_neg z, if_neg z2] at h; exact Or.inl h
      · rw [vy, if_neg (by omega), if_neg (by omega)]
      · show ¬ Y.1 29 (τ.1 8 i).toNatClampNeg = 0 ∧ ¬ Y.1 29 (τ.1 9 i).toNatClampNeg = 0
        rw [a2, b2, hca, hcb]
        refine ⟨?_, ?_⟩
        · rw [vy, if_pos (show a = a from rfl)]
          by_cases z : a = b
          · rw [if_pos z]; decide
          · rw [if_neg z]; decide
        · rw [vy, if_pos (show b = b from rfl)]; decide
      · rw [f_Mo_need_34, if_neg np, if_neg w0', if_pos ((c5 X r0).trans k3), c8 X r0, a2, vn1]
        show f_Mo_need_69 (f_Mo_need_34 fuel) (nI i) Z = _
        rw [f_Mo_need_69, if_neg zi, if_pos ((c5 Z mz).trans k3), f_Mo_need_98, c9 Z mz, b2, vn1]; rfl
      · rw [c8 X r0, a2, vn1]
        refine ⟨hia, hin, fun z => absurd z zi, fun _ => ⟨hin, fun _ => ⟨hin, ?_⟩, fun z => absurd ((c5 Z mz).trans k3) z⟩⟩
        show vp_in (Z.1 9 (nI i).toNatClampNeg) 400 ∧ k_Mo_need_34 fuel (nI i + (-1)) (sA Z 29 (Z.1 9 (nI i).toNatClampNeg) (vp_nar .boolean 1))
        rw [c9 Z mz, b2, vn1]
        exact ⟨hib, w⟩
    · have n3 : ¬ X.1 5 (nI i).toNatClampNeg = 3 := fun z => k3 ((c5 X r0).symm.trans z)
      by_cases k4 : τ.1 5 i = 4
      · obtain ⟨a, b, a1, b1, a2, b2⟩ := two34 hW hK (Or.inr k4)
        have hcb : (nI b).toNatClampNeg = b := nI_clamp (by omega)
        have hib : vp_in (nI b) 400 := by rw [in_iff, i_nI (by omega)]; omega
        let Y : St := sA X 29 (nI b) 1
        have my : m29 X Y := m29.sA X _ _
        have vy : ∀ j, Y.1 29 j = if j = b then 1 else X.1 29 j := fun j => by
          show (sA X 29 (nI b) 1).1 29 j = _
          rw [sA1, if_pos rfl, hcb]
        refine ⟨Y, my, fun j h => ?_, fun j h => ?_, fun j h => ?_, fun _ => ⟨fun z => absurd z k3, fun _ => ?_⟩, ?_, fun w => ⟨fun z => absurd z np, fun _ => ⟨hin, fun z => absurd z w0', fun _ => ⟨hin, fun z => absurd z n3, fun _ => ⟨hin, fun z => absurd z w0', fun _ => ⟨hin, fun z => absurd z n3, fun _ => ⟨hin, fun _ => ⟨hin, ?_⟩, fun z => absurd ((c5 X r0).trans k4) z⟩⟩⟩⟩⟩⟩⟩
        · rw [vy]
          by_cases z : j = b
          · rw [if_pos z]; decide
          · rw [if_neg z]; exact h
        · by_cases z : j = b
          · exact Or.inr ⟨w0, fun S hS => by
              have := hS.2 k4
              rw [b2, hcb] at this; rw [z]; exact this⟩
          · rw [vy, if_neg z] at h; exact Or.inl h
        · rw [vy, if_neg (by omega)]
        · show ¬ Y.1 29 (τ.1 9 i).toNatClampNeg = 0
          rw [b2, hcb, vy, if_pos rfl]; decide
        · rw [f_Mo_need_34, if_neg np, if_neg w0', if_neg n3, f_Mo_need_69, if_neg w0', if_neg n3, if_pos ((c5 X r0).trans k4), f_Mo_need_98, c9 X r0, b2, vn1]; rfl
        · rw [c9 X r0, b2, vn1]
          exact ⟨hib, w⟩
      · have n4 : ¬ X.1 5 (nI i).toNatClampNeg = 4 := fun z => k4 ((c5 X r0).symm.trans z)
        refine ⟨X, r0, fun j h => h, fun j h => Or.inl h, fun _ _ => rfl, fun _ => ⟨fun z => absurd z k3, fun z => absurd z k4⟩, ?_, fun w => ⟨fun z => absurd z np, fun _ => ⟨hin, fun z => absurd z w0', fun _ => ⟨hin, fun z => absurd z n3, fun _ => ⟨hin, fun z => absurd z w0', fun _ => ⟨hin, fun z => absurd z n3, fun _ => ⟨hin, fun z => absurd z n4, fun _ => w⟩⟩⟩⟩⟩⟩⟩
        rw [f_Mo_need_34, if_neg np, if_neg w0', if_neg n3, f_Mo_need_69, if_neg w0', if_neg n3, if_neg n4]; rfl
theorem ne34 {t0 : Nat} {S : Nat → Prop} (hW : ∀ t, t < n → tmW τ t) (hK : ∀ t, t < n → kdW τ t) (hn : n ≤ 400) (ht : t0 < n) (hS : ∀ j, j < n → S j → c34 τ S j) :
    ∀ (i fuel : Nat) (X : St), i ≤ t0 + 1 → i < fuel → (∀ c, ¬ c = 0 → ¬ c = 29 → X.1 c = τ.1 c) → (∀ j, j ≤ t0 → ¬ X.1 29 j = 0 → S j) → ¬ X.1 29 t0 = 0 → (∀ j, i ≤ j → j ≤ t0 → ¬ X.1 29 j = 0 → c34 τ (fun p => ¬ X.1 29 p = 0) j) →
    k_Mo_need_34 fuel (nI i - 1) X ∧ ∃ Y, f_Mo_need_34 fuel (nI i - 1) X = Y ∧ m29 X Y ∧ (∀ j, j ≤ t0 → ¬ Y.1 29 j = 0 → S j) ∧ ¬ Y.1 29 t0 = 0 ∧ (∀ j, j ≤ t0 → ¬ Y.1 29 j = 0 → c34 τ (fun p => ¬ Y.1 29 p = 0) j) := by
  intro i
  induction i with
  | zero =>
    intro fuel X hi hf hX a b c
    obtain ⟨fuel, rfl⟩ : ∃ k, fuel = k + 1 := ⟨fuel - 1, by omega⟩
    have e : nI 0 - 1 < 0 := by rw [nI_0]; decide
    refine ⟨⟨fun _ => trivial, fun z => absurd e z⟩, X, ?_, m29.rf X, a, b, fun j hj => c j (Nat.zero_le j) hj⟩
    rw [f_Mo_need_34, if_pos e]
  | succ i ih =>
    intro fuel X hi hf hX a b c
    obtain ⟨fuel, rfl⟩ : ∃ k, fuel = k + 1 := ⟨fuel - 1, by omega⟩
    rw [nI_pred]
    have em : nI i + (-1) = nI i - 1 := by rw [← Int32.sub_eq_add_neg]
    obtain ⟨Y, y1, y2, y3, y4, y5, y6, y7⟩ := ne34s (fuel := fuel) (show i < 400 by omega) (hW i (by omega)) (hK i (by omega)) hX
    have up : ∀ j, c34 τ (fun p => ¬ X.1 29 p = 0) j → c34 τ (fun p => ¬ Y.1 29 p = 0) j := fun j h => ⟨fun z => ⟨y2 _ (h.1 z).1, y2 _ (h.1 z).2⟩, fun z => y2 _ (h.2 z)⟩
    obtain ⟨k0, Z, z1, z2, z3, z4, z5⟩ := ih fuel Y (by omega) (by omega) (fun c q1 q2 => (y1.1 c q2).trans (hX c q1 q2)) (fun j hj w => by
      rcases y3 j w with z | ⟨z1, z2⟩
      · exact a j hj z
      · exact z2 S (hS i (by omega) (a i (by omega) z1))) (y2 t0 b) (fun j h1 h2 w => by
      rw [y4 j h1] at w
      by_cases z : j = i
      · rw [z] at w ⊢; exact y5 w
      · exact up j (c j (by omega) h2 w))
    rw [← em] at k0 z1
    exact ⟨y7 k0, Z, y6.trans z1, y1.tr z2, z3, z4, z5⟩
theorem ne_ok {t0 : Nat} {X : St} {S : Nat → Prop} (hW : ∀ t, t < n → tmW τ t) (hK : ∀ t, t < n → kdW τ t) (hn : n ≤ 100) (h8 : X.1 0 8 = nI n) (ht : t0 < n) (hX : ∀ c, ¬ c = 0 → ¬ c = 29 → X.1 c = τ.1 c) (hS : ∀ j, j < n → S j → c34 τ S j) (hS0 : S t0) : k_Mo_need (nI t0) X ∧ ∃ Y, f_Mo_need (nI t0) X = Y ∧ m29 X Y ∧ (∀ j, j ≤ t0 → ¬ Y.1 29 j = 0 → S j) ∧ ¬ Y.1 29 t0 = 0 ∧ (∀ j, j ≤ t0 → ¬ Y.1 29 j = 0 → c34 τ (fun p => ¬ Y.1 29 p = 0) j) := by
  obtain ⟨Y0, a1, a2, a3, a4⟩ := ne2 ht (by omega) n 0 1000 X (by omega) (by omega) h8
  rw [nI_0] at a3 a4
  have mk : ∀ j, j < n → Y0.1 29 j = if j = t0 then 1 else 0 := fun j hj => by rw [a2 j hj, if_neg (by omega)]
  have e0 : nI (t0 + 1) - 1 = nI t0 := nI_pred t0
  obtain ⟨k0, Y, z1, z2, z3, z4, z5⟩ := ne34 hW hK (by omega) ht hS (t0 + 1) 1000 Y0 (by omega) (by omega) (fun c q1 q2 => (a1.1 c q2).trans (hX c q1 q2)) (fun j hj w => by
    rw [mk j (by omega)] at w
    by_cases z : j = t0
    · rw [z]; exact hS0
    · rw [if_neg z] at w; exact absurd rfl w) (by rw [mk t0 ht, if_pos rfl]; decide) (fun j h1 h2 => by omega)
  rw [e0] at k0 z1
  exact ⟨a4 k0, Y, a3.trans z1, a1.tr z2, z3, z4, z5⟩
end NE2
