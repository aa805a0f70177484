-- which terms are looked at for what is in the way
def m29 (X Y : St) : Prop := (∀ c, ¬ c = 29 → Y.1 c = X.1 c) ∧ Y.2 = X.2
theorem m29.rf (X : St) : m29 X X := ⟨fun _ _ => rfl, rfl⟩
theorem m29.tr {X Y Z : St} (h1 : m29 X Y) (h2 : m29 Y Z) : m29 X Z := ⟨fun c hc => (h2.1 c hc).trans (h1.1 c hc), h2.2.trans h1.2⟩
theorem m29.sA (X : St) (i v : Int32) : m29 X (sA X 29 i v) := ⟨fun c hc => by
  show pu X.1 29 _ c = _
  rw [pu_at, if_neg hc], rfl⟩
theorem vn1 : vp_nar .boolean 1 = 1 := by decide +kernel
theorem vn0 : vp_nar .boolean 0 = 0 := by decide +kernel
section NEED
variable {n : Nat} {τ : St}
theorem nf2 {t0 : Nat} {x : Int32} (ht : t0 < n) (hn : n ≤ 400) : ∀ (d i fuel : Nat) (X : St), i + d = n → d < fuel → X.1 0 8 = nI n → ∃ Y, m29 X Y ∧ (∀ j, j < n → Y.1 29 j = if j < i then X.1 29 j else (if j = t0 then 1 else 0)) ∧ f_Mo_needFor_2 fuel (nI t0) x (nI i) X = f_Mo_needFor_34 1000 x (nI t0) Y ∧ (k_Mo_needFor_34 1000 x (nI t0) Y → k_Mo_needFor_2 fuel (nI t0) x (nI i) X) := by
  intro d
  induction d with
  | zero =>
    intro i fuel X hi hf h8
    obtain ⟨fuel, rfl⟩ : ∃ k, fuel = k + 1 := ⟨fuel - 1, by omega⟩
    have pl : X.1 0 8 ≤ nI i := by rw [h8]; exact (nI_le_iff (by omega) (by omega)).mpr (by omega)
    refine ⟨X, m29.rf X, fun j hj => by rw [if_pos (by omega)], ?_, fun w => ⟨fun _ => w, fun z => absurd pl z⟩⟩
    rw [f_Mo_needFor_2, if_pos pl]
  | succ d ih =>
    intro i fuel X hi hf h8
    obtain ⟨fuel, rfl⟩ : ∃ k, fuel = k + 1 := ⟨fuel - 1, by omega⟩
    have pl : ¬ X.1 0 8 ≤ nI i := by
      rw [h8]; intro z
      have := (nI_le_iff (by omega) (by omega)).mp z
      omega
    have hin : vp_in (nI i) 400 := by rw [in_iff, i_nI (by omega)]; omega
    have eqi : nI i = nI t0 ↔ i = t0 := nI_inj (by omega) (by omega)
    have hcl : (nI i).toNatClampNeg = i := nI_clamp (by omega)
    let v : Int32 := if i = t0 then 1 else 0
    obtain ⟨Y, y1, y2, y3, y4⟩ := ih (i + 1) fuel (sA X 29 (nI i) v) (by omega) (by omega) h8
    refine ⟨Y, (m29.sA X _ _).tr y1, fun j hj => ?_, ?_, fun w => ⟨fun z => absurd z pl, fun _ => ⟨fun z => ⟨hin, ?_⟩, fun z => ⟨hin, ?_⟩⟩⟩⟩
    · rw [y2 j hj, sA1, if_pos rfl, hcl]
      by_cases z : j = i
      · rw [if_pos (show j < i + 1 by omega), if_pos z, if_neg (show ¬ j < i by omega), z]
      · rw [if_neg z]
        by_cases z2 : j < i
        · rw [if_pos (show j < i + 1 by omega), if_pos z2]
        · rw [if_neg (show ¬ j < i + 1 by omega), if_neg z2]
    · rw [f_Mo_needFor_2, if_neg pl, ← y3]
      by_cases z : i = t0
      · rw [if_pos (eqi.mpr z), f_Mo_needFor_25, vn1, f_Mo_needFor_26, ← nI_succ]
        show _ = f_Mo_needFor_2 fuel (nI t0) x (nI (i + 1)) (sA X 29 (nI i) (if i = t0 then 1 else 0))
        rw [if_pos z]
      · rw [if_neg (fun w => z (eqi.mp w)), f_Mo_needFor_25, vn0, f_Mo_needFor_26, ← nI_succ]
        show _ = f_Mo_needFor_2 fuel (nI t0) x (nI (i + 1)) (sA X 29 (nI i) (if i = t0 then 1 else 0))
        rw [if_neg z]
    · have := y4 w
      show k_Mo_needFor_2 fuel (nI t0) x (nI i + 1) (sA X 29 (nI i) (vp_nar .boolean 1))
      rw [vn1, ← nI_succ]
      have ev : v = 1 := by show (if i = t0 then (1 : Int32) else 0) = 1; rw [if_pos (eqi.mp z)]
      rw [ev] at this; exact this
    · have := y4 w
      show k_Mo_needFor_2 fuel (nI t0) x (nI i + 1) (sA X 29 (nI i) (vp_nar .boolean 0))
      rw [vn0, ← nI_succ]
      have ev : v = 0 := by show (if i = t0 then (1 : Int32) else 0) = 0; rw [if_neg (fun w => z (eqi.mpr w))]
      rw [ev] at this; exact this
/-- the marks of the parts of one term -/
theorem nf87 {i : Nat} {x s : Int32} {X : St} {F : Int32 → Int32 → St → St} {K : Int32 → Int32 → St → Prop} (hi : i < 400) (hW : tmW X i) (hs : s = 0 ∨ s = 1) : ∃ Y, m29 X Y ∧ (∀ j, j < 400 → (s = 1 → prt X i j → Y.1 29 j = 1) ∧ (¬ (s = 1 ∧ prt X i j) → Y.1 29 j = X.1 29 j)) ∧ f_Mo_needFor_87 F x (nI i) s X = F x (nI i + (-1)) Y ∧ (K x (nI i + (-1)) Y → k_Mo_needFor_87 K x (nI i) s X) := by
  have hcl : (nI i).toNatClampNeg = i := nI_clamp (by omega)
  have hin : vp_in (nI i) 400 := by rw [in_iff, i_nI (by omega)]; omega
  rcases hs with rfl | rfl
  · refine ⟨X, m29.rf X, fun j _ => ⟨fun z => absurd z (by decide), fun _ => rfl⟩, ?_, fun w => ⟨fun _ => ⟨fun _ => w, fun z => absurd rfl z⟩, fun z => absurd rfl z⟩⟩
    rw [f_Mo_needFor_87, if_pos rfl, f_Mo_needFor_115, if_pos rfl]; rfl
  · have n1 : ¬ (1 : Int32) = 0 := by decide
    have g8 : X.1 8 i < 0 ↔ X.1 8 i = -1 := i_neg (n := i) (by omega) hW.1
    have g9 : X.1 9 i < 0 ↔ X.1 9 i = -1 := i_neg (n := i) (by omega) hW.2.1
    -- the second part
    have r115 : ∀ Z : St, Z.1 9 = X.1 9 → ∃ Y, m29 Z Y ∧ (∀ j, j < 400 → (X.1 9 i = nI j → Y.1 29 j = 1) ∧ (¬ X.1 9 i = nI j → Y.1 29 j = Z.1 29 j)) ∧ f_Mo_needFor_115 F x (nI i) 1 Z = F x (nI i + (-1)) Y ∧ (K x (nI i + (-1)) Y → k_Mo_needFor_115 K x (nI i) 1 Z) := fun Z hZ => by
      rcases hW.2.1 with h9 | ⟨b, b1, b2⟩
      · refine ⟨Z, m29.rf Z, fun j hj => ⟨fun z => absurd (z.symm.trans h9) (nI_ne_m1 (by omega)), fun _ => rfl⟩, ?_, fun w => ⟨fun z => absurd z n1, fun _ => ⟨hin, fun _ => w, fun z => absurd (by rw [hcl, hZ]; exact g9.mpr h9) z⟩⟩⟩
        rw [f_Mo_needFor_115, if_neg n1, hcl, hZ, if_pos (g9.mpr h9)]; rfl
      · have hcb : (nI b).toNatClampNeg = b := nI_clamp (by omega)
        have hib : vp_in (nI b) 400 := by rw [in_iff, i_nI (by omega)]; omega
        have ng : ¬ X.1 9 i < 0 := fun z => by rw [b2] at z; exact nI_pos (by omega) z
        have eqb : ∀ j, j < 400 → (nI b = nI j ↔ j = b) := fun j hj => ⟨fun z => ((nI_inj (by omega) (by omega)).mp z).symm, fun z => by rw [z]⟩
        refine ⟨sA Z 29 (nI b) 1, m29.sA Z _ _, fun j hj => ?_, ?_, fun w => ⟨fun z => absurd z n1, fun _ => ⟨hin, fun z => absurd (by rw [hcl, hZ] at z; exact z) ng, fun _ => ⟨hin, ?_⟩⟩⟩⟩
        · rw [sA1, if_pos rfl, hcb, b2, eqb j hj]
          exact ⟨fun z => by rw [if_pos z], fun z => by rw [if_neg z]⟩
        · rw [f_Mo_needFor_115, if_neg n1, hcl, hZ, if_neg ng, b2, vn1]; rfl
        · rw [hcl, hZ, b2, vn1]
          exact ⟨hib, w⟩
    rcases hW.1 with h8 | ⟨a, a1, a2⟩
    · have h9 := hW.2.2.1 h8
      obtain ⟨Y, y1, y2, y3, y4⟩ := r115 X rfl
      refine ⟨Y, y1, fun j hj => ?_, ?_, fun w => ⟨fun z => absurd z n1, fun _ => ⟨hin, fun _ => y4 w, fun z => absurd (by rw [hcl]; exact g8.mpr h8) z⟩⟩⟩
      · have nj : ¬ (-1 : Int32) = nI j := fun z => nI_ne_m1 (i := j) (by omega) z.symm
        refine ⟨fun _ z => ?_, fun _ => (y2 j hj).2 (by rw [h9]; exact nj)⟩
        rcases z.2 with z | z
        · rw [h8] at z; exact absurd z nj
        · rw [h9] at z; exact absurd z nj
      · rw [f_Mo_needFor_87, if_neg n1, hcl, if_pos (g8.mpr h8), y3]
    · have hca : (nI a).toNatClampNeg = a := nI_clamp (by omega)
      have hia : vp_in (nI a) 400 := by rw [in_iff, i_nI (by omega)]; omega
      have ng : ¬ X.1 8 i < 0 := fun z => by rw [a2] at z; exact nI_pos (by omega) z
      have eqa : ∀ j, j < 400 → (nI a = nI j ↔ j = a) := fun j hj => ⟨fun z => ((nI_inj (by omega) (by omega)).mp z).symm, fun z => by rw [z]⟩
      obtain ⟨Y, y1, y2, y3, y4⟩ := r115 (sA X 29 (nI a) 1) rfl
      refine ⟨Y, (m29.sA X _ _).tr y1, fun j hj => ?_, ?_, fun w => ⟨fun z => absurd z n1, fun _ => ⟨hin, fun z => absurd (by rw [hcl] at z; exact z) ng, fun _ => ⟨hin, ?_⟩⟩⟩⟩
      · obtain ⟨q1, q2⟩ := y2 j hj
        rw [sA1, if_pos rfl, hca] at q2
        refine ⟨fun _ z => ?_, fun z => ?_⟩
        · rcases z.2 with z | z
          · rw [a2, eqa j hj] at z
            by_cases w : X.1 9 i = nI j
            · exact q1 w
            · rw [q2 w, if_pos z]
          · exact q1 z
        · rw [q2 (fun w => z ⟨rfl, hj, Or.inr w⟩), if_neg]
          intro w
          exact z ⟨rfl, hj, Or.inl (by rw [a2, w])⟩
      · rw [f_Mo_needFor_87, if_neg n1, hcl, if_neg ng, a2, vn1, y3]
      · rw [hcl, a2, vn1]
        exact ⟨hia, y4 w⟩
theorem nf34 {t0 : Nat} {x : Int32} {S : Nat → Prop} (hW : ∀ t, t < n → tmW τ t) (hK : ∀ t, t < n → kdW τ t) (hn : n ≤ 400) (ht : t0 < n) (hx : X3 x) (hS : ∀ j, S j → fr τ x j → ∀ p, prt τ j p → S p) :
    ∀ (i fuel : Nat) (X : St), i ≤ t0 + 1 → i < fuel → (∀ c, ¬ c = 29 → X.1 c = τ.1 c) → (∀ j, j ≤ t0 → ¬ X.1 29 j = 0 → S j) → ¬ X.1 29 t0 = 0 → (∀ j, i ≤ j → j ≤ t0 → ¬ X.1 29 j = 0 → fr τ x j → ∀ p, prt τ j p → ¬ X.1 29 p = 0) →
    k_Mo_needFor_34 fuel x (nI i - 1) X ∧ ∃ Y, f_Mo_needFor_34 fuel x (nI i - 1) X = Y ∧ m29 X Y ∧ (∀ j, j ≤ t0 → ¬ Y.1 29 j = 0 → S j) ∧ ¬ Y.1 29 t0 = 0 ∧ (∀ j, j ≤ t0 → ¬ Y.1 29 j = 0 → fr τ x j → ∀ p, prt τ j p → ¬ Y.1 29 p = 0) := by
  intro i
  induction i with
  | zero =>
    intro fuel X hi hf hX a b c
    obtain ⟨fuel, rfl⟩ : ∃ k, fuel = k + 1 := ⟨fuel - 1, by omega⟩
    have e : nI 0 - 1 < 0 := by rw [nI_0]; decide
    refine ⟨⟨fun _ => trivial, fun z => absurd e z⟩, X, ?_, m29.rf X, a, b, fun j hj => c j (Nat.zero_le j) hj⟩
    rw [f_Mo_needFor_34, if_pos e]
  | succ i ih =>
    intro fuel X hi hf hX a b c
    obtain ⟨fuel, rfl⟩ : ∃ k, fuel = k + 1 := ⟨fuel - 1, by omega⟩
    rw [nI_pred]
    have np : ¬ nI i < 0 := nI_pos (by omega)
    have hcl : (nI i).toNatClampNeg = i := nI_clamp (by omega)
    have hin : vp_in (nI i) 400 := by rw [in_iff, i_nI (by omega)]; omega
    have hWi := hW i (by omega)
    have hWX : tmW X i := hWi.cong (n := 400) (by omega) (by omega) (fun c q1 q2 j _ => by rw [hX c (by omega)])
    have eprt : ∀ j, prt X i j ↔ prt τ i j := fun j => by unfold prt; rw [hX 8 (by omega), hX 9 (by omega)]
    have em : nI i + (-1) = nI i - 1 := by rw [← Int32.sub_eq_add_neg]
    -- is it marked, and is the variable free in it
    have key : ∀ s : Int32, (s = 0 ∨ s = 1) → (s = 1 → ¬ X.1 29 i = 0 ∧ fr τ x i) → (¬ X.1 29 i = 0 → fr τ x i → s = 1) →
        k_Mo_needFor_87 (k_Mo_needFor_34 fuel) x (nI i) s X ∧ ∃ Y, f_Mo_needFor_87 (f_Mo_needFor_34 fuel) x (nI i) s X = Y ∧ m29 X Y ∧ (∀ j, j ≤ t0 → ¬ Y.1 29 j = 0 → S j) ∧ ¬ Y.1 29 t0 = 0 ∧ (∀ j, j ≤ t0 → ¬ Y.1 29 j = 0 → fr τ x j → ∀ p, prt τ j p → ¬ Y.1 29 p = 0) := fun s hs s1 s2 => by
      obtain ⟨Y, y1, y2, y3, y4⟩ := nf87 (F := f_Mo_needFor_34 fuel) (K := k_Mo_needFor_34 fuel) (x := x) (by omega) hWX hs
      have mono : ∀ j, j < 400 → ¬ X.1 29 j = 0 → ¬ Y.1 29 j = 0 := fun j hj w => by
        by_cases z : s = 1 ∧ prt X i j
        · rw [(y2 j hj).1 z.1 z.2]; decide
        · rw [(y2 j hj).2 z]; exact w
      have ge : ∀ j, i ≤ j → j < 400 → Y.1 29 j = X.1 29 j := fun j h1 h2 => (y2 j h2).2 (fun z => by
        rcases z.2.2 with z | z
        · rcases hWX.1 with w | ⟨k, k1, k2⟩
          · exact nI_ne_m1 (i := j) (by omega) (z.symm.trans w)
          · have := (nI_inj (by omega) (by omega)).mp (z.symm.trans k2); omega
        · rcases hWX.2.1 with w | ⟨k, k1, k2⟩
          · exact nI_ne_m1 (i := j) (by omega) (z.symm.trans w)
          · have := (nI_inj (by omega) (by omega)).mp (z.symm.trans k2); omega)
      obtain ⟨k0, Z, z1, z2, z3, z4, z5⟩ := ih fuel Y (by omega) (by omega) (fun c hc => (y1.1 c hc).trans (hX c hc)) (fun j hj w => by
        by_cases z : s = 1 ∧ prt X i j
        · obtain ⟨m1, m2⟩ := s1 z.1
          exact hS i (a i (by omega) m1) m2 j ((eprt j).mp z.2)
        · rw [(y2 j (by omega)).2 z] at w
          exact a j hj w) (mono t0 (by omega) b) (fun j h1 h2 w hf2 p hp => by
        rw [ge j h1 (by omega)] at w
        by_cases z : j = i
        · subst z
          rw [(y2 p hp.1).1 (s2 w hf2) ((eprt p).mpr hp)]; decide
        · exact mono p hp.1 (c j (by omega) h2 w hf2 p hp))
      rw [← em] at k0 z1
      exact ⟨y4 k0, Z, y3.trans z1, y1.tr z2, z3, z4, z5⟩
    have c29 : X.1 29 (nI i).toNatClampNeg = X.1 29 i := by rw [hcl]
    have fri : ((X.1 13 (nI i).toNatClampNeg >>> (x &&& 31)) &&& 1) = 1 ↔ fr τ x i := by
      rw [hcl, hX 13 (by omega)]; rfl
    by_cases w0 : X.1 29 i = 0
    · obtain ⟨k0, Y, y1, y2⟩ := key 0 (Or.inl rfl) (fun z => absurd z (by decide)) (fun z => absurd w0 z)
      refine ⟨⟨fun z => absurd z np, fun _ => ⟨hin, fun _ => k0, fun z => absurd (c29.trans w0) z⟩⟩, Y, ?_, y2⟩
      rw [f_Mo_needFor_34, if_neg np, if_pos (c29.trans w0)]; exact y1
    · have w0' : ¬ X.1 29 (nI i).toNatClampNeg = 0 := fun z => w0 (c29.symm.trans z)
      -- the look at the bit
      have r68 : k_Mo_needFor_68 (k_Mo_needFor_34 fuel) x (nI i) X ∧ ∃ Y, f_Mo_needFor_68 (f_Mo_needFor_34 fuel) x (nI i) X = Y ∧ m29 X Y ∧ (∀ j, j ≤ t0 → ¬ Y.1 29 j = 0 → S j) ∧ ¬ Y.1 29 t0 = 0 ∧ (∀ j, j ≤ t0 → ¬ Y.1 29 j = 0 → fr τ x j → ∀ p, prt τ j p → ¬ Y.1 29 p = 0) := by
        by_cases w1 : fr τ x i
        · obtain ⟨k0, Y, y1, y2⟩ := key 1 (Or.inr rfl) (fun _ => ⟨w0, w1⟩) (fun _ _ => rfl)
          refine ⟨⟨hin, fun _ => k0, fun z => absurd (fri.mpr w1) z⟩, Y, ?_, y2⟩
          rw [f_Mo_needFor_68, if_pos (fri.mpr w1)]; exact y1
        · obtain ⟨k0, Y, y1, y2⟩ := key 0 (Or.inl rfl) (fun z => absurd z (by decide)) (fun _ z => absurd z w1)
          refine ⟨⟨hin, fun z => absurd (fri.mp z) w1, fun _ => k0⟩, Y, ?_, y2⟩
          rw [f_Mo_needFor_68, if_neg (fun z => w1 (fri.mp z))]; exact y1
      have c5 : X.1 5 (nI i).toNatClampNeg = τ.1 5 i := by rw [hcl, hX 5 (by omega)]
      have c10 : X.1 10 (nI i).toNatClampNeg = τ.1 10 i := by rw [hcl, hX 10 (by omega)]
      by_cases w1 : τ.1 5 i = 10
      · by_cases w2 : τ.1 10 i = x
        · obtain ⟨k0, Y, y1, y2⟩ := key 0 (Or.inl rfl) (fun z => absurd z (by decide)) (fun _ z => absurd ⟨w1, w2⟩ (fr_inn hW hK hn (by omega) z hx).2)
          refine ⟨⟨fun z => absurd z np, fun _ => ⟨hin, fun z => absurd z w0', fun _ => ⟨hin, fun _ => ⟨hin, fun _ => k0, fun z => absurd (c10.trans w2) z⟩, fun z => absurd (c5.trans w1) z⟩⟩⟩, Y, ?_, y2⟩
          rw [f_Mo_needFor_34, if_neg np, if_neg w0', if_pos (c5.trans w1), if_pos (c10.trans w2)]; exact y1
        · obtain ⟨k0, Y, y1, y2⟩ := r68
          refine ⟨⟨fun z => absurd z np, fun _ => ⟨hin, fun z => absurd z w0', fun _ => ⟨hin, fun _ => ⟨hin, fun z => absurd (c10.symm.trans z) w2, fun _ => k0⟩, fun z => absurd (c5.trans w1) z⟩⟩⟩, Y, ?_, y2⟩
          rw [f_Mo_needFor_34, if_neg np, if_neg w0', if_pos (c5.trans w1), if_neg (fun z => w2 (c10.symm.trans z))]; exact y1
      · obtain ⟨k0, Y, y1, y2⟩ := r68
        refine ⟨⟨fun z => absurd z np, fun _ => ⟨hin, fun z => absurd z w0', fun _ => ⟨hin, fun z => absurd (c5.symm.trans z) w1, fun _ => k0⟩⟩⟩, Y, ?_, y2⟩
        rw [f_Mo_needFor_34, if_neg np, if_neg w0', if_neg (fun z => w1 (c5.symm.trans z))]; exact y1
/-- the marks, and what they tell -/
theorem need_for {t0 u : Nat} {x : Int32} (hW : ∀ t, t < n → tmW τ t) (hK : ∀ t, t < n → kdW τ t) (hn : n ≤ 100) (h8 : τ.1 0 8 = nI n) (ht : t0 < n) (hx : X3 x) : k_Mo_needFor (nI t0) x τ ∧ ∃ Y, f_Mo_needFor (nI t0) x τ = Y ∧ m29 τ Y ∧
    (cln τ x u t0 ↔ ∀ j, j ≤ t0 → ¬ Y.1 29 j = 0 → fr τ x j → ¬ cau τ u j) := by
  obtain ⟨Y0, a1, a2, a3, a4⟩ := nf2 (x := x) ht (by omega) n 0 1000 τ (by omega) (by omega) h8
  rw [nI_0] at a3 a4
  have m0 : ¬ Y0.1 29 t0 = 0 := by rw [a2 t0 ht, if_neg (Nat.not_lt_zero _), if_pos rfl]; decide
  have m1 : ∀ j, j ≤ t0 → ¬ Y0.1 29 j = 0 → j = t0 := fun j hj w => by
    rw [a2 j (by omega), if_neg (Nat.not_lt_zero _)] at w
    by_cases z : j = t0
    · exact z
    · rw [if_neg z] at w; exact absurd rfl w
  have go : ∀ S : Nat → Prop, S t0 → (∀ j, S j → fr τ x j → ∀ p, prt τ j p → S p) → _ := fun S s0 hS => nf34 (S := S) hW hK (by omega) ht hx hS (t0 + 1) 1000 Y0 (Nat.le_refl _) (by omega) a1.1 (fun j hj w => by rw [m1 j hj w]; exact s0) m0 (fun j h1 h2 => by omega)
  rw [nI_pred] at go
  obtain ⟨k0, Y, y1, y2, -, y4, y5⟩ := go (fun _ => True) trivial (fun _ _ _ _ _ => trivial)
  refine ⟨a4 k0, Y, a3.trans y1, a1.tr y2, fun hc j hj w hf => ?_, fun hh => ?_⟩
  · obtain ⟨-, Y', y1', -, y3', -, -⟩ := go (cln τ x u) hc (fun j hj hf p hp => (hj.un hf).2 p hp)
    have : Y' = Y := y1'.symm.trans y1
    subst this
    exact ((y3' j hj w).un hf).1
  · refine ⟨fun j => j ≤ t0 ∧ ¬ Y.1 29 j = 0, ⟨Nat.le_refl _, y4⟩, fun j hj hf => ⟨hh j hj.1 hj.2 hf, fun p hp => ⟨?_, y5 j hj.1 hj.2 hf p hp⟩⟩⟩
    have hWj := hW j (by omega)
    have hp1 := hp.1
    rcases hp.2 with z | z
    · rcases hWj.1 with w | ⟨k, k1, k2⟩
      · exact absurd (z.symm.trans w) (nI_ne_m1 (by omega))
      · have := (nI_inj (by omega) (by omega)).mp (z.symm.trans k2); omega
    · rcases hWj.2.1 with w | ⟨k, k1, k2⟩
      · exact absurd (z.symm.trans w) (nI_ne_m1 (by omega))
      · have := (nI_inj (by omega) (by omega)).mp (z.symm.trans k2); omega
end NEED
