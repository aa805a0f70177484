-- the atoms, one after another
def c0F : Int32 → Option Fr := fun _ => some (0, 1)
section ATM
variable {n : Nat} {τ : St} {x1 x2 x3 x4 x5 x6 x7 : Int32} {c1 c2 c3 : Int32 → Option Fr}
theorem l_z0 (y : Int64) : lg_cmp y 0 = 0 ↔ y.toInt = 0 := (lg_cmp_eq y 0).trans (l_zero y)
theorem at163 {F : Int32 → Int32 → Int32 → Int32 → Int32 → Int32 → Int32 → Int32 → Int32 → St → Int32 × St} {K : Int32 → Int32 → Int32 → Int32 → Int32 → Int32 → Int32 → Int32 → Int32 → St → Prop} {x8 x : Int32} {X : St} (hx : DX x) (hn : n ≤ 100) (hW : ∀ t, t < n → tmW τ t) (hK : ∀ t, t < n → kdW τ t) (w1 : W3 n τ x1 x4 c0F c1) (w2 : W3 n τ x2 x5 c1 c2) (w3 : W3 n τ x3 x6 c2 c3) (f4 : ¬ x1 = -1 → -99 ≤ x4.toInt ∧ x4.toInt ≤ 99) (f5 : ¬ x2 = -1 → -99 ≤ x5.toInt ∧ x5.toInt ≤ 99) (f6 : ¬ x3 = -1 → -99 ≤ x6.toInt ∧ x6.toInt ≤ 99) (h8 : X.1 0 8 = nI n) (hX : ∀ c, ¬ c = 0 → ¬ c = 29 → X.1 c = τ.1 c) (h0 : X.1 0 45 = 0) :
    ∃ Z s, fz X Z ∧ AL Z (c3 x) ∧ (s = 0 ↔ x8 = 0 ∧ (x < 0 ∨ (Z.2 0 49).toInt = 0)) ∧ f_Mo_linear_163 F x1 x2 x3 x4 x5 x6 x7 x8 x X = F x1 x2 x3 x4 x5 x6 x7 s (x + (-1)) Z ∧ (K x1 x2 x3 x4 x5 x6 x7 s (x + (-1)) Z → k_Mo_linear_163 K x1 x2 x3 x4 x5 x6 x7 x8 x X) := by
  have n1 : ¬ (1 : Int32) = 0 := by decide
  let V : St := sG (sG X 0 49 0) 0 50 1
  have zV : fz X V := fz.rf X
  have e8 : ∀ Y, fz X Y → Y.1 0 8 = nI n := fun Y h => (h.2 8 (by omega)).trans h8
  have eX : ∀ Y, fz X Y → ∀ c, ¬ c = 0 → ¬ c = 29 → Y.1 c = τ.1 c := fun Y h c q1 q2 => (h.1 c q1 q2).trans (hX c q1 q2)
  have a0 : AL V (c0F x) := Or.inl ⟨h0, rfl, VF01⟩
  obtain ⟨k1, V1, v1, v2, v3⟩ := ads hx hn hW hK w1 f4 (e8 V zV) (eX V zV) a0
  have z1 := zV.tr v2
  obtain ⟨k2, V2, u1, u2, u3⟩ := ads hx hn hW hK w2 f5 (e8 V1 z1) (eX V1 z1) v3
  have z2 := z1.tr u2
  obtain ⟨k3, Z, t1, t2, t3⟩ := ads hx hn hW hK w3 f6 (e8 V2 z2) (eX V2 z2) u3
  have e1 : f_Mo_linear_163 F x1 x2 x3 x4 x5 x6 x7 x8 x X = f_Mo_linear_222 F x1 x2 x3 x4 x5 x6 x7 x8 x Z := by
    rw [f_Mo_linear_163, f_Mo_linear_168, if_neg n1, if_pos h0]
    show f_Mo_linear_222 F x1 x2 x3 x4 x5 x6 x7 x8 x (f_Mo_addExcess x3 x6 x (f_Mo_addExcess x2 x5 x (f_Mo_addExcess x1 x4 x V))) = _
    rw [v1, u1, t1]
  have e2 : k_Mo_linear_222 K x1 x2 x3 x4 x5 x6 x7 x8 x Z → k_Mo_linear_163 K x1 x2 x3 x4 x5 x6 x7 x8 x X := fun w => by
    refine ⟨fun z => absurd z n1, fun _ => ⟨fun _ => ?_, fun z => absurd h0 z⟩⟩
    show k_Mo_addExcess x1 x4 x V ∧ k_Mo_addExcess x2 x5 x (f_Mo_addExcess x1 x4 x V) ∧ k_Mo_addExcess x3 x6 x (f_Mo_addExcess x2 x5 x (f_Mo_addExcess x1 x4 x V)) ∧ k_Mo_linear_222 K x1 x2 x3 x4 x5 x6 x7 x8 x (f_Mo_addExcess x3 x6 x (f_Mo_addExcess x2 x5 x (f_Mo_addExcess x1 x4 x V)))
    rw [v1, u1, t1]
    exact ⟨k1, k2, k3, w⟩
  rw [e1]
  by_cases q8 : x8 = 0
  · by_cases qx : x < 0
    · refine ⟨Z, 0, z2.tr t2, t3, ⟨fun _ => ⟨q8, Or.inl qx⟩, fun _ => rfl⟩, ?_, fun w => e2 ⟨fun _ => ⟨fun _ => w, fun z => absurd qx z⟩, fun z => absurd q8 z⟩⟩
      rw [f_Mo_linear_222, if_pos q8, if_pos qx]; rfl
    · by_cases qz : lg_cmp (Z.2 0 49) 0 = 0
      · refine ⟨Z, 0, z2.tr t2, t3, ⟨fun _ => ⟨q8, Or.inr ((l_z0 _).mp qz)⟩, fun _ => rfl⟩, ?_, fun w => e2 ⟨fun _ => ⟨fun z => absurd z qx, fun _ => ⟨fun _ => w, fun z => absurd qz z⟩⟩, fun z => absurd q8 z⟩⟩
        rw [f_Mo_linear_222, if_pos q8, if_neg qx, if_pos qz]; rfl
      · refine ⟨Z, 1, z2.tr t2, t3, ⟨fun z => absurd z n1, fun z => ?_⟩, ?_, fun w => e2 ⟨fun _ => ⟨fun z => absurd z qx, fun _ => ⟨fun z => absurd z qz, fun _ => w⟩⟩, fun z => absurd q8 z⟩⟩
        · rcases z.2 with z | z
          · exact absurd z qx
          · exact absurd ((l_z0 _).mpr z) qz
        · rw [f_Mo_linear_222, if_pos q8, if_neg qx, if_neg qz]; rfl
  · refine ⟨Z, 1, z2.tr t2, t3, ⟨fun z => absurd z n1, fun z => absurd z.1 q8⟩, ?_, fun w => e2 ⟨fun z => absurd z q8, fun _ => w⟩⟩
    rw [f_Mo_linear_222, if_neg q8]; rfl
/-- what is known of the atoms from x on -/
def ATS (n : Nat) (τ : St) (c : Int32 → Option Fr) (P : Int32 → Prop) (x8 : Int32) (X : St) : Prop := (¬ X.1 0 45 = 0 ∧ ∃ x, DX x ∧ c x = none) ∨ (X.1 0 45 = 0 ∧ (∀ x, P x → RA n τ x → ∃ f, c x = some f ∧ VF f) ∧ (x8 = 0 → ∀ x f, P x → RA n τ x → ¬ x = -1 → c x = some f → f.1 = 0) ∧ (¬ x8 = 0 → ∃ x f, P x ∧ RA n τ x ∧ ¬ x = -1 ∧ c x = some f ∧ ¬ f.1 = 0))
theorem at120 (hn : n ≤ 100) (hW : ∀ t, t < n → tmW τ t) (hK : ∀ t, t < n → kdW τ t) (w1 : W3 n τ x1 x4 c0F c1) (w2 : W3 n τ x2 x5 c1 c2) (w3 : W3 n τ x3 x6 c2 c3) (f4 : ¬ x1 = -1 → -99 ≤ x4.toInt ∧ x4.toInt ≤ 99) (f5 : ¬ x2 = -1 → -99 ≤ x5.toInt ∧ x5.toInt ≤ 99) (f6 : ¬ x3 = -1 → -99 ≤ x6.toInt ∧ x6.toInt ≤ 99) :
    ∀ (i fuel : Nat) (x8 : Int32) (X : St), i ≤ n → i + 1 < fuel → X.1 0 8 = nI n → (∀ c, ¬ c = 0 → ¬ c = 29 → X.1 c = τ.1 c) → ATS n τ c3 (fun x => ∃ j, i ≤ j ∧ j < n ∧ x = nI j) x8 X →
    ∃ Z s, fz X Z ∧ ATS n τ c3 DX s Z ∧ (Z.1 0 45 = 0 → c3 (-1) = some ((Z.2 0 49).toInt, (Z.2 0 50).toInt)) ∧ f_Mo_linear_120 fuel x1 x2 x3 x4 x5 x6 x7 x8 (nI i - 1) X = f_Mo_linear_120 1 x1 x2 x3 x4 x5 x6 x7 s (-2) Z ∧ (k_Mo_linear_120 1 x1 x2 x3 x4 x5 x6 x7 s (-2) Z → k_Mo_linear_120 fuel x1 x2 x3 x4 x5 x6 x7 x8 (nI i - 1) X) := by
  have n1 : ¬ (1 : Int32) = 0 := by decide
  have ra0 : ∀ x, RA n τ x → DX x := fun x h => by
    rcases h with h | ⟨t, h1, h2, -⟩
    · exact Or.inl h
    · exact Or.inr ⟨t, by omega, h2⟩
  -- the end does not look at the fuel
  have e2 : (-2 : Int32) < -1 := by decide
  have fin : ∀ (fuel : Nat) (s : Int32) (Z : St), f_Mo_linear_120 (fuel + 1) x1 x2 x3 x4 x5 x6 x7 s (-2) Z = f_Mo_linear_120 1 x1 x2 x3 x4 x5 x6 x7 s (-2) Z ∧ (k_Mo_linear_120 1 x1 x2 x3 x4 x5 x6 x7 s (-2) Z → k_Mo_linear_120 (fuel + 1) x1 x2 x3 x4 x5 x6 x7 s (-2) Z) := fun fuel s Z => by
    refine ⟨?_, fun w => ⟨w.1, fun z => absurd e2 z⟩⟩
    rw [f_Mo_linear_120, f_Mo_linear_120, if_pos e2, if_pos e2]
  intro i
  induction i with
  | zero =>
    intro fuel x8 X hi hf h8 hX hA
    obtain ⟨fuel, rfl⟩ : ∃ k, fuel = k + 1 + 1 := ⟨fuel - 2, by omega⟩
    rw [show nI 0 - 1 = -1 by rw [nI_0]; decide]
    have m1 : ¬ (-1 : Int32) < -1 := by decide
    have m2 : (-1 : Int32) < 0 := by decide
    have m3 : (-1 : Int32) + (-1) = -2 := by decide
    have dom : ∀ x, RA n τ x → ¬ x = -1 → ∃ j, 0 ≤ j ∧ j < n ∧ x = nI j := fun x h hne => by
      rcases h with h | ⟨t, h1, h2, -⟩
      · exact absurd h hne
      · exact ⟨t, Nat.zero_le t, h1, h2⟩
    rcases hA with ⟨g1, gx⟩ | ⟨g0, a1, a2, a3⟩
    · refine ⟨X, x8, fz.rf X, Or.inl ⟨g1, gx⟩, fun z => absurd z g1, ?_, fun w => ⟨fun z => absurd z m1, fun _ => ⟨fun _ => ⟨fun z => absurd z n1, fun _ => ⟨fun z => absurd z g1, fun _ => ?_⟩⟩, fun z => absurd m2 z⟩⟩⟩
      · rw [f_Mo_linear_120, if_neg m1, if_pos m2, f_Mo_linear_163, f_Mo_linear_168, if_neg n1, if_neg g1, f_Mo_linear_248, m3]
        exact (fin fuel x8 X).1
      · show k_Mo_linear_120 (fuel + 1) x1 x2 x3 x4 x5 x6 x7 x8 (-1 + -1) X
        rw [m3]; exact (fin fuel x8 X).2 w
    · obtain ⟨Z, s, z1, z2, z3, z4, z5⟩ := at163 (x7 := x7) (x8 := x8) (F := f_Mo_linear_120 (fuel + 1)) (K := k_Mo_linear_120 (fuel + 1)) (Or.inl rfl) hn hW hK w1 w2 w3 f4 f5 f6 h8 hX g0
      rw [m3] at z4 z5
      refine ⟨Z, s, z1, ?_, fun z => ?_, ?_, fun w => ⟨fun z => absurd z m1, fun _ => ⟨fun _ => z5 ((fin fuel s Z).2 w), fun z => absurd m2 z⟩⟩⟩
      · rcases z2 with ⟨o0, oe, oV⟩ | ⟨o1, on⟩
        · refine Or.inr ⟨o0, fun x _ hr => ?_, fun hs x f _ hr hne hf => ?_, fun hs => ?_⟩
          · by_cases q : x = -1
            · rw [q]; exact ⟨_, oe, oV⟩
            · exact a1 x (dom x hr q) hr
          · exact a2 (z3.mp hs).1 x f (dom x hr hne) hr hne hf
          · obtain ⟨x, f, y1, y2, y3, y4⟩ := a3 (fun w => hs (z3.mpr ⟨w, Or.inl m2⟩))
            exact ⟨x, f, ra0 x y2, y2, y3, y4⟩
        · exact Or.inl ⟨o1, -1, Or.inl rfl, on⟩
      · rcases z2 with ⟨o0, oe, oV⟩ | ⟨o1, on⟩
        · exact oe
        · exact absurd z o1
      · rw [f_Mo_linear_120, if_neg m1, if_pos m2, z4]; exact (fin fuel s Z).1
  | succ i ih =>
    intro fuel x8 X hi hf h8 hX hA
    obtain ⟨fuel, rfl⟩ : ∃ k, fuel = k + 1 := ⟨fuel - 1, by omega⟩
    rw [nI_pred]
    have m0 : ¬ nI i < 0 := nI_pos (by omega)
    have m1 : ¬ nI i < -1 := fun z => by
      rw [Int32.lt_iff_toInt_lt, i_nI (by omega)] at z
      have : (-1 : Int32).toInt = -1 := by decide
      omega
    have em : nI i + (-1) = nI i - 1 := by rw [← Int32.sub_eq_add_neg]
    have hcl : (nI i).toNatClampNeg = i := nI_clamp (by omega)
    have hin : vp_in (nI i) 400 := by rw [in_iff, i_nI (by omega)]; omega
    have nm : ¬ nI i = -1 := nI_ne_m1 (by omega)
    have c5 : X.1 5 (nI i).toNatClampNeg = τ.1 5 i := by rw [hcl, hX 5 (by omega) (by omega)]
    have c6 : X.1 6 (nI i).toNatClampNeg = τ.1 6 i := by rw [hcl, hX 6 (by omega) (by omega)]
    have spl : ∀ x, (∃ j, i ≤ j ∧ j < n ∧ x = nI j) → x = nI i ∨ ∃ j, i + 1 ≤ j ∧ j < n ∧ x = nI j := fun x ⟨j, j1, j2, j3⟩ => by
      by_cases q : j = i
      · rw [q] at j3; exact Or.inl j3
      · exact Or.inr ⟨j, by omega, j2, j3⟩
    have goes : ∀ {x}, (∃ j, i + 1 ≤ j ∧ j < n ∧ x = nI j) → ∃ j, i ≤ j ∧ j < n ∧ x = nI j := fun ⟨j, j1, j2, j3⟩ => ⟨j, by omega, j2, j3⟩
    -- an atom that is not weighed
    have skip : (¬ RA n τ (nI i) ∨ ¬ X.1 0 45 = 0) → ∃ Z s, fz X Z ∧ ATS n τ c3 DX s Z ∧ (Z.1 0 45 = 0 → c3 (-1) = some ((Z.2 0 49).toInt, (Z.2 0 50).toInt)) ∧ f_Mo_linear_120 fuel x1 x2 x3 x4 x5 x6 x7 x8 (nI i + (-1)) X = f_Mo_linear_120 1 x1 x2 x3 x4 x5 x6 x7 s (-2) Z ∧ (k_Mo_linear_120 1 x1 x2 x3 x4 x5 x6 x7 s (-2) Z → k_Mo_linear_120 fuel x1 x2 x3 x4 x5 x6 x7 x8 (nI i + (-1)) X) := fun hno => by
      rw [em]
      refine ih fuel x8 X (by omega) (by omega) h8 hX ?_
      rcases hA with ⟨g1, gx⟩ | ⟨g0, a1, a2, a3⟩
      · exact Or.inl ⟨g1, gx⟩
      · have hno := hno.resolve_right (fun w => w g0)
        refine Or.inr ⟨g0, fun x hp hr => ?_, fun hs x f hp hr hne hf => ?_, fun hs => ?_⟩
        · rcases spl x hp with q | q
          · rw [q] at hr; exact absurd hr hno
          · exact a1 x q hr
        · rcases spl x hp with q | q
          · rw [q] at hr; exact absurd hr hno
          · exact a2 hs x f q hr hne hf
        · obtain ⟨x, f, y1, y2⟩ := a3 hs
          exact ⟨x, f, goes y1, y2⟩
    -- an atom that is
    have wei : RA n τ (nI i) → ∃ Z s, fz X Z ∧ ATS n τ c3 DX s Z ∧ (Z.1 0 45 = 0 → c3 (-1) = some ((Z.2 0 49).toInt, (Z.2 0 50).toInt)) ∧ f_Mo_linear_163 (f_Mo_linear_120 fuel) x1 x2 x3 x4 x5 x6 x7 x8 (nI i) X = f_Mo_linear_120 1 x1 x2 x3 x4 x5 x6 x7 s (-2) Z ∧ (k_Mo_linear_120 1 x1 x2 x3 x4 x5 x6 x7 s (-2) Z → k_Mo_linear_163 (k_Mo_linear_120 fuel) x1 x2 x3 x4 x5 x6 x7 x8 (nI i) X) := fun hRA => by
      by_cases g0 : X.1 0 45 = 0
      · obtain ⟨Y, s, z1, z2, z3, z4, z5⟩ := at163 (x7 := x7) (x8 := x8) (F := f_Mo_linear_120 fuel) (K := k_Mo_linear_120 fuel) (ra0 _ hRA) hn hW hK w1 w2 w3 f4 f5 f6 h8 hX g0
        rw [em] at z4 z5
        obtain ⟨Z, s2, y1, y2, y3, y4, y5⟩ := ih fuel s Y (by omega) (by omega) ((z1.2 8 (by omega)).trans h8) (fun c q1 q2 => (z1.1 c q1 q2).trans (hX c q1 q2)) (by
          rcases z2 with ⟨o0, oe, oV⟩ | ⟨o1, on⟩
          · rcases hA with ⟨g1, gx⟩ | ⟨-, a1, a2, a3⟩
            · exact absurd g0 g1
            · refine Or.inr ⟨o0, fun x hp hr => ?_, fun hs x f hp hr hne hf => ?_, fun hs => ?_⟩
              · rcases spl x hp with q | q
                · rw [q]; exact ⟨_, oe, oV⟩
                · exact a1 x q hr
              · rcases spl x hp with q | q
                · rw [q, oe] at hf
                  cases hf
                  rcases (z3.mp hs).2 with q2 | q2
                  · exact absurd q2 m0
                  · exact q2
                · exact a2 (z3.mp hs).1 x f q hr hne hf
              · by_cases q8 : x8 = 0
                · refine ⟨nI i, _, ⟨i, Nat.le_refl i, by omega, rfl⟩, hRA, nm, oe, fun w => hs (z3.mpr ⟨q8, Or.inr w⟩)⟩
                · obtain ⟨x, f, y1, y2⟩ := a3 q8
                  exact ⟨x, f, goes y1, y2⟩
          · exact Or.inl ⟨o1, nI i, ra0 _ hRA, on⟩)
        exact ⟨Z, s2, z1.tr y1, y2, y3, z4.trans y4, fun w => z5 (y5 w)⟩
      · obtain ⟨Z, s, y1, y2, y3, y4, y5⟩ := skip (Or.inr g0)
        refine ⟨Z, s, y1, y2, y3, ?_, fun w => ⟨fun z => absurd z n1, fun _ => ⟨fun z => absurd z g0, fun _ => y5 w⟩⟩⟩
        rw [f_Mo_linear_163, f_Mo_linear_168, if_neg n1, if_neg g0]; exact y4
    have nwe : ¬ RA n τ (nI i) → ∃ Z s, fz X Z ∧ ATS n τ c3 DX s Z ∧ (Z.1 0 45 = 0 → c3 (-1) = some ((Z.2 0 49).toInt, (Z.2 0 50).toInt)) ∧ f_Mo_linear_167 (f_Mo_linear_120 fuel) x1 x2 x3 x4 x5 x6 x7 x8 (nI i) X = f_Mo_linear_120 1 x1 x2 x3 x4 x5 x6 x7 s (-2) Z ∧ (k_Mo_linear_120 1 x1 x2 x3 x4 x5 x6 x7 s (-2) Z → k_Mo_linear_167 (k_Mo_linear_120 fuel) x1 x2 x3 x4 x5 x6 x7 x8 (nI i) X) := fun hRA => by
      obtain ⟨Z, s, y1, y2, y3, y4, y5⟩ := skip (Or.inl hRA)
      refine ⟨Z, s, y1, y2, y3, ?_, fun w => ⟨fun _ => y5 w, fun z => absurd rfl z⟩⟩
      rw [f_Mo_linear_167, f_Mo_linear_168, if_pos rfl]; exact y4
    have rai : RA n τ (nI i) ↔ τ.1 6 i = 1 ∧ (τ.1 5 i = 0 ∨ τ.1 5 i = 1) := by
      refine ⟨fun h => ?_, fun h => Or.inr ⟨i, by omega, rfl, h.1, h.2⟩⟩
      rcases h with h | ⟨t, h1, h2, h3⟩
      · exact absurd h nm
      · have := (nI_inj (by omega) (by omega)).mp h2
        rw [this]; exact h3
    by_cases q6 : τ.1 6 i = 1
    · have q6' := c6.trans q6
      by_cases q5 : τ.1 5 i = 0
      · obtain ⟨Z, s, y1, y2, y3, y4, y5⟩ := wei (rai.mpr ⟨q6, Or.inl q5⟩)
        refine ⟨Z, s, y1, y2, y3, ?_, fun w => ⟨fun z => absurd z m1, fun _ => ⟨fun z => absurd z m0, fun _ => ⟨hin, fun _ => ⟨hin, fun _ => y5 w, fun z => absurd (c5.trans q5) z⟩, fun z => absurd q6' z⟩⟩⟩⟩
        rw [f_Mo_linear_120, if_neg m1, if_neg m0, if_pos q6', if_pos (c5.trans q5)]; exact y4
      · have q5' : ¬ X.1 5 (nI i).toNatClampNeg = 0 := fun z => q5 (c5.symm.trans z)
        by_cases q7 : τ.1 5 i = 1
        · obtain ⟨Z, s, y1, y2, y3, y4, y5⟩ := wei (rai.mpr ⟨q6, Or.inr q7⟩)
          refine ⟨Z, s, y1, y2, y3, ?_, fun w => ⟨fun z => absurd z m1, fun _ => ⟨fun z => absurd z m0, fun _ => ⟨hin, fun _ => ⟨hin, fun z => absurd z q5', fun _ => ⟨hin, fun _ => y5 w, fun z => absurd (c5.trans q7) z⟩⟩, fun z => absurd q6' z⟩⟩⟩⟩
          rw [f_Mo_linear_120, if_neg m1, if_neg m0, if_pos q6', if_neg q5', if_pos (c5.trans q7)]; exact y4
        · have q7' : ¬ X.1 5 (nI i).toNatClampNeg = 1 := fun z => q7 (c5.symm.trans z)
          obtain ⟨Z, s, y1, y2, y3, y4, y5⟩ := nwe (fun w => by
            rcases (rai.mp w).2 with z | z
            · exact q5 z
            · exact q7 z)
          refine ⟨Z, s, y1, y2, y3, ?_, fun w => ⟨fun z => absurd z m1, fun _ => ⟨fun z => absurd z m0, fun _ => ⟨hin, fun _ => ⟨hin, fun z => absurd z q5', fun _ => ⟨hin, fun z => absurd z q7', fun _ => y5 w⟩⟩, fun z => absurd q6' z⟩⟩⟩⟩
          rw [f_Mo_linear_120, if_neg m1, if_neg m0, if_pos q6', if_neg q5', if_neg q7']; exact y4
    · have q6' : ¬ X.1 6 (nI i).toNatClampNeg = 1 := fun z => q6 (c6.symm.trans z)
      obtain ⟨Z, s, y1, y2, y3, y4, y5⟩ := nwe (fun w => q6 (rai.mp w).1)
      refine ⟨Z, s, y1, y2, y3, ?_, fun w => ⟨fun z => absurd z m1, fun _ => ⟨fun z => absurd z m0, fun _ => ⟨hin, fun z => absurd z q6', fun _ => y5 w⟩⟩⟩⟩
      rw [f_Mo_linear_120, if_neg m1, if_neg m0, if_neg q6']; exact y4
end ATM
