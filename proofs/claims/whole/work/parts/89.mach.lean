-- the reference's reading machine, step by step
def FLD (n0 : Nat) (τb τ : St) (fuel : Nat) (last : Int32) (kk : Nat) : Prop := k_Mo_readAll_4 fuel last (nI kk) τ ∧ ∃ x τ', f_Mo_readAll_4 fuel last (nI kk) τ = (x, τ') ∧ τ'.1 0 33 = 1 ∧ rwM n0 τb τ' ∧ fmR τb τ'
section MCH
variable {n0 n p b nd fuel kk m : Nat} {σ τ τb τc X : St}
theorem ne400 (h : kk < 400) : ¬ (400 : Int32) ≤ nI kk := fun z => by have := (nI_le_iff (a := 400) (by omega) (by omega)).mp z; omega
theorem fld_bad {last : Int32} (h : τ.1 0 33 = 1) (hk : kk < 400) (h1 : rwM n0 τb τ) (h2 : fmR τb τ) : FLD n0 τb τ (fuel + 1) last kk := by
  have n33 : ¬ τ.1 0 33 = 0 := by rw [h]; decide
  refine ⟨⟨fun _ => ⟨fun z => absurd z n33, fun _ => ⟨⟨rfl, rfl⟩, trivial⟩⟩, fun _ => ⟨fun z => absurd z n33, fun _ => ⟨fun z => absurd z n33, fun _ => ⟨⟨rfl, rfl⟩, trivial⟩⟩⟩⟩, last, sF τ 0 33 1, ?_, rfl, h1.tr ((mvM.bad τ 1).rw n0) (Nat.le_refl _), h2.tr (mvM.bad τ 1).fm⟩
  show (if (400 : Int32) ≤ nI kk then _ else (if τ.1 0 33 = 0 then _ else f_Mo_readAll_190 last τ)) = _
  rw [if_neg (ne400 hk), if_neg n33, f_Mo_readAll_190, if_neg n33]; rfl
theorem FLD.base {last : Int32} (h : FLD n0 τb τ fuel last kk) (h1 : rwM n0 τc τb) (h2 : fmR τc τb) : FLD n0 τc τ fuel last kk := by
  obtain ⟨k1, x, τ', f1, g1, g2, g3⟩ := h
  exact ⟨k1, x, τ', f1, g1, h1.tr g2 (Nat.le_refl _), h2.tr g3⟩
theorem FLD.step {last last' : Int32} {fuel' kk' : Nat} {τ' : St} (h : FLD n0 τb τ' fuel' last' kk') (e : f_Mo_readAll_4 fuel last (nI kk) τ = f_Mo_readAll_4 fuel' last' (nI kk') τ') (k : k_Mo_readAll_4 fuel' last' (nI kk') τ' → k_Mo_readAll_4 fuel last (nI kk) τ) : FLD n0 τb τ fuel last kk := by
  obtain ⟨k1, x, τ2, f1, g1, g2, g3⟩ := h
  exact ⟨k k1, x, τ2, e.trans f1, g1, g2, g3⟩
theorem ra_open (h : RD n0 n p b nd σ τ) (hk : kk < 400) (h40 : ltr τ nd p = 40) : f_Mo_readAll_4 (fuel + 1) (-1) (nI kk) τ = f_Mo_readAll_4 fuel (-1) (nI (kk + 1)) (f_Mo_openBracket τ) ∧ (k_Mo_openBracket τ → k_Mo_readAll_4 fuel (-1) (nI (kk + 1)) (f_Mo_openBracket τ) → k_Mo_readAll_4 (fuel + 1) (-1) (nI kk) τ) := by
  obtain ⟨-, -, b1, b2⟩ := h.let
  have e33 := h.2.2.2.2.1
  have n4 := ne400 hk
  have lm : (-1 : Int32) < 0 := by decide
  have nl : ¬ (0 : Int32) ≤ -1 := by decide
  have e40 : f_Mo_peek τ = 40 := b2.trans h40
  rw [nI_succ]
  refine ⟨?_, fun w1 w2 => ⟨fun z => absurd z n4, fun _ => ⟨fun _ => ⟨fun _ => ⟨fun z => absurd z nl, fun _ => ⟨b1, fun _ => ⟨w1, w2⟩, fun z => absurd e40 z⟩⟩, fun z => absurd lm z⟩, fun z => absurd e33 z⟩⟩⟩
  show (if (400 : Int32) ≤ nI kk then _ else (if τ.1 0 33 = 0 then (if (-1 : Int32) < 0 then f_Mo_readAll_29 (f_Mo_readAll_4 fuel) (-1) (nI kk) τ else _) else _)) = _
  rw [if_neg n4, if_pos e33, if_pos lm, f_Mo_readAll_29, if_neg nl, if_pos e40]; rfl
theorem ra_simple (h : RD n0 n p b nd σ τ) (hk : kk < 400) (h40 : ¬ ltr τ nd p = 40) : f_Mo_readAll_4 (fuel + 1) (-1) (nI kk) τ = f_Mo_readAll_4 fuel (f_Mo_readSimple τ).1 (nI (kk + 1)) (f_Mo_readSimple τ).2 ∧ (k_Mo_readSimple τ → k_Mo_readAll_4 fuel (f_Mo_readSimple τ).1 (nI (kk + 1)) (f_Mo_readSimple τ).2 → k_Mo_readAll_4 (fuel + 1) (-1) (nI kk) τ) := by
  obtain ⟨-, -, b1, b2⟩ := h.let
  have e33 := h.2.2.2.2.1
  have n4 := ne400 hk
  have lm : (-1 : Int32) < 0 := by decide
  have nl : ¬ (0 : Int32) ≤ -1 := by decide
  have e40 : ¬ f_Mo_peek τ = 40 := fun z => h40 (b2.symm.trans z)
  rw [nI_succ]
  refine ⟨?_, fun w1 w2 => ⟨fun z => absurd z n4, fun _ => ⟨fun _ => ⟨fun _ => ⟨fun z => absurd z nl, fun _ => ⟨b1, fun z => absurd z e40, fun _ => ⟨w1, w2⟩⟩⟩, fun z => absurd lm z⟩, fun z => absurd e33 z⟩⟩⟩
  show (if (400 : Int32) ≤ nI kk then _ else (if τ.1 0 33 = 0 then (if (-1 : Int32) < 0 then f_Mo_readAll_29 (f_Mo_readAll_4 fuel) (-1) (nI kk) τ else _) else _)) = _
  rw [if_neg n4, if_pos e33, if_pos lm, f_Mo_readAll_29, if_neg nl, if_neg e40]; rfl
/-- a part comes in: to the left, to the right -/
def ptL (m b : Nat) (τ : St) : St := sA (sA τ 23 (nI b) 1) 24 (nI b) (nI m)
def ptR (m b : Nat) (τ : St) : St := sA (sA τ 23 (nI b) 2) 25 (nI b) (nI m)
theorem ra_part (h : RD n0 n p (b + 1) nd σ τ) (hk : kk < 400) (hm : m < 400) : (τ.1 23 b = 0 → f_Mo_readAll_4 (fuel + 1) (nI m) (nI kk) τ = f_Mo_readAll_101 (f_Mo_readAll_4 fuel) (nI kk) (nI b) (ptL m b τ) ∧ (k_Mo_readAll_101 (k_Mo_readAll_4 fuel) (nI kk) (nI b) (ptL m b τ) → k_Mo_readAll_4 (fuel + 1) (nI m) (nI kk) τ)) ∧
    (τ.1 23 b = 1 → f_Mo_readAll_4 (fuel + 1) (nI m) (nI kk) τ = f_Mo_readAll_101 (f_Mo_readAll_4 fuel) (nI kk) (nI b) (ptR m b τ) ∧ (k_Mo_readAll_101 (k_Mo_readAll_4 fuel) (nI kk) (nI b) (ptR m b τ) → k_Mo_readAll_4 (fuel + 1) (nI m) (nI kk) τ)) := by
  have e33 := h.2.2.2.2.1
  obtain ⟨hb, e34⟩ := h.2.2.2.2.2
  have n4 := ne400 hk
  have lm : ¬ nI m < 0 := nI_pos (by omega)
  have lp : (0 : Int32) ≤ nI m := by rw [Int32.le_iff_toInt_le, Int32.toInt_zero, i_nI (by omega)]; omega
  have n34 : ¬ τ.1 0 34 ≤ 0 := by rw [e34]; exact nI_nle (by omega) (by omega)
  have hcl : (nI b).toNatClampNeg = b := nI_clamp (by omega)
  have hin : vp_in (nI b) 40 := by rw [in_iff, i_nI (by omega)]; omega
  have e0 : f_Mo_readAll_4 (fuel + 1) (nI m) (nI kk) τ = f_Mo_readAll_74 (f_Mo_readAll_4 fuel) (nI m) (nI kk) (nI b) (sA τ 23 (nI b) (τ.1 23 b + 1)) := by
    show (if (400 : Int32) ≤ nI kk then _ else (if τ.1 0 33 = 0 then (if nI m < 0 then _ else (if τ.1 0 34 ≤ 0 then _ else f_Mo_readAll_29 (f_Mo_readAll_4 fuel) (nI m) (nI kk) τ)) else _)) = _
    rw [if_neg n4, if_pos e33, if_neg lm, if_neg n34, f_Mo_readAll_29, if_pos lp, e34, nI_pred, f_Mo_readAll_64, hcl]
  have k0 : k_Mo_readAll_74 (k_Mo_readAll_4 fuel) (nI m) (nI kk) (nI b) (sA τ 23 (nI b) (τ.1 23 b + 1)) → k_Mo_readAll_4 (fuel + 1) (nI m) (nI kk) τ := fun w => by
    refine ⟨fun z => absurd z n4, fun _ => ⟨fun _ => ⟨fun z => absurd z lm, fun _ => ⟨fun z => absurd z n34, fun _ => ⟨fun _ => ?_, fun z => absurd lp z⟩⟩⟩, fun z => absurd e33 z⟩⟩
    rw [e34, nI_pred]
    refine ⟨hin, hin, ?_⟩
    rw [hcl]; exact w
  have up : ∀ v : Int32, (sA τ 23 (nI b) v).1 23 (nI b).toNatClampNeg = v := fun v => by
    show upd (τ.1 23) (nI b).toNatClampNeg v (nI b).toNatClampNeg = v
    rw [upd_at, if_pos rfl]
  refine ⟨fun g => ?_, fun g => ?_⟩
  · rw [g] at e0 k0
    have w1 : (0 : Int32) + 1 = 1 := by decide
    rw [w1] at e0 k0
    refine ⟨?_, fun w => k0 ⟨hin, fun _ => ⟨hin, w⟩, fun z => absurd (up 1) z⟩⟩
    rw [e0, f_Mo_readAll_74, if_pos (up 1)]; rfl
  · rw [g] at e0 k0
    have w1 : (1 : Int32) + 1 = 2 := by decide
    rw [w1] at e0 k0
    have n1 : ¬ (sA τ 23 (nI b) 2).1 23 (nI b).toNatClampNeg = 1 := by rw [up 2]; decide
    refine ⟨?_, fun w => k0 ⟨hin, fun z => absurd z n1, fun _ => ⟨hin, w⟩⟩⟩
    rw [e0, f_Mo_readAll_74, if_neg n1]; rfl
theorem RD.pL (h : RD n0 n p (b + 1) nd σ τ) : RD n0 n p (b + 1) nd σ (ptL m b τ) ∧ fmR τ (ptL m b τ) ∧ stk b τ (ptL m b τ) ∧ (∀ j, rwM j τ (ptL m b τ)) ∧ (ptL m b τ).1 22 = τ.1 22 ∧ (ptL m b τ).1 23 b = 1 ∧ (ptL m b τ).1 24 b = nI m ∧ (ptL m b τ).1 25 = τ.1 25 := by
  have hb := h.2.2.2.2.2.1
  have hcl : (nI b).toNatClampNeg = b := nI_clamp (by omega)
  have ot : ∀ c, ¬ c = 23 → ¬ c = 24 → (ptL m b τ).1 c = τ.1 c := fun c q1 q2 => by
    show pu (pu τ.1 23 _) 24 _ c = _
    rw [pu_at, if_neg q2, pu_at, if_neg q1]
  refine ⟨h.move (fun _ _ => rfl) rfl (fun c q1 q2 => ot c (by omega) (by omega)) (fun j _ _ _ => by rw [ot 0 (by omega) (by omega)]) h.2.2.2.1.2.1 (by rw [ot 0 (by omega) (by omega)]; exact h.2.2.2.1.2.2) (by rw [ot 0 (by omega) (by omega)]; exact h.2.2.2.2.1) (by rw [ot 0 (by omega) (by omega)]; exact h.2.2.2.2.2.2) h.2.2.2.1.1 hb, ⟨fun c q => ot c (by omega) (by omega), fun j _ _ _ _ => by rw [ot 0 (by omega) (by omega)], rfl⟩, fun c q1 q2 j hj => ?_, fun j c q1 q2 x hx => by rw [ot c (by omega) (by omega)], ot 22 (by omega) (by omega), ?_, ?_, ot 25 (by omega) (by omega)⟩
  · by_cases e1 : c = 23
    · subst e1
      show upd (τ.1 23) (nI b).toNatClampNeg 1 j = _
      rw [upd_at, hcl, if_neg (by omega)]
    · by_cases e2 : c = 24
      · subst e2
        show upd (τ.1 24) (nI b).toNatClampNeg (nI m) j = _
        rw [upd_at, hcl, if_neg (by omega)]
      · rw [ot c e1 e2]
  · show upd (τ.1 23) (nI b).toNatClampNeg 1 b = _
    rw [upd_at, hcl, if_pos rfl]
  · show upd (τ.1 24) (nI b).toNatClampNeg (nI m) b = _
    rw [upd_at, hcl, if_pos rfl]
theorem RD.pR (h : RD n0 n p (b + 1) nd σ τ) : RD n0 n p (b + 1) nd σ (ptR m b τ) ∧ fmR τ (ptR m b τ) ∧ stk b τ (ptR m b τ) ∧ (∀ j, rwM j τ (ptR m b τ)) ∧ (ptR m b τ).1 22 = τ.1 22 ∧ (ptR m b τ).1 23 b = 2 ∧ (ptR m b τ).1 24 = τ.1 24 ∧ (ptR m b τ).1 25 b = nI m := by
  have hb := h.2.2.2.2.2.1
  have hcl : (nI b).toNatClampNeg = b := nI_clamp (by omega)
  have ot : ∀ c, ¬ c = 23 → ¬ c = 25 → (ptR m b τ).1 c = τ.1 c := fun c q1 q2 => by
    show pu (pu τ.1 23 _) 25 _ c = _
    rw [pu_at, if_neg q2, pu_at, if_neg q1]
  refine ⟨h.move (fun _ _ => rfl) rfl (fun c q1 q2 => ot c (by omega) (by omega)) (fun j _ _ _ => by rw [ot 0 (by omega) (by omega)]) h.2.2.2.1.2.1 (by rw [ot 0 (by omega) (by omega)]; exact h.2.2.2.1.2.2) (by rw [ot 0 (by omega) (by omega)]; exact h.2.2.2.2.1) (by rw [ot 0 (by omega) (by omega)]; exact h.2.2.2.2.2.2) h.2.2.2.1.1 hb, ⟨fun c q => ot c (by omega) (by omega), fun j _ _ _ _ => by rw [ot 0 (by omega) (by omega)], rfl⟩, fun c q1 q2 j hj => ?_, fun j c q1 q2 x hx => by rw [ot c (by omega) (by omega)], ot 22 (by omega) (by omega), ?_, ot 24 (by omega) (by omega), ?_⟩
  · by_cases e1 : c = 23
    · subst e1
      show upd (τ.1 23) (nI b).toNatClampNeg 2 j = _
      rw [upd_at, hcl, if_neg (by omega)]
    · by_cases e2 : c = 25
      · subst e2
        show upd (τ.1 25) (nI b).toNatClampNeg (nI m) j = _
        rw [upd_at, hcl, if_neg (by omega)]
      · rw [ot c e1 e2]
  · show upd (τ.1 23) (nI b).toNatClampNeg 2 b = _
    rw [upd_at, hcl, if_pos rfl]
  · show upd (τ.1 25) (nI b).toNatClampNeg (nI m) b = _
    rw [upd_at, hcl, if_pos rfl]
/-- the blank before a part -/
theorem blank_M (h : RD n0 n p b nd σ X) : k_Mo_blank X ∧ (ltr X nd p = 32 → f_Mo_blank X = sF (sF X 0 33 0) 0 32 (nI (p + 1))) ∧ (¬ ltr X nd p = 32 → f_Mo_blank X = sF (sF X 0 33 1) 0 32 (nI (p + 1))) := by
  obtain ⟨-, -, b1, b2⟩ := h.let
  have e33 := h.2.2.2.2.1
  have e32 := h.2.2.2.1.2.2
  have e : f_Mo_blank X = if ltr X nd p = 32 then sF (sF X 0 33 0) 0 32 (nI (p + 1)) else sF (sF X 0 33 1) 0 32 (nI (p + 1)) := by
    show (if X.1 0 33 = 0 then (if f_Mo_peek X = 32 then sF (sF X 0 33 0) 0 32 (X.1 0 32 + 1) else sF (sF X 0 33 1) 0 32 (X.1 0 32 + 1)) else _) = _
    rw [if_pos e33, b2, e32, nI_succ]
  refine ⟨⟨fun _ => ⟨b1, fun _ => ⟨⟨rfl, rfl⟩, trivial⟩, fun _ => ⟨⟨rfl, rfl⟩, trivial⟩⟩, fun _ => ⟨⟨rfl, rfl⟩, trivial⟩⟩, fun z => ?_, fun z => ?_⟩
  · rw [e, if_pos z]
  · rw [e, if_neg z]
/-- where a bracket is closed, the state that the reference closes it in -/
def clS (p b : Nat) (X : St) : St := sF (sF (sF X 0 33 0) 0 32 (nI (p + 1))) 0 34 (nI b)
theorem ra_126 (h : RD n0 n p (b + 1) nd σ X) (hk : kk < 300) : (ltr X nd p = 41 → f_Mo_readAll_126 (f_Mo_readAll_4 (fuel + 1)) (nI kk) X = f_Mo_readAll_4 (fuel + 1) (f_Mo_closeBracket_40 (X.1 22 b) (X.1 24 b) (X.1 25 b) (clS p b X)).1 (nI (kk + 1)) (f_Mo_closeBracket_40 (X.1 22 b) (X.1 24 b) (X.1 25 b) (clS p b X)).2 ∧
      (k_Mo_closeBracket_40 (X.1 22 b) (X.1 24 b) (X.1 25 b) (clS p b X) → k_Mo_readAll_4 (fuel + 1) (f_Mo_closeBracket_40 (X.1 22 b) (X.1 24 b) (X.1 25 b) (clS p b X)).1 (nI (kk + 1)) (f_Mo_closeBracket_40 (X.1 22 b) (X.1 24 b) (X.1 25 b) (clS p b X)).2 → k_Mo_readAll_126 (k_Mo_readAll_4 (fuel + 1)) (nI kk) X)) ∧
    (¬ ltr X nd p = 41 → k_Mo_readAll_126 (k_Mo_readAll_4 (fuel + 1)) (nI kk) X ∧ ∃ x τ', f_Mo_readAll_126 (f_Mo_readAll_4 (fuel + 1)) (nI kk) X = (x, τ') ∧ τ'.1 0 33 = 1 ∧ (∀ j, rwM j X τ') ∧ fmR X τ') := by
  obtain ⟨-, -, b1, b2⟩ := h.let
  have e33 := h.2.2.2.2.1
  have e32 := h.2.2.2.1.2.2
  obtain ⟨hb, e34⟩ := h.2.2.2.2.2
  have hcl : (nI b).toNatClampNeg = b := nI_clamp (by omega)
  have hin : vp_in (nI b) 40 := by rw [in_iff, i_nI (by omega)]; omega
  have ecl : f_Mo_closeBracket (sF (sF X 0 33 0) 0 32 (nI (p + 1))) = f_Mo_closeBracket_40 (X.1 22 b) (X.1 24 b) (X.1 25 b) (clS p b X) := by
    show f_Mo_closeBracket_10 (sF (sF (sF X 0 33 0) 0 32 (nI (p + 1))) 0 34 (X.1 0 34 - 1)) = _
    rw [e34, nI_pred]
    show f_Mo_closeBracket_40 (X.1 22 (nI b).toNatClampNeg) (X.1 24 (nI b).toNatClampNeg) (X.1 25 (nI b).toNatClampNeg) (clS p b X) = _
    rw [hcl]
  have kcl : k_Mo_closeBracket_40 (X.1 22 b) (X.1 24 b) (X.1 25 b) (clS p b X) → k_Mo_closeBracket (sF (sF X 0 33 0) 0 32 (nI (p + 1))) := fun w => by
    show k_Mo_closeBracket_10 (sF (sF (sF X 0 33 0) 0 32 (nI (p + 1))) 0 34 (X.1 0 34 - 1))
    rw [e34, nI_pred]
    refine ⟨hin, hin, hin, ?_⟩
    show k_Mo_closeBracket_40 (X.1 22 (nI b).toNatClampNeg) (X.1 24 (nI b).toNatClampNeg) (X.1 25 (nI b).toNatClampNeg) (clS p b X)
    rw [hcl]; exact w
  refine ⟨fun c41 => ?_, fun c41 => ?_⟩
  · have p41 : f_Mo_peek X = 41 := b2.trans c41
    have z33 : (sF (sF X 0 33 0) 0 32 (nI (p + 1))).1 0 33 = 0 := rfl
    rw [nI_succ]
    refine ⟨?_, fun w1 w2 => ⟨fun _ => ⟨b1, fun _ => ⟨⟨rfl, rfl⟩, ?_⟩, fun z => absurd p41 z⟩, fun z => absurd e33 z⟩⟩
    · rw [f_Mo_readAll_126, if_pos e33, if_pos p41]
      show f_Mo_readAll_161 (f_Mo_readAll_4 (fuel + 1)) (nI kk) (sF (sF X 0 33 0) 0 32 (X.1 0 32 + 1)) = _
      rw [e32, ← nI_succ, f_Mo_readAll_161, if_pos z33, ecl]; rfl
    · show k_Mo_readAll_161 (k_Mo_readAll_4 (fuel + 1)) (nI kk) (sF (sF X 0 33 0) 0 32 (X.1 0 32 + 1))
      rw [e32, ← nI_succ]
      refine ⟨fun _ => ⟨kcl w1, ?_⟩, fun z => absurd z33 z⟩
      rw [ecl]; exact w2
  · have p41 : ¬ f_Mo_peek X = 41 := fun z => c41 (b2.symm.trans z)
    have z33 : ¬ (sF (sF X 0 33 1) 0 32 (nI (p + 1))).1 0 33 = 0 := show ¬ (1 : Int32) = 0 by decide
    have mv : mvM X (sF (sF X 0 33 1) 0 32 (nI (p + 1))) := (mvM.bad X 1).tr (mvM.at _ _)
    have fl := fld_bad (n0 := 0) (τb := X) (τ := sF (sF X 0 33 1) 0 32 (nI (p + 1))) (fuel := fuel) (kk := kk + 1) (last := 0) rfl (by omega) (mv.rw 0) mv.fm
    obtain ⟨k1, x, τ', f1, f2, -, f4⟩ := fl
    have f1' := f1
    rw [nI_succ] at k1 f1
    refine ⟨⟨fun _ => ⟨b1, fun z => absurd z p41, fun _ => ⟨⟨rfl, rfl⟩, ?_⟩⟩, fun z => absurd e33 z⟩, x, τ', ?_, f2, fun j => ?_, f4⟩
    · show k_Mo_readAll_161 (k_Mo_readAll_4 (fuel + 1)) (nI kk) (sF (sF X 0 33 1) 0 32 (X.1 0 32 + 1))
      rw [e32, ← nI_succ]
      exact ⟨fun z => absurd z z33, fun _ => k1⟩
    · rw [f_Mo_readAll_126, if_pos e33, if_neg p41]
      show f_Mo_readAll_161 (f_Mo_readAll_4 (fuel + 1)) (nI kk) (sF (sF X 0 33 1) 0 32 (X.1 0 32 + 1)) = _
      rw [e32, ← nI_succ, f_Mo_readAll_161, if_neg z33]
      exact f1
    · have fl2 := fld_bad (n0 := j) (τb := X) (τ := sF (sF X 0 33 1) 0 32 (nI (p + 1))) (fuel := fuel) (kk := kk + 1) (last := 0) rfl (by omega) (mv.rw j) mv.fm
      obtain ⟨-, x2, τ2, g1, -, g3, -⟩ := fl2
      rw [f1'] at g1
      cases g1
      exact g3
theorem RD.cS (h : RD n0 n p (b + 1) nd σ X) (hp : p < nd) : RD n0 n (p + 1) b nd (sF σ 20 3 (nI (p + 1))) (clS p b X) ∧ fmR X (clS p b X) ∧ (∀ c, ¬ c = 0 → (clS p b X).1 c = X.1 c) ∧ (clS p b X).1 0 3 = X.1 0 3 := by
  have hb := h.2.2.2.2.2.1
  have ot : ∀ c, ¬ c = 0 → (clS p b X).1 c = X.1 c := fun c q => by
    show pu (pu (pu X.1 0 _) 0 _) 0 _ c = _
    rw [pu_at, if_neg q, pu_at, if_neg q, pu_at, if_neg q]
  have o0 : ∀ j, ¬ j = 32 → ¬ j = 33 → ¬ j = 34 → (clS p b X).1 0 j = X.1 0 j := fun j q1 q2 q3 => by
    show pu (pu (pu (X.1 0) 33 _) 32 _) 34 _ j = _
    rw [pu_at, if_neg q3, pu_at, if_neg q1, pu_at, if_neg q2]
  have hC := mvC.pos σ (nI (p + 1))
  exact ⟨h.move hC.1 hC.2 (fun c q1 _ => ot c q1) o0 rfl rfl rfl rfl (by omega) (by omega), ⟨fun c q => ot c (by omega), fun j _ q2 q3 q4 => o0 j q2 q3 q4, rfl⟩, ot, o0 3 (by omega) (by omega) (by omega)⟩
end MCH
