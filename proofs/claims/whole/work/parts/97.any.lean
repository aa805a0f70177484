-- reading: a bracket, and any term, by depth
section RDB
variable {n0 n p b nd fuel kk : Nat} {σ τ : St} {RF : Int32 → St → Int32 × St} {RK : Int32 → St → Prop}
theorem mark_C {c K x B : Int32} {X : St} (hc : c < 97 ∨ 108 < c) (c126 : ¬ c = 126) (c33 : ¬ c = 33) (hx : k_JS_indexOf_6 c X ∧ f_JS_indexOf_6 c X = x) (h0 : 0 ≤ x) (h3 : 3 + x = K) : f_Rd_readBracket_24 RF B c X = f_Rd_readOverTwo RF K B X ∧ (k_Rd_readOverTwo RF RK K B X → k_Rd_readBracket_24 RF RK B c X) := by
  have e46 : f_Rd_readBracket_46 RF B c X = f_Rd_readOverTwo RF K B X := by
    rw [f_Rd_readBracket_46, if_neg c126, if_neg c33, hx.2, f_Rd_readBracket_110, if_pos h0, h3, f_Rd_readBracket_126]
  have k46 : k_Rd_readOverTwo RF RK K B X → k_Rd_readBracket_46 RF RK B c X := fun w => by
    refine ⟨fun z => absurd z c126, fun _ => ⟨fun z => absurd z c33, fun _ => ⟨hx.1, ?_⟩⟩⟩
    rw [hx.2]
    refine ⟨fun _ => ⟨?_, trivial⟩, fun z => absurd h0 z⟩
    rw [h3]; exact w
  refine ⟨?_, fun w => ⟨fun _ => k46 w, fun z => ⟨fun _ => k46 w, fun z2 => absurd (hc.resolve_left z) z2⟩⟩⟩
  rw [f_Rd_readBracket_24]
  by_cases z : c < 97
  · rw [if_pos z, e46]
  · rw [if_neg z, if_pos (hc.resolve_left z), e46]
theorem rd_bracket (h : RD n0 n p b nd σ τ) (IH : b < 12 → IHY n0 RF RK (b + 1)) (h40 : ltr τ nd p = 40) (h2 : 2 * n ≤ 2 * n0 + p) (hk : kk ≤ p) (hf : fuel + kk = 1000) : k_Rd_readAny RF RK (nI b) σ ∧ ROUT n0 n p b nd fuel kk σ τ (f_Rd_readAny RF (nI b) σ) := by
  obtain ⟨a1, a2, b1, b2⟩ := h.let
  obtain ⟨hp, e20, e32⟩ := h.2.2.2.1
  have h120 := h.2.2.1.1
  have hb12 := h.2.2.2.2.2.1
  obtain ⟨F, rfl⟩ : ∃ k, fuel = k + 1 := ⟨fuel - 1, by omega⟩
  obtain ⟨ro1, ro2⟩ := ra_open (fuel := F) (kk := kk) h (by omega) h40
  have hopT : mvM τ (opT p τ) := (mvM.at τ _).tr (mvM.at _ _)
  have l12 : (12 : Int32) ≤ nI b ↔ 12 ≤ b := nI_le_iff (a := 12) (by omega) (by omega)
  have eC : f_Rd_readAny RF (nI b) σ = if 12 ≤ nI b then (-1, σ) else f_Rd_readBracket RF (nI (b + 1)) σ := by
    show f_Rd_readAny_12 RF (nI b) (f_Dr_letter (σ.1 20 3) σ) σ = _
    rw [a2, f_Rd_readAny_12, if_pos h40, nI_succ]; rfl
  have KC : (¬ 12 ≤ nI b → k_Rd_readBracket RF RK (nI (b + 1)) σ) → k_Rd_readAny RF RK (nI b) σ := fun w => by
    refine ⟨a1, ?_⟩
    rw [a2]
    refine ⟨fun _ => ⟨fun _ => trivial, fun z => ?_⟩, fun z => absurd h40 z⟩
    rw [← nI_succ]; exact ⟨w z, trivial⟩
  -- the reference gives up at once
  have badO : k_Mo_openBracket τ ∧ f_Mo_openBracket τ = sF (opT p τ) 0 33 1 → FLD n0 τ τ (F + 1) (-1) kk := fun ⟨w1, w2⟩ => by
    have mv : mvM τ (sF (opT p τ) 0 33 1) := hopT.tr (mvM.bad _ 1)
    obtain ⟨F, rfl⟩ : ∃ k, F = k + 1 := ⟨F - 1, by omega⟩
    have fl := fld_bad (n0 := n0) (τb := τ) (τ := sF (opT p τ) 0 33 1) (fuel := F) (kk := kk + 1) (last := -1) rfl (by omega) (mv.rw n0) mv.fm
    rw [← w2] at fl
    exact fl.step ro1 (fun w => ro2 w1 w)
  obtain ⟨om1, om2⟩ := open_M h
  by_cases hb : b = 12
  · have z12 : 12 ≤ nI b := l12.mpr (by omega)
    rw [eC, if_pos z12]
    exact ⟨KC (fun z => absurd z12 z), Or.inr ⟨rfl, fcR.rf σ, h.rr, badO (om1 (Or.inl hb))⟩⟩
  · have hb : b < 12 := by omega
    have IH := IH hb
    have n12 : ¬ 12 ≤ nI b := fun z => by have := l12.mp z; omega
    rw [eC, if_neg n12]
    obtain ⟨lc1, lc2⟩ := let_C h.2.2.1 (p + 1) (by omega)
    have nI2 : nI p + 2 = nI (p + 2) := by
      have := nI_plus p 2
      rw [show nI 2 = 2 by decide +kernel] at this; exact this
    have hr := ltr_rng (p := p + 1) h.2.2.1
    have hin1 : ¬ ltr τ nd (p + 1) = 0 → p + 1 < nd := fun z => ltr_in rfl z
    generalize hc : ltr τ nd (p + 1) = c at *
    have eB : f_Rd_readBracket RF (nI (b + 1)) σ = f_Rd_readBracket_24 RF (nI (b + 1)) c (sF σ 20 3 (nI (p + 2))) := by
      show f_Rd_readBracket_24 RF (nI (b + 1)) (f_Dr_letter (σ.1 20 3 + 1) σ) (sF σ 20 3 (σ.1 20 3 + 2)) = _
      rw [e20, nI2, ← nI_succ, lc2]
    have KB : k_Rd_readBracket_24 RF RK (nI (b + 1)) c (sF σ 20 3 (nI (p + 2))) → k_Rd_readAny RF RK (nI b) σ := fun w => KC (fun _ => by
      refine ⟨?_, ?_⟩
      · rw [e20, ← nI_succ]; exact lc1
      · show k_Rd_readBracket_24 RF RK (nI (b + 1)) (f_Dr_letter (σ.1 20 3 + 1) σ) (sF σ 20 3 (σ.1 20 3 + 2))
        rw [e20, nI2, ← nI_succ, lc2]; exact w)
    rw [eB]
    have rg : 0 ≤ c.toInt ∧ c.toInt ≤ 126 := by
      rcases hr with rfl | hr
      · decide
      · omega
    have hix := ix_sim rg.1 rg.2 (sF σ 20 3 (nI (p + 2)))
    have e97 : (97 : Int32).toInt = 97 := by decide
    by_cases hgood : sgF τ c ∨ isS c
    · obtain ⟨oo1, oo2⟩ := om2 hb hgood
      have nc0 : ¬ c = 0 := fun z => by
        rcases hgood with g | g
        · exact g.1 (by rw [z]; decide)
        · rw [z] at g; revert g; unfold isS; decide
      have hp1 := hin1 nc0
      obtain ⟨R1, R2, R3, R4, r22, r23, r24, r25⟩ := h.op (c := c) hb hp1
      have CX0 : CX n0 n p b nd (F + 1) kk σ τ n (p + 2) (b + 1) F (kk + 1) (sF σ 20 3 (nI (p + 2))) (opS p b c τ) (f_Mo_readAll_4 F (-1) (nI (kk + 1)) (f_Mo_openBracket_160 c (opS p b c τ))) (k_Mo_openBracket_160 c (opS p b c τ) ∧ k_Mo_readAll_4 F (-1) (nI (kk + 1)) (f_Mo_openBracket_160 c (opS p b c τ))) := by
        refine ⟨h.1.2.1, R1, Nat.le_refl n, by omega, by omega, by omega, by omega, by rw [ro1, oo1], fun w => ro2 (oo2 w.1) (by rw [oo1]; exact w.2), R4 n, (mvC.pos σ _).fc, R2, R3⟩
      -- the marks but '!'
      have CX1 : ¬ c = 33 → CX n0 n p b nd (F + 1) kk σ τ n (p + 2) (b + 1) F (kk + 1) (sF σ 20 3 (nI (p + 2))) (opS p b c τ) (f_Mo_readAll_4 F (-1) (nI (kk + 1)) (f_Mo_blank (opS p b c τ))) (k_Mo_blank (opS p b c τ) ∧ k_Mo_readAll_4 F (-1) (nI (kk + 1)) (f_Mo_blank (opS p b c τ))) := fun c33 => by
        have e160 : f_Mo_openBracket_160 c (opS p b c τ) = f_Mo_blank (opS p b c τ) := by
          rw [f_Mo_openBracket_160, f_Mo_openBracket_164, if_neg c33]
        refine CX0.as (by rw [e160]) (fun w => ⟨⟨w.1, fun z => absurd z c33, fun _ => trivial⟩, by rw [e160]; exact w.2⟩)
      by_cases hsg : sgF τ c
      · -- a symbol
        obtain ⟨g1, g2, g3, g4⟩ := hsg
        have q1 : ¬ c.toInt < 97 := fun w => g1 (by rw [Int32.lt_iff_toInt_lt, e97]; exact w)
        have q2 : c.toInt ≤ 108 := by
          have : ¬ 108 < c.toInt := fun w => g2 (by rw [Int32.lt_iff_toInt_lt, show (108 : Int32).toInt = 108 from by decide]; exact w)
          omega
        obtain ⟨i, hi, ei⟩ : ∃ i, i < 12 ∧ c - 97 = nI i := by
          refine ⟨(c.toInt - 97).toNat, by omega, ?_⟩
          have := let_sub (c := c) (x := 97) (i := (c.toInt - 97).toNat) (by omega) (by omega)
          rw [show nI 97 = 97 by decide +kernel] at this; exact this
        have hci : (nI i).toNatClampNeg = i := nI_clamp (by omega)
        obtain ⟨⟨ny, y1, y2, -, -, y5⟩, -⟩ := sg_at (i := i) h.2.1 (by omega)
        rw [ei, y2, nI_le_iff (by omega) (by omega)] at g3
        rw [ei, hci] at g4
        have w2 : ¬ τ.1 2 i = -1 := fun z => g4 (by rw [z]; decide)
        have c33 : ¬ c = 33 := fun z => g1 (by rw [z]; decide)
        have c2 : (opS p b c τ).1 2 = τ.1 2 := R2.1 2 (by omega)
        have c03 : (opS p b c τ).1 0 3 = nI ny := (R2.2.1 3 (by omega) (by omega) (by omega) (by omega)).trans y2
        obtain ⟨m1, m2⟩ := app_sim (RF := RF) (RK := RK) (i := i) (ny := ny) (CX1 c33) IH h2 hk hf g1 g2 ei (by omega) y1 c03 (by rw [c2]; exact w2) r22 r23 r25
        have e24 : f_Rd_readBracket_24 RF (nI (b + 1)) c (sF σ 20 3 (nI (p + 2))) = f_Rd_readApplied RF (nI i) (nI (b + 1)) (sF σ 20 3 (nI (p + 2))) := by
          rw [f_Rd_readBracket_24, if_neg g1, if_neg g2, ei, f_Rd_readBracket_45]
        rw [e24]
        refine ⟨KB ⟨fun z => absurd z g1, fun _ => ⟨fun z => absurd z g2, fun _ => ⟨?_, trivial⟩⟩⟩, m2⟩
        rw [ei]; exact m1
      · have hS := hgood.resolve_left hsg
        have two : ∀ (K x : Int32), two6 K → (∀ Z : St, k_Mo_signOf c Z ∧ f_Mo_signOf c Z = K) → (c < 97 ∨ 108 < c) → ¬ c = 126 → ¬ c = 33 → f_JS_indexOf_6 c (sF σ 20 3 (nI (p + 2))) = x → 0 ≤ x → 3 + x = K → k_Rd_readAny RF RK (nI b) σ ∧ ROUT n0 n p b nd (F + 1) kk σ τ (f_Rd_readBracket_24 RF (nI (b + 1)) c (sF σ 20 3 (nI (p + 2)))) := fun K x t1 t2 t3 t4 t5 t6 t7 t8 => by
          obtain ⟨m1, m2⟩ := two_sim (RF := RF) (RK := RK) (CX1 t5) IH h2 hk hf t1 t2 t3 t4 t5 r22 r23
          obtain ⟨e1, k1⟩ := mark_C (RF := RF) (RK := RK) (B := nI (b + 1)) (X := sF σ 20 3 (nI (p + 2))) t3 t4 t5 ⟨hix.1, t6⟩ t7 t8
          rw [e1]; exact ⟨KB (k1 m1), m2⟩
        have kS : ∀ Z : St, k_Mo_signOf c Z := fun Z => ⟨fun _ => trivial, fun _ => ⟨fun _ => trivial, fun _ => ⟨fun _ => trivial, fun _ => ⟨fun _ => trivial, fun _ => ⟨fun _ => trivial, fun _ => ⟨fun _ => trivial, fun _ => ⟨fun _ => trivial, fun _ => trivial⟩⟩⟩⟩⟩⟩⟩
        rcases hS with rfl | rfl | rfl | rfl | rfl | rfl | rfl | rfl
        · exact two 3 0 (Or.inl rfl) (fun Z => ⟨kS Z, by rw [f_Mo_signOf]; decide⟩) (Or.inl (by decide)) (by decide) (by decide) (by rw [hix.2]; decide) (by decide) (by decide)
        · exact two 4 1 (Or.inr (Or.inl rfl)) (fun Z => ⟨kS Z, by rw [f_Mo_signOf]; decide⟩) (Or.inl (by decide)) (by decide) (by decide) (by rw [hix.2]; decide) (by decide) (by decide)
        · exact two 5 2 (Or.inr (Or.inr (Or.inl rfl))) (fun Z => ⟨kS Z, by rw [f_Mo_signOf]; decide⟩) (Or.inl (by decide)) (by decide) (by decide) (by rw [hix.2]; decide) (by decide) (by decide)
        · exact two 6 3 (Or.inr (Or.inr (Or.inr (Or.inl rfl)))) (fun Z => ⟨kS Z, by rw [f_Mo_signOf]; decide⟩) (Or.inl (by decide)) (by decide) (by decide) (by rw [hix.2]; decide) (by decide) (by decide)
        · -- not
          obtain ⟨m1, m2⟩ := one_sim (RF := RF) (RK := RK) (K := 7) (r := -1) (CX1 (by decide)) IH h2 hk hf (Or.inl ⟨rfl, rfl⟩) (fun Z => ⟨kS Z, by rw [f_Mo_signOf]; decide⟩) (Or.inl rfl) r22 r23 r25
          have e24 : f_Rd_readBracket_24 RF (nI (b + 1)) 126 (sF σ 20 3 (nI (p + 2))) = f_Rd_readOverTruth RF 7 (-1) (nI (b + 1)) (sF σ 20 3 (nI (p + 2))) := by
            rw [f_Rd_readBracket_24, if_neg (by decide), if_pos (by decide), f_Rd_readBracket_46, if_pos rfl, f_Rd_readBracket_60]
          rw [e24]
          exact ⟨KB ⟨fun z => absurd z (by decide), fun _ => ⟨fun _ => ⟨fun _ => ⟨m1, trivial⟩, fun z => absurd rfl z⟩, fun z => absurd (by decide) z⟩⟩, m2⟩
        · exact two 8 5 (Or.inr (Or.inr (Or.inr (Or.inr (Or.inl rfl))))) (fun Z => ⟨kS Z, by rw [f_Mo_signOf]; decide⟩) (Or.inl (by decide)) (by decide) (by decide) (by rw [hix.2]; decide) (by decide) (by decide)
        · exact two 9 6 (Or.inr (Or.inr (Or.inr (Or.inr (Or.inr rfl))))) (fun Z => ⟨kS Z, by rw [f_Mo_signOf]; decide⟩) (Or.inr (by decide)) (by decide) (by decide) (by rw [hix.2]; decide) (by decide) (by decide)
        · -- all
          have e24 : f_Rd_readBracket_24 RF (nI (b + 1)) 33 (sF σ 20 3 (nI (p + 2))) = f_Rd_readBracket_73 RF (nI (b + 1)) (f_Rd_take 32 (sF σ 20 3 (nI (p + 2)))).1 (f_Rd_take 32 (sF σ 20 3 (nI (p + 2)))).2 := by
            rw [f_Rd_readBracket_24, if_pos (by decide), f_Rd_readBracket_46, if_neg (by decide), if_pos rfl]
          obtain ⟨kt, ht⟩ := R1.take 32 (by decide)
          have K24 : k_Rd_readBracket_73 RF RK (nI (b + 1)) (f_Rd_take 32 (sF σ 20 3 (nI (p + 2)))).1 (f_Rd_take 32 (sF σ 20 3 (nI (p + 2)))).2 → k_Rd_readAny RF RK (nI b) σ := fun w => KB ⟨fun _ => ⟨fun z => absurd z (by decide), fun _ => ⟨fun _ => ⟨kt, w⟩, fun z => absurd rfl z⟩⟩, fun z => absurd (by decide) z⟩
          obtain ⟨bm1, bm2⟩ := bang_M R1 hb
          have failB : ¬ (ltr (opS p b 33 τ) nd (p + 2) = 32 ∧ 120 ≤ (ltr (opS p b 33 τ) nd (p + 2 + 1)).toInt ∧ (ltr (opS p b 33 τ) nd (p + 2 + 1)).toInt ≤ 122) → ∀ z : Int32 × St, z.1 = -1 → mvC (sF σ 20 3 (nI (p + 2))) z.2 → ROUT n0 n p b nd (F + 1) kk σ τ z := fun hbad z z1 z2 => by
            obtain ⟨w1, Z, w2, w3, w4, w5⟩ := bm1 hbad
            obtain ⟨F, rfl⟩ : ∃ k, F = k + 1 := ⟨F - 1, by omega⟩
            obtain ⟨k9, x, τ', f1, f2, f3, f4⟩ := fld_bad (n0 := n0) (τb := opS p b 33 τ) (τ := Z) (fuel := F) (kk := kk + 1) (last := -1) w3 (by omega) (w5 n0) w4
            exact CX0.fail z1 (CX0.zs z2) ⟨w1, by rw [w2]; exact k9⟩ ⟨x, τ', by rw [w2]; exact f1, f2, f3, f4⟩
          rw [e24]
          rcases ht with ⟨t1, t2, t3⟩ | ⟨t1, t3⟩
          · -- the variable
            have Radv := R1.adv t2
            obtain ⟨v1, v2, -, -⟩ := Radv.let
            have v2 : f_Dr_letter (nI (p + 2 + 1)) (sF (sF σ 20 3 (nI (p + 2))) 20 3 (nI (p + 2 + 1))) = ltr (opS p b 33 τ) nd (p + 2 + 1) := v2
            have hrv := ltr_rng (p := p + 2 + 1) R1.2.2.1
            generalize hcv : ltr (opS p b 33 τ) nd (p + 2 + 1) = cv at *
            have rgv : 0 ≤ cv.toInt ∧ cv.toInt ≤ 126 := by
              rcases hrv with rfl | hrv
              · decide
              · omega
            have e120 : (120 : Int32).toInt = 120 := by decide
            have es : (cv - 120).toInt = cv.toInt - 120 := by rw [i_sub (by rw [e120]; omega), e120]
            let σ3 : St := sF (sF σ 20 3 (nI (p + 2))) 20 3 (nI (p + 2 + 1))
            let σ4 : St := sF σ3 20 3 (nI (p + 2 + 1) + 1)
            have kV : ∀ (x : Int32) (X : St), k_Sg_isVariable x X := fun x X => ⟨fun _ => ⟨rfl, trivial⟩, fun _ => ⟨fun _ => ⟨rfl, trivial⟩, fun _ => ⟨rfl, trivial⟩⟩⟩
            have eRV : f_Rd_readVariable σ3 = if f_Sg_isVariable (cv - 120) σ4 = 0 then (-1, σ4) else (cv - 120, σ4) := by
              show f_Rd_readVariable_25 (f_Dr_letter (nI (p + 2 + 1)) σ3 - 120) σ4 = _
              rw [v2]; rfl
            have kRV : k_Rd_readVariable σ3 := ⟨v1, kV _ _, fun _ => trivial, fun _ => trivial⟩
            have e73 : f_Rd_readBracket_73 RF (nI (b + 1)) (f_Rd_take 32 (sF σ 20 3 (nI (p + 2)))).1 (f_Rd_take 32 (sF σ 20 3 (nI (p + 2)))).2 = f_Rd_readBracket_84 RF (nI (b + 1)) (f_Rd_readVariable σ3).1 (f_Rd_readVariable σ3).2 := by
              rw [t3]
              show f_Rd_readBracket_73 RF (nI (b + 1)) 1 σ3 = _
              rw [f_Rd_readBracket_73, if_neg (by decide), f_Rd_readBracket_80]
            have K73 : k_Rd_readBracket_84 RF RK (nI (b + 1)) (f_Rd_readVariable σ3).1 (f_Rd_readVariable σ3).2 → k_Rd_readAny RF RK (nI b) σ := fun w => K24 (by
              rw [t3]
              exact ⟨fun z => absurd z (show ¬ (1 : Int32) = 0 by decide), fun _ => ⟨kRV, w⟩⟩)
            rw [e73]
            by_cases hv : 120 ≤ cv.toInt ∧ cv.toInt ≤ 122
            · obtain ⟨v, hv3, ev⟩ : ∃ v, v < 3 ∧ cv - 120 = nI v := by
                refine ⟨(cv.toInt - 120).toNat, by omega, ?_⟩
                have := let_sub (c := cv) (x := 120) (i := (cv.toInt - 120).toNat) (by omega) (by omega)
                rw [show nI 120 = 120 by decide +kernel] at this; exact this
              have ev2 : cv.toInt = 120 + (v : Int) := by
                have := congrArg Int32.toInt ev
                rw [es, i_nI (by omega)] at this; omega
              obtain ⟨V, w1, w2, w3, w4, w5, w6, w7, w8, w9⟩ := bm2 v hv3 t1 ev ev2
              have isV : ¬ f_Sg_isVariable (nI v) σ4 = 0 := by
                show ¬ (if nI v < 0 then (0 : Int32) else (if (3 : Int32) ≤ nI v then 0 else 1)) = 0
                rw [if_neg (nI_pos (by omega)), if_neg (fun z => by have := (nI_le_iff (a := 3) (by omega) (by omega)).mp z; omega)]; decide
              have nv : ¬ nI v = -1 := nI_ne_m1 (by omega)
              rw [ev, if_neg isV] at eRV
              have σeq : mvC (sF (sF σ 20 3 (nI (p + 2))) 20 3 (nI (p + 2 + 2))) σ4 := by
                refine ⟨fun k hk => ?_, rfl⟩
                show pu (pu (pu σ.1 20 _) 20 _) 20 _ k = pu (pu σ.1 20 _) 20 _ k
                rw [pu_at, if_neg hk, pu_at, if_neg hk, pu_at, if_neg hk, pu_at, if_neg hk, pu_at, if_neg hk]
              have w3' : RD n0 n (p + 2 + 2) (b + 1) nd σ4 V := w3.move σeq.1 σeq.2 (fun _ _ _ => rfl) (fun _ _ _ _ => rfl) (by show nI (p + 2 + 1) + 1 = _; rw [nI_succ (p + 2 + 1)]) w3.2.2.2.1.2.2 w3.2.2.2.2.1 w3.2.2.2.2.2.2 w3.2.2.2.1.1 w3.2.2.2.2.2.1
              have CX2 : CX n0 n p b nd (F + 1) kk σ τ n (p + 2 + 2) (b + 1) F (kk + 1) σ4 V (f_Mo_readAll_4 F (-1) (nI (kk + 1)) (f_Mo_blank V)) (k_Mo_blank V ∧ k_Mo_readAll_4 F (-1) (nI (kk + 1)) (f_Mo_blank V)) := by
                obtain ⟨x0, x1, x2, x3, x4, x5, x6, x7, x8, x9, x10, x11, x12⟩ := CX0
                refine ⟨x0, w3', x2, by omega, by omega, x5, by omega, by rw [x7, w1], fun w => x8 ⟨w2 w.1, by rw [w1]; exact w.2⟩, x9.tr (w5 n) (Nat.le_refl _), x10.tr (((mvC.pos (sF σ 20 3 (nI (p + 2))) _).tr (mvC.pos _ _)).fc), x11.tr w4, x12.tr w6 (Nat.le_refl _)⟩
              obtain ⟨m1, m2⟩ := one_sim (RF := RF) (RK := RK) (K := 10) (c := 33) (r := nI v) CX2 IH h2 hk hf (Or.inr ⟨rfl, v, hv3, rfl⟩) (fun Z => ⟨kS Z, by rw [f_Mo_signOf]; decide⟩) (Or.inr rfl) (by rw [w7]; exact r22) (by rw [w8]; exact r23) w9
              have e84 : f_Rd_readBracket_84 RF (nI (b + 1)) (f_Rd_readVariable σ3).1 (f_Rd_readVariable σ3).2 = f_Rd_readOverTruth RF 10 (nI v) (nI (b + 1)) σ4 := by
                rw [eRV]
                show f_Rd_readBracket_84 RF (nI (b + 1)) (nI v) σ4 = _
                rw [f_Rd_readBracket_84, if_neg nv, f_Rd_readBracket_102]
              rw [e84]
              refine ⟨K73 ?_, m2⟩
              rw [eRV]
              exact ⟨fun z => absurd z nv, fun _ => ⟨m1, trivial⟩⟩
            · have isV : f_Sg_isVariable (cv - 120) σ4 = 0 := by
                show (if cv - 120 < 0 then (0 : Int32) else (if (3 : Int32) ≤ cv - 120 then 0 else 1)) = 0
                by_cases z : cv - 120 < 0
                · rw [if_pos z]
                · rw [if_neg z, if_pos]
                  rw [Int32.lt_iff_toInt_lt, es, Int32.toInt_zero] at z
                  rw [Int32.le_iff_toInt_le, es, show (3 : Int32).toInt = 3 from by decide]; omega
              rw [if_pos isV] at eRV
              have e84 : f_Rd_readBracket_84 RF (nI (b + 1)) (f_Rd_readVariable σ3).1 (f_Rd_readVariable σ3).2 = (-1, σ4) := by
                rw [eRV]
                show f_Rd_readBracket_84 RF (nI (b + 1)) (-1) σ4 = _
                rw [f_Rd_readBracket_84, if_pos rfl, f_Rd_readBracket_102]
              rw [e84]
              refine ⟨K73 (by rw [eRV]; exact ⟨fun _ => trivial, fun z => absurd rfl z⟩), failB (fun w => hv w.2) _ rfl ((mvC.pos (sF σ 20 3 (nI (p + 2))) _).tr (mvC.pos _ _))⟩
          · have e73 : f_Rd_readBracket_73 RF (nI (b + 1)) (f_Rd_take 32 (sF σ 20 3 (nI (p + 2)))).1 (f_Rd_take 32 (sF σ 20 3 (nI (p + 2)))).2 = (-1, sF σ 20 3 (nI (p + 2))) := by
              rw [t3]
              show f_Rd_readBracket_73 RF (nI (b + 1)) 0 (sF σ 20 3 (nI (p + 2))) = _
              rw [f_Rd_readBracket_73, if_pos rfl, f_Rd_readBracket_84, if_pos rfl, f_Rd_readBracket_102]
            rw [e73]
            refine ⟨K24 ?_, failB (fun w => t1 w.1) _ rfl (mvC.rf _)⟩
            rw [t3]
            exact ⟨fun _ => ⟨fun _ => trivial, fun z => absurd rfl z⟩, fun z => absurd rfl z⟩
    · -- neither a symbol with parts nor a mark
      have nsg : ¬ sgF τ c := fun z => hgood (Or.inl z)
      have nS : ¬ isS c := fun z => hgood (Or.inr z)
      have FL0 := badO (om1 (Or.inr ⟨nsg, nS⟩))
      have done : f_Rd_readBracket_24 RF (nI (b + 1)) c (sF σ 20 3 (nI (p + 2))) = (-1, sF σ 20 3 (nI (p + 2))) → ROUT n0 n p b nd (F + 1) kk σ τ (f_Rd_readBracket_24 RF (nI (b + 1)) c (sF σ 20 3 (nI (p + 2)))) := fun w => by
        rw [w]
        exact Or.inr ⟨rfl, (mvC.pos σ _).fc, h.rr.mv (mvC.pos σ _), FL0⟩
      by_cases hs : ¬ c < 97 ∧ ¬ 108 < c
      · obtain ⟨g1, g2⟩ := hs
        have q1 : ¬ c.toInt < 97 := fun w => g1 (by rw [Int32.lt_iff_toInt_lt, e97]; exact w)
        have q2 : c.toInt ≤ 108 := by
          have : ¬ 108 < c.toInt := fun w => g2 (by rw [Int32.lt_iff_toInt_lt, show (108 : Int32).toInt = 108 from by decide]; exact w)
          omega
        obtain ⟨i, hi, ei⟩ : ∃ i, i < 12 ∧ c - 97 = nI i := by
          refine ⟨(c.toInt - 97).toNat, by omega, ?_⟩
          have := let_sub (c := c) (x := 97) (i := (c.toInt - 97).toNat) (by omega) (by omega)
          rw [show nI 97 = 97 by decide +kernel] at this; exact this
        have hci : (nI i).toNatClampNeg = i := nI_clamp (by omega)
        have hSG : SG (sF σ 20 3 (nI (p + 2))) τ := h.2.1
        obtain ⟨⟨ny, y1, y2, -, y4, y5⟩, k0, k1, k2, k3⟩ := sg_at (i := i) hSG (by omega)
        have eF : f_Sg_firstOfSymbol (nI i) (sF σ 20 3 (nI (p + 2))) = -1 := by
          by_cases z : i < ny
          · obtain ⟨-, -, w3, -, w5⟩ := y5 z
            rw [w3]
            refine Classical.byContradiction fun w => nsg ⟨g1, g2, ?_, ?_⟩
            · rw [ei, y2, nI_le_iff (by omega) (by omega)]; omega
            · rw [ei, hci, (sg_neg w5 (Nat.le_refl 5)).1]; exact w
          · exact (y4 z).2.1
        have eA : f_Rd_readApplied RF (nI i) (nI (b + 1)) (sF σ 20 3 (nI (p + 2))) = (-1, sF σ 20 3 (nI (p + 2))) := by
          show f_Rd_readApplied_19 RF (nI i) (nI (b + 1)) (f_Sg_firstOfSymbol (nI i) (sF σ 20 3 (nI (p + 2)))) (f_Sg_secondOfSymbol (nI i) (sF σ 20 3 (nI (p + 2)))) (sF σ 20 3 (nI (p + 2))) = _
          rw [eF, f_Rd_readApplied_19, if_pos rfl]
        refine ⟨KB ⟨fun z => absurd z g1, fun _ => ⟨fun z => absurd z g2, fun _ => ⟨?_, trivial⟩⟩⟩, done ?_⟩
        · rw [ei]
          refine ⟨k2, k3, ?_⟩
          rw [eF]
          exact ⟨fun _ => trivial, fun z => absurd rfl z⟩
        · rw [f_Rd_readBracket_24, if_neg g1, if_neg g2, ei, f_Rd_readBracket_45, eA]
      · have hs2 : c < 97 ∨ 108 < c := by
          by_cases z : c < 97
          · exact Or.inl z
          · exact Or.inr (Classical.byContradiction fun w => hs ⟨z, w⟩)
        have n126 : ¬ c = 126 := fun z => nS (Or.inr (Or.inr (Or.inr (Or.inr (Or.inl z)))))
        have n33 : ¬ c = 33 := fun z => nS (Or.inr (Or.inr (Or.inr (Or.inr (Or.inr (Or.inr (Or.inr z)))))))
        have ex : f_JS_indexOf_6 c (sF σ 20 3 (nI (p + 2))) = -1 := by
          rw [hix.2, if_neg (fun z => nS (Or.inl z.symm)), if_neg (fun z => nS (Or.inr (Or.inl z.symm))), if_neg (fun z => nS (Or.inr (Or.inr (Or.inl z.symm)))), if_neg (fun z => nS (Or.inr (Or.inr (Or.inr (Or.inl z.symm))))), if_neg (fun z => n126 z.symm), if_neg (fun z => nS (Or.inr (Or.inr (Or.inr (Or.inr (Or.inr (Or.inl z.symm))))))), if_neg (fun z => nS (Or.inr (Or.inr (Or.inr (Or.inr (Or.inr (Or.inr (Or.inl z.symm)))))))), if_neg (fun z => n33 z.symm)]
        have nx : ¬ (0 : Int32) ≤ -1 := by decide
        have e46 : f_Rd_readBracket_46 RF (nI (b + 1)) c (sF σ 20 3 (nI (p + 2))) = (-1, sF σ 20 3 (nI (p + 2))) := by
          rw [f_Rd_readBracket_46, if_neg n126, if_neg n33, ex, f_Rd_readBracket_110, if_neg nx, f_Rd_readBracket_126]
        have k46 : k_Rd_readBracket_46 RF RK (nI (b + 1)) c (sF σ 20 3 (nI (p + 2))) := by
          refine ⟨fun z => absurd z n126, fun _ => ⟨fun z => absurd z n33, fun _ => ⟨hix.1, ?_⟩⟩⟩
          rw [ex]; exact ⟨fun z => absurd z nx, fun _ => trivial⟩
        refine ⟨KB ⟨fun _ => k46, fun z => ⟨fun _ => k46, fun z2 => absurd (hs2.resolve_left z) z2⟩⟩, done ?_⟩
        rw [f_Rd_readBracket_24, e46]
        by_cases z : c < 97
        · rw [if_pos z]
        · rw [if_neg z, if_pos (hs2.resolve_left z)]
theorem rd_any (n0 : Nat) : ∀ d b : Nat, 14 ≤ d + b → b ≤ 12 → IHY n0 (F_Rd_readAny d) (K_Rd_readAny d) b := by
  intro d
  induction d with
  | zero => intro b h1 h2; omega
  | succ d ih =>
    intro b h1 hb n p nd fuel kk σ τ h h2 hk hf
    have h120 := h.2.2.1.1
    have hp := h.2.2.2.1.1
    have h100 := h.1.1
    show k_Rd_readAny (F_Rd_readAny d) (K_Rd_readAny d) (nI b) σ ∧ ROUT n0 n p b nd fuel kk σ τ (f_Rd_readAny (F_Rd_readAny d) (nI b) σ)
    by_cases h40 : ltr τ nd p = 40
    · exact rd_bracket h (fun hb2 => ih (b + 1) (by omega) (by omega)) h40 h2 hk hf
    · obtain ⟨k1, k2, hs⟩ := rd_simple (RF := F_Rd_readAny d) (RK := K_Rd_readAny d) h (by omega) h40
      obtain ⟨F, rfl⟩ : ∃ k, fuel = k + 1 := ⟨fuel - 1, by omega⟩
      obtain ⟨r1, r2⟩ := ra_simple (fuel := F) (kk := kk) h (by omega) h40
      refine ⟨k1, ?_⟩
      rcases hs with ⟨m, n', p', g1, g2, g3, g4, g5, g6, g7, g8, g9, g10, g11⟩ | ⟨g1, g2, g3, g4⟩
      · rw [g2] at r1 r2
        exact Or.inl ⟨m, n', p', kk + 1, F, (f_Mo_readSimple τ).2, g1, g3, g7, g4, by omega, g6, by omega, by omega, r1, fun w => r2 k2 w, g8, g9, g10, fun c q1 q2 j hj => by rw [g11 c q1 q2]⟩
      · obtain ⟨F, rfl⟩ : ∃ k, F = k + 1 := ⟨F - 1, by omega⟩
        have fl := fld_bad (n0 := n0) (τb := τ) (τ := (f_Mo_readSimple τ).2) (fuel := F) (kk := kk + 1) (last := (f_Mo_readSimple τ).1) g4 (by omega) (g3.rw n0) g3.fm
        exact Or.inr ⟨g1, g2.fc, h.rr.mv g2, fl.step r1 (fun w => r2 k2 w)⟩
end RDB
