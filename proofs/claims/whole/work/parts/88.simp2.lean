-- reading: a simple term
section SM2
variable {n0 n p b nd : Nat} {σ τ : St} {RF : Int32 → St → Int32 × St} {RK : Int32 → St → Prop}
theorem rd_simple (h : RD n0 n p b nd σ τ) (hn : n ≤ 206) (h40 : ¬ ltr τ nd p = 40) : k_Rd_readAny RF RK (nI b) σ ∧ k_Mo_readSimple τ ∧ SOUT n0 n p b nd σ τ (f_Rd_readAny RF (nI b) σ) (f_Mo_readSimple τ) := by
  obtain ⟨a1, a2, b1, b2⟩ := h.let
  have hr := ltr_rng (p := p) h.2.2.1
  have hin1 : ¬ ltr τ nd p = 0 → p < nd := fun z => ltr_in rfl z
  obtain ⟨rc1, rc2, rc3, rc4⟩ := rc_sim h hn
  generalize hc : ltr τ nd p = c at *
  have r97 : c < 97 ↔ c.toInt < 97 := by rw [Int32.lt_iff_toInt_lt]; rfl
  have r108 : 108 < c ↔ 108 < c.toInt := by rw [Int32.lt_iff_toInt_lt]; rfl
  have r120 : c < 120 ↔ c.toInt < 120 := by rw [Int32.lt_iff_toInt_lt]; rfl
  have r122 : 122 < c ↔ 122 < c.toInt := by rw [Int32.lt_iff_toInt_lt]; rfl
  have c45 : c = 45 ↔ c.toInt = 45 := by rw [← Int32.toInt_inj]; rfl
  have c0 : c = 0 ↔ c.toInt = 0 := by rw [← Int32.toInt_inj]; rfl
  have e97 : (97 : Int32).toInt = 97 := by decide
  have eC : f_Rd_readAny RF (nI b) σ = if c < 97 then f_Rd_readAny_53 RF c σ else (if 108 < c then f_Rd_readAny_53 RF c σ else f_Rd_readBareSymbol σ) := by
    show f_Rd_readAny_12 RF (nI b) (f_Dr_letter (σ.1 20 3) σ) σ = _
    rw [a2, f_Rd_readAny_12, if_neg h40]; rfl
  have KC : (c < 97 ∨ 108 < c → k_Rd_readAny_53 RF RK c σ) → (¬ c < 97 → ¬ 108 < c → k_Rd_readBareSymbol σ) → k_Rd_readAny RF RK (nI b) σ := fun w1 w2 => by
    refine ⟨a1, ?_⟩
    rw [a2]
    exact ⟨fun z => absurd z h40, fun _ => ⟨fun z => w1 (Or.inl z), fun z1 => ⟨fun z => w1 (Or.inr z), fun z2 => ⟨w2 z1 z2, trivial⟩⟩⟩⟩
  have eM : f_Mo_readSimple τ = if c = 45 then f_Mo_readConstant τ else (if f_Mo_digit c τ = 0 then f_Mo_readSimple_33 c (sF τ 0 32 (nI (p + 1))) else f_Mo_readConstant τ) := by
    show f_Mo_readSimple_5 (f_Mo_peek τ) τ = _
    rw [b2, f_Mo_readSimple_5, h.2.2.2.1.2.2, nI_succ]; rfl
  have KM : (c = 45 ∨ ¬ f_Mo_digit c τ = 0 → k_Mo_readConstant τ) → (¬ c = 45 → f_Mo_digit c τ = 0 → k_Mo_readSimple_33 c (sF τ 0 32 (nI (p + 1)))) → k_Mo_readSimple τ := fun w1 w2 => by
    refine ⟨b1, ?_⟩
    rw [b2]
    refine ⟨fun z => ⟨w1 (Or.inl z), trivial⟩, fun z1 => ⟨(dig_M c τ).1, fun z2 => ?_, fun z2 => ⟨w1 (Or.inr z2), trivial⟩⟩⟩
    rw [h.2.2.2.1.2.2, ← nI_succ]; exact w2 z1 z2
  have dg := (dig_M c τ).2
  have h33 : (sF τ 0 32 (nI (p + 1))).1 0 33 = 0 := h.2.2.2.2.1
  -- the reference gives up behind a letter
  have e105 : f_Mo_readSimple_105 c (sF τ 0 32 (nI (p + 1))) = (0, sF (sF τ 0 32 (nI (p + 1))) 0 33 1) := by
    show f_Mo_readSimple_113 c (sF (sF τ 0 32 (nI (p + 1))) 0 33 1) = _
    rw [f_Mo_readSimple_113, if_neg (show ¬ (sF (sF τ 0 32 (nI (p + 1))) 0 33 1).1 0 33 = 0 from (by decide : ¬ (1 : Int32) = 0))]; rfl
  have k105 : k_Mo_readSimple_105 c (sF τ 0 32 (nI (p + 1))) := ⟨⟨rfl, rfl⟩, fun z => absurd z (show ¬ (1 : Int32) = 0 by decide), fun _ => trivial⟩
  have mvB : mvM τ (sF (sF τ 0 32 (nI (p + 1))) 0 33 1) := (mvM.at τ _).tr (mvM.bad _ 1)
  by_cases q1 : 97 ≤ c.toInt ∧ c.toInt ≤ 108
  · -- a bare symbol
    have nc0 : ¬ c = 0 := fun z => by rw [c0] at z; omega
    have hp := hin1 nc0
    have n97 : ¬ c < 97 := fun z => by rw [r97] at z; omega
    have n108 : ¬ 108 < c := fun z => by rw [r108] at z; omega
    have n45 : ¬ c = 45 := fun z => by rw [c45] at z; omega
    have dg0 : f_Mo_digit c τ = 0 := dg.mpr (by omega)
    obtain ⟨i, hi, ei⟩ : ∃ i, i < 12 ∧ c - 97 = nI i := by
      refine ⟨(c.toInt - 97).toNat, by omega, ?_⟩
      have := let_sub (c := c) (x := 97) (i := (c.toInt - 97).toNat) (by omega) (by omega)
      rw [show nI 97 = 97 by decide +kernel] at this; exact this
    have hcl : (nI i).toNatClampNeg = i := nI_clamp (by omega)
    have hi12 : vp_in (nI i) 12 := by rw [in_iff, i_nI (by omega)]; omega
    have h1 := h.adv hp
    have h2 := h1.good
    obtain ⟨⟨ny, y1, y2, y3, y4, y5⟩, ks0, ks1, ks2, ks3⟩ := sg_at (i := i) h1.2.1 (by omega)
    have y2 : τ.1 0 3 = nI ny := y2
    have eB : f_Rd_readBareSymbol σ = f_Rd_readBareSymbol_25 (nI i) (sF σ 20 3 (nI (p + 1))) := by
      show f_Rd_readBareSymbol_25 (f_Dr_letter (σ.1 20 3) σ - 97) (sF σ 20 3 (σ.1 20 3 + 1)) = _
      rw [a2, ei, h.2.2.2.1.2.1, nI_succ]
    have KB : k_Rd_readBareSymbol_25 (nI i) (sF σ 20 3 (nI (p + 1))) → k_Rd_readAny RF RK (nI b) σ := fun w => KC (fun z => by rcases z with z | z; exact absurd z n97; exact absurd z n108) (fun _ _ => by
      refine ⟨a1, ?_⟩
      show k_Rd_readBareSymbol_25 (f_Dr_letter (σ.1 20 3) σ - 97) (sF σ 20 3 (σ.1 20 3 + 1))
      rw [a2, ei, h.2.2.2.1.2.1, ← nI_succ]; exact w)
    have l3 : nI ny ≤ nI i ↔ ny ≤ i := nI_le_iff (by omega) (by omega)
    have e33 : f_Mo_readSimple_33 c (sF τ 0 32 (nI (p + 1))) = if ny ≤ i then (0, sF (sF τ 0 32 (nI (p + 1))) 0 33 1) else (if τ.1 2 i < 0 then f_Mo_found 0 (τ.1 1 i) (-1) (-1) (nI i) 0 0 (sF (sF τ 0 32 (nI (p + 1))) 0 33 0) else (0, sF (sF τ 0 32 (nI (p + 1))) 0 33 1)) := by
      rw [f_Mo_readSimple_33, if_pos (by rw [r120]; omega), f_Mo_readSimple_68, if_pos h33, if_neg n97, e105, ei]
      show (if τ.1 0 3 ≤ nI i then _ else (if τ.1 2 (nI i).toNatClampNeg < 0 then f_Mo_readSimple_113 c (sF (sF τ 0 32 (nI (p + 1))) 0 33 0) else _)) = _
      rw [y2, hcl]
      have e113 : f_Mo_readSimple_113 c (sF (sF τ 0 32 (nI (p + 1))) 0 33 0) = f_Mo_found 0 (τ.1 1 i) (-1) (-1) (nI i) 0 0 (sF (sF τ 0 32 (nI (p + 1))) 0 33 0) := by
        rw [f_Mo_readSimple_113, if_pos (show (sF (sF τ 0 32 (nI (p + 1))) 0 33 0).1 0 33 = 0 from rfl), ei]
        show ((f_Mo_found 0 (τ.1 1 (nI i).toNatClampNeg) (-1) (-1) (nI i) 0 0 (sF (sF τ 0 32 (nI (p + 1))) 0 33 0)).1, (f_Mo_found 0 (τ.1 1 (nI i).toNatClampNeg) (-1) (-1) (nI i) 0 0 (sF (sF τ 0 32 (nI (p + 1))) 0 33 0)).2) = _
        rw [hcl]
      rw [e113]
      by_cases z : ny ≤ i
      · rw [if_pos (l3.mpr z), if_pos z]
      · rw [if_neg (fun w => z (l3.mp w)), if_neg z]
    have K33 : (i < ny → τ.1 2 i < 0 → k_Mo_found 0 (τ.1 1 i) (-1) (-1) (nI i) 0 0 (sF (sF τ 0 32 (nI (p + 1))) 0 33 0)) → k_Mo_readSimple τ := fun w => KM (fun z => by
        rcases z with z | z
        · exact absurd z n45
        · exact absurd dg0 z) (fun _ _ => by
      refine ⟨fun _ => ⟨fun _ => ⟨fun z => absurd z n97, fun _ => ⟨fun _ => k105, fun z1 => ⟨?_, fun z2 => ?_, fun _ => k105⟩⟩⟩, fun _ => k105⟩, fun z => absurd (by rw [r120]; omega) z⟩
      · rw [ei]; exact hi12
      · have z1 : ¬ τ.1 0 3 ≤ c - 97 := z1
        have z2 : τ.1 2 (c - 97).toNatClampNeg < 0 := z2
        rw [ei, y2, l3] at z1
        rw [ei, hcl] at z2
        refine ⟨⟨rfl, rfl⟩, fun _ => ⟨by rw [ei]; exact hi12, ?_, trivial⟩, fun z => absurd rfl z⟩
        rw [ei]
        show k_Mo_found 0 (τ.1 1 (nI i).toNatClampNeg) (-1) (-1) (nI i) 0 0 (sF (sF τ 0 32 (nI (p + 1))) 0 33 0)
        rw [hcl]; exact w (by omega) z2)
    rw [eC, if_neg n97, if_neg n108, eB, eM, if_neg n45, if_pos dg0, e33]
    have fail : SOUT n0 n p b nd σ τ (-1, sF σ 20 3 (nI (p + 1))) (0, sF (sF τ 0 32 (nI (p + 1))) 0 33 1) := Or.inr ⟨rfl, mvC.pos σ _, mvB, rfl⟩
    by_cases hy : i < ny
    · obtain ⟨w1, w2, w3, w4, w5⟩ := y5 hy
      have w3 : f_Sg_firstOfSymbol (nI i) (sF σ 20 3 (nI (p + 1))) = τ.1 2 i := w3
      have w2 : f_Sg_sortOfSymbol (nI i) (sF σ 20 3 (nI (p + 1))) = τ.1 1 i := w2
      have w5 : sgW 5 (τ.1 1 i) (τ.1 2 i) (τ.1 3 i) := w5
      obtain ⟨sn1, sn2⟩ := sg_neg w5 (Nat.le_refl 5)
      rw [if_neg (show ¬ ny ≤ i by omega)]
      have e25 : f_Rd_readBareSymbol_25 (nI i) (sF σ 20 3 (nI (p + 1))) = if τ.1 2 i = -1 then f_Te_make 0 (τ.1 1 i) (nI i) (-1) (-1) (sF σ 20 3 (nI (p + 1))) else (-1, sF σ 20 3 (nI (p + 1))) := by
        rw [f_Rd_readBareSymbol_25, if_neg w1, w3, w2]; rfl
      by_cases hf : τ.1 2 i = -1
      · obtain ⟨k1, k2, m, n', σ', τ', f1, f2, g1, g2, g3, g4, g5, g6, g7, g8⟩ := h2.make (k := 0) (s := τ.1 1 i) (l := nI i) (a := -1) (c := -1) hn ⟨0, by omega, by decide +kernel⟩ (by decide) (by rw [i_nI (by omega)]; omega) w5.1 (Or.inl rfl) (Or.inl rfl) (fun _ => rfl)
          (fun τ' r5 r6 r8 r9 r10 ag => by
            unfold kdW
            rw [r5, r6, r8, r9, r10]
            exact ⟨fun _ => by rw [i_nI (by omega)]; omega, fun z => absurd z (by decide), fun z => absurd z (by decide), fun z => absurd z (by decide), fun z => absurd z (by decide), fun z => absurd z (by decide), fun z => absurd z (by decide), fun z => absurd z (by decide), fun z => absurd z (by decide), fun z => absurd z (by decide)⟩)
          (fun ny' e' q' => by
            have e' : τ.1 0 3 = nI ny' := e'
            have : ny' = ny := by rw [y2] at e'; exact ((nI_inj (by omega) (by omega)).mp e').symm
            exact ⟨fun _ => ⟨i, by omega, rfl, ⟨fun _ => hf, fun _ => rfl⟩, ⟨fun _ => w5.2.2.2 hf, fun _ => rfl⟩, rfl⟩, fun z => absurd z (by decide)⟩)
        rw [e25, if_pos hf, if_pos (sn1.mpr hf), f1, f2]
        refine ⟨KB ⟨ks0, fun z => absurd z w1, fun _ => ⟨ks2, fun _ => ⟨ks1, ?_, trivial⟩, fun z => absurd (w3.trans hf) z⟩⟩, K33 (fun _ _ => k2), Or.inl ⟨m, n', p + 1, rfl, rfl, g1, g2, g3, by omega, g4, ?_, ?_, ?_, ?_⟩⟩
        · rw [w2]; exact k1
        · exact (((mvM.at τ _).tr (mvM.bad _ 0)).rw n).tr g5 (Nat.le_refl n)
        · exact (mvC.pos σ _).fc.tr g6
        · exact ((mvM.at τ _).tr (mvM.bad _ 0)).fm.tr g7
        · exact fun c1 q1 q2 => (g8 c1 q1 q2).trans (((mvM.at τ _).tr (mvM.bad _ 0)).1 c1 (by omega))
      · rw [e25, if_neg hf, if_neg (fun z => hf (sn1.mp z))]
        exact ⟨KB ⟨ks0, fun z => absurd z w1, fun _ => ⟨ks2, fun z => absurd (w3.symm.trans z) hf, fun _ => trivial⟩⟩, K33 (fun _ z => absurd (sn1.mp z) hf), fail⟩
    · obtain ⟨w1, -, -⟩ := y4 hy
      rw [if_pos (show ny ≤ i by omega)]
      have e25 : f_Rd_readBareSymbol_25 (nI i) (sF σ 20 3 (nI (p + 1))) = (-1, sF σ 20 3 (nI (p + 1))) := by
        rw [f_Rd_readBareSymbol_25, if_pos w1]; rfl
      rw [e25]
      exact ⟨KB ⟨ks0, fun _ => trivial, fun z => absurd w1 z⟩, K33 (fun z => absurd z hy), fail⟩
  · by_cases q2 : 120 ≤ c.toInt ∧ c.toInt ≤ 122
    · -- a variable
      have nc0 : ¬ c = 0 := fun z => by rw [c0] at z; omega
      have hp := hin1 nc0
      have n97 : ¬ c < 97 := fun z => by rw [r97] at z; omega
      have n108 : 108 < c := by rw [r108]; omega
      have n120 : ¬ c < 120 := fun z => by rw [r120] at z; omega
      have n122 : ¬ 122 < c := fun z => by rw [r122] at z; omega
      have n45 : ¬ c = 45 := fun z => by rw [c45] at z; omega
      have dg0 : f_Mo_digit c τ = 0 := dg.mpr (by omega)
      obtain ⟨i, hi, ei⟩ : ∃ i, i < 3 ∧ c - 120 = nI i := by
        refine ⟨(c.toInt - 120).toNat, by omega, ?_⟩
        have := let_sub (c := c) (x := 120) (i := (c.toInt - 120).toNat) (by omega) (by omega)
        rw [show nI 120 = 120 by decide +kernel] at this; exact this
      have hcl : (nI i).toNatClampNeg = i := nI_clamp (by omega)
      have hi3 : vp_in (nI i) 3 := by rw [in_iff, i_nI (by omega)]; omega
      have h1 := h.adv hp
      have isV : ∀ X : St, ¬ f_Sg_isVariable (nI i) X = 0 := fun X => by
        show ¬ (if nI i < 0 then (0 : Int32) else (if (3 : Int32) ≤ nI i then 0 else 1)) = 0
        rw [if_neg (nI_pos (by omega)), if_neg (fun z => by have := (nI_le_iff (a := 3) (by omega) (by omega)).mp z; omega)]; decide
      have kV : ∀ X : St, k_Sg_isVariable (nI i) X := fun X => ⟨fun _ => ⟨rfl, trivial⟩, fun _ => ⟨fun _ => ⟨rfl, trivial⟩, fun _ => ⟨rfl, trivial⟩⟩⟩
      have eV : f_Rd_readVariable σ = (nI i, sF σ 20 3 (nI (p + 1))) := by
        show f_Rd_readVariable_25 (f_Dr_letter (σ.1 20 3) σ - 120) (sF σ 20 3 (σ.1 20 3 + 1)) = _
        rw [a2, ei, h.2.2.2.1.2.1, nI_succ, f_Rd_readVariable_25, if_neg (isV _)]; rfl
      have kRV : k_Rd_readVariable σ := by
        refine ⟨a1, ?_⟩
        show k_Rd_readVariable_25 (f_Dr_letter (σ.1 20 3) σ - 120) (sF σ 20 3 (σ.1 20 3 + 1))
        rw [a2, ei]; exact ⟨kV _, fun _ => trivial, fun _ => trivial⟩
      obtain ⟨ns, ny, s1, s2, s3, s4, s5, s6, s7, s8, s9⟩ := h1.2.1
      obtain ⟨v1, va, v2, v3⟩ := s9 i hi
      have v1 : σ.1 5 i = τ.1 4 i := v1
      have v3 : τ.1 4 i = nI va := v3
      have eSV : f_Sg_sortOfVariable (nI i) (sF σ 20 3 (nI (p + 1))) = τ.1 4 i := by
        show (if f_Sg_isVariable (nI i) (sF σ 20 3 (nI (p + 1))) = 0 then (-1 : Int32) else σ.1 5 (nI i).toNatClampNeg) = _
        rw [if_neg (isV _), hcl, v1]
      obtain ⟨k1, k2, m, n', σ', τ', f1, f2, g1, g2, g3, g4, g5, g6, g7, g8⟩ := h1.make (k := 1) (s := τ.1 4 i) (l := nI i) (a := -1) (c := -1) hn ⟨1, by omega, by decide +kernel⟩ (by decide) (by rw [i_nI (by omega)]; omega) ⟨va, by omega, v3⟩ (Or.inl rfl) (Or.inl rfl) (fun _ => rfl)
        (fun τ' r5 r6 r8 r9 r10 ag => by
          unfold kdW
          rw [r5, r6, r8, r9, r10]
          exact ⟨fun z => absurd z (by decide), fun _ => ⟨rfl, by rw [i_nI (by omega)]; omega, by rw [i_nI (by omega)]; omega⟩, fun z => absurd z (by decide), fun z => absurd z (by decide), fun z => absurd z (by decide), fun z => absurd z (by decide), fun z => absurd z (by decide), fun z => absurd z (by decide), fun z => absurd z (by decide), fun z => absurd z (by decide)⟩)
        (fun ny' e' q' => ⟨fun z => absurd z (by decide), fun _ => by
          show τ.1 4 i = τ.1 4 (nI i).toNatClampNeg
          rw [hcl]⟩)
      have e53 : f_Rd_readAny_53 RF c σ = (nI m, σ') := by
        rw [f_Rd_readAny_53, if_neg n120, if_neg n122, eV]
        show ((f_Te_make 1 (f_Sg_sortOfVariable (nI i) (sF σ 20 3 (nI (p + 1)))) (nI i) (-1) (-1) (sF σ 20 3 (nI (p + 1)))).1, (f_Te_make 1 (f_Sg_sortOfVariable (nI i) (sF σ 20 3 (nI (p + 1)))) (nI i) (-1) (-1) (sF σ 20 3 (nI (p + 1)))).2) = _
        rw [eSV, f1]
      have e33 : f_Mo_readSimple_33 c (sF τ 0 32 (nI (p + 1))) = (nI m, τ') := by
        rw [f_Mo_readSimple_33, if_neg n120, if_neg n122, ei]
        show ((f_Mo_found 1 (τ.1 4 (nI i).toNatClampNeg) (-1) (-1) (nI i) 0 0 (sF τ 0 32 (nI (p + 1)))).1, (f_Mo_found 1 (τ.1 4 (nI i).toNatClampNeg) (-1) (-1) (nI i) 0 0 (sF τ 0 32 (nI (p + 1)))).2) = _
        rw [hcl, f2]
      rw [eC, if_neg n97, if_pos n108, e53, eM, if_neg n45, if_pos dg0, e33]
      refine ⟨KC (fun _ => ⟨fun z => absurd z n120, fun _ => ⟨fun z => absurd z n122, fun _ => ⟨kRV, ?_⟩⟩⟩) (fun _ z => absurd n108 z), KM (fun z => ?_) (fun _ _ => ⟨fun z => absurd z n120, fun _ => ⟨fun z => absurd z n122, fun _ => ⟨by rw [ei]; exact hi3, ?_, trivial⟩⟩⟩), Or.inl ⟨m, n', p + 1, rfl, rfl, g1, g2, g3, by omega, g4, ((mvM.at τ _).rw n).tr g5 (Nat.le_refl n), (mvC.pos σ _).fc.tr g6, (mvM.at τ _).fm.tr g7, fun c1 q1 q2 => (g8 c1 q1 q2).trans ((mvM.at τ _).1 c1 (by omega))⟩⟩
      · rw [eV]
        refine ⟨⟨kV _, fun _ => trivial, fun _ => ⟨hi3, trivial⟩⟩, ?_, trivial⟩
        rw [eSV]; exact k1
      · rcases z with z | z
        · exact absurd z n45
        · exact absurd dg0 z
      · rw [ei]
        show k_Mo_found 1 (τ.1 4 (nI i).toNatClampNeg) (-1) (-1) (nI i) 0 0 (sF τ 0 32 (nI (p + 1)))
        rw [hcl]; exact k2
    · -- a constant, or nothing
      have e53 : f_Rd_readAny_53 RF c σ = f_Rd_readConstant σ := by
        rw [f_Rd_readAny_53]
        by_cases z1 : c < 120
        · rw [if_pos z1, f_Rd_readAny_90, f_Rd_readAny_94]
        · rw [if_neg z1, if_pos (by rw [r122]; rw [r120] at z1; omega), f_Rd_readAny_90, f_Rd_readAny_94]
      have k53 : k_Rd_readAny_53 RF RK c σ := ⟨fun _ => ⟨rc1, trivial⟩, fun z1 => ⟨fun _ => ⟨rc1, trivial⟩, fun z2 => absurd (by rw [r122]; rw [r120] at z1; omega) z2⟩⟩
      have eC2 : f_Rd_readAny RF (nI b) σ = f_Rd_readConstant σ := by
        rw [eC]
        by_cases z1 : c < 97
        · rw [if_pos z1, e53]
        · rw [if_neg z1, if_pos (by rw [r108]; rw [r97] at z1; omega), e53]
      have kC2 : k_Rd_readAny RF RK (nI b) σ := KC (fun _ => k53) (fun z1 z2 => absurd ⟨by rw [r97] at z1; omega, by rw [r108] at z2; omega⟩ q1)
      rw [eC2, eM]
      by_cases z45 : c = 45
      · rw [if_pos z45]
        exact ⟨kC2, KM (fun _ => rc2) (fun z => absurd z45 z), rc3⟩
      · rw [if_neg z45]
        by_cases zd : f_Mo_digit c τ = 0
        · rw [if_pos zd]
          obtain ⟨x1, x2⟩ := rc4 z45 (dg.mp zd)
          have sx : ∀ (w : Int32 × St), w = (0, sF (sF τ 0 32 (nI (p + 1))) 0 33 1) → SOUT n0 n p b nd σ τ (f_Rd_readConstant σ) w := fun w hw => Or.inr ⟨x1, x2, by rw [hw]; exact mvB, by rw [hw]; rfl⟩
          obtain ⟨⟨ny, y1, y2, y3, y4, y5⟩, -⟩ := sg_at (i := 0) h.2.1 (by omega)
          have e68 : f_Mo_readSimple_68 c (sF τ 0 32 (nI (p + 1))) = (0, sF (sF τ 0 32 (nI (p + 1))) 0 33 1) := by
            rw [f_Mo_readSimple_68, if_pos h33, e105]
            by_cases z1 : c < 97
            · rw [if_pos z1]
            · rw [if_neg z1]
              have : (sF τ 0 32 (nI (p + 1))).1 0 3 ≤ c - 97 := by
                show τ.1 0 3 ≤ c - 97
                rw [y2, Int32.le_iff_toInt_le, i_nI (by omega), i_sub (by rw [e97]; rw [r97] at z1; have := i_rng c; omega), e97]
                rw [r97] at z1; omega
              rw [if_pos this]
          have k68 : k_Mo_readSimple_68 c (sF τ 0 32 (nI (p + 1))) := by
            refine ⟨fun _ => ⟨fun _ => k105, fun z1 => ⟨fun _ => k105, fun z2 => ?_⟩⟩, fun _ => k105⟩
            refine absurd ?_ z2
            show τ.1 0 3 ≤ c - 97
            rw [y2, Int32.le_iff_toInt_le, i_nI (by omega), i_sub (by rw [e97]; rw [r97] at z1; have := i_rng c; omega), e97]
            rw [r97] at z1; omega
          have e33 : f_Mo_readSimple_33 c (sF τ 0 32 (nI (p + 1))) = (0, sF (sF τ 0 32 (nI (p + 1))) 0 33 1) := by
            rw [f_Mo_readSimple_33, e68]
            by_cases z1 : c < 120
            · rw [if_pos z1]
            · rw [if_neg z1, if_pos (by rw [r122]; rw [r120] at z1; omega)]
          exact ⟨kC2, KM (fun z => by
            rcases z with z | z
            · exact absurd z z45
            · exact absurd zd z) (fun _ _ => ⟨fun _ => k68, fun z1 => ⟨fun _ => k68, fun z2 => absurd (by rw [r122]; rw [r120] at z1; omega) z2⟩⟩), sx _ e33⟩
        · rw [if_neg zd]
          exact ⟨kC2, KM (fun _ => rc2) (fun _ z => absurd z zd), rc3⟩
end SM2
