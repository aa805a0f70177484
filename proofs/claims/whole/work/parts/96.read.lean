-- reading: any term
def ixL (c : Int32) : List Int32 → Nat → Int32
  | [], _ => -1
  | x :: L, j => if x = c then nI j else ixL c L (j + 1)
section RDA
variable {n0 n p b nd fuel kk : Nat} {σ τ : St} {RF : Int32 → St → Int32 × St} {RK : Int32 → St → Prop}
theorem ix_loop (c : Int32) (σ : St) : ∀ (d j fuel : Nat), j + d = 8 → d < fuel → k_JT_indexOfChar_7 fuel 8 c (nI j) σ ∧ f_JT_indexOfChar_7 fuel 8 c (nI j) σ = ixL c (mkB.drop j) j := by
  intro d
  induction d with
  | zero =>
    intro j fuel hj hf
    obtain ⟨fuel, rfl⟩ : ∃ k, fuel = k + 1 := ⟨fuel - 1, by omega⟩
    obtain rfl : j = 8 := by omega
    have h : (8 : Int32) ≤ nI 8 := by decide +kernel
    refine ⟨⟨fun _ => trivial, fun z => absurd h z⟩, ?_⟩
    show (if (8 : Int32) ≤ nI 8 then (-1 : Int32) else _) = _
    rw [if_pos h]; rfl
  | succ d ih =>
    intro j fuel hj hf
    obtain ⟨fuel, rfl⟩ : ∃ k, fuel = k + 1 := ⟨fuel - 1, by omega⟩
    have h : ¬ (8 : Int32) ≤ nI j := fun z => by have := (nI_le_iff (a := 8) (by omega) (by omega)).mp z; omega
    have hcl : (nI j).toNatClampNeg = j := nI_clamp (by omega)
    obtain ⟨g1, g2⟩ := ih (j + 1) fuel (by omega) (by omega)
    rw [nI_succ] at g1 g2
    have hd : mkB.drop j = mkB.getD j 0 :: mkB.drop (j + 1) := by
      have : j = 0 ∨ j = 1 ∨ j = 2 ∨ j = 3 ∨ j = 4 ∨ j = 5 ∨ j = 6 ∨ j = 7 := by omega
      rcases this with rfl | rfl | rfl | rfl | rfl | rfl | rfl | rfl <;> rfl
    refine ⟨⟨fun z => absurd z h, fun _ => ⟨by rw [in_iff, i_nI (by omega)]; omega, fun _ => trivial, fun _ => g1⟩⟩, ?_⟩
    show (if (8 : Int32) ≤ nI j then _ else (if mkB.getD (nI j).toNatClampNeg 0 = c then nI j else f_JT_indexOfChar_7 fuel 8 c (nI j + 1) σ)) = _
    rw [if_neg h, hcl, hd, g2]; rfl
theorem ix_sim {c : Int32} (h0 : 0 ≤ c.toInt) (h1 : c.toInt ≤ 126) (σ : St) : k_JS_indexOf_6 c σ ∧ f_JS_indexOf_6 c σ = if 43 = c then 0 else (if 42 = c then 1 else (if 61 = c then 2 else (if 60 = c then 3 else (if 126 = c then 4 else (if 38 = c then 5 else (if 124 = c then 6 else (if 33 = c then 7 else -1))))))) := by
  have e8 : c.toInt8.toInt32 = c := by
    apply Int32.toInt_inj.mp
    rw [Int8.toInt_toInt32, Int32.toInt_toInt8, Int.bmod_def]; omega
  have eL : f_JS_isLatin1 σ = 1 := by
    show (if (1 : Int32) = 0 then _ else (if (0 : Int32) = 0 then (1 : Int32) else _)) = 1
    rw [if_neg (by decide), if_pos rfl]
  have nL : ¬ f_JS_isLatin1 σ = 0 := by rw [eL]; decide
  have kL : k_JS_isLatin1 σ := ⟨fun z => absurd z (by decide), fun _ => ⟨fun _ => ⟨rfl, trivial⟩, fun z => absurd rfl z⟩⟩
  have eco : f_JS_coder σ = 0 := by
    show (if (1 : Int32) = 0 then _ else (0 : Int32)) = 0
    rw [if_neg (by decide)]
  have eln : f_JS_length σ = 8 := by
    show (8 : Int32) >>> (f_JS_coder σ &&& 31) = 8
    rw [eco]; decide
  have kln : k_JS_length σ := ⟨⟨fun z => absurd z (by decide), fun _ => ⟨rfl, trivial⟩⟩, trivial⟩
  have n0 : ¬ c < 0 := fun z => by rw [Int32.lt_iff_toInt_lt, Int32.toInt_zero] at z; omega
  have n255 : ¬ 255 < c := fun z => by
    rw [Int32.lt_iff_toInt_lt, show (255 : Int32).toInt = 255 from by decide] at z; omega
  have enc : ¬ f_JT_canEncode c σ = 0 := by
    show ¬ (if c < 0 then (0 : Int32) else (if 255 < c then 0 else 1)) = 0
    rw [if_neg n0, if_neg n255]; decide
  obtain ⟨g1, g2⟩ := ix_loop c σ 8 0 1000 (by omega) (by omega)
  rw [nI_0] at g1 g2
  have eI : f_JT_indexOf c 0 8 σ = f_JT_indexOfChar_7 1000 8 c 0 σ := by
    rw [f_JT_indexOf, if_neg enc, if_neg (show ¬ (0 : Int32) < 0 by decide), f_JT_indexOf_15, if_neg (show ¬ (8 : Int32) < 8 by decide), f_JT_indexOf_22, if_pos (by decide), f_JT_indexOfChar, e8]
  have kI : k_JT_indexOf c 0 8 σ := by
    refine ⟨⟨fun _ => ⟨rfl, trivial⟩, fun _ => ⟨fun _ => ⟨rfl, trivial⟩, fun _ => ⟨rfl, trivial⟩⟩⟩, fun z => absurd z enc, fun _ => ?_⟩
    show k_JT_indexOf_22 c (if (0 : Int32) < 0 then 0 else 0) (if (8 : Int32) < 8 then 8 else 8) σ
    rw [if_neg (show ¬ (0 : Int32) < 0 by decide), if_neg (show ¬ (8 : Int32) < 8 by decide)]
    refine ⟨fun _ => ⟨?_, trivial⟩, fun _ => trivial⟩
    show k_JT_indexOfChar_7 1000 8 c.toInt8.toInt32 0 σ
    rw [e8]; exact g1
  refine ⟨⟨⟨kL, fun z => absurd z nL, fun _ => ⟨kln, by rw [eln]; exact kI, trivial⟩⟩, trivial⟩, ?_⟩
  show (if f_JS_isLatin1 σ = 0 then (0 : Int32) else f_JT_indexOf c 0 (f_JS_length σ) σ) = _
  rw [if_neg nL, eln, eI, g2]
  rfl
/-- behind '!': its variable -/
theorem bang_M {X : St} (h : RD n0 n p (b + 1) nd σ X) (hb : b < 12) :
    (¬ (ltr X nd p = 32 ∧ 120 ≤ (ltr X nd (p + 1)).toInt ∧ (ltr X nd (p + 1)).toInt ≤ 122) → k_Mo_openBracket_160 33 X ∧ ∃ Z, f_Mo_openBracket_160 33 X = Z ∧ Z.1 0 33 = 1 ∧ fmR X Z ∧ ∀ j, rwM j X Z) ∧
    (∀ v, v < 3 → ltr X nd p = 32 → ltr X nd (p + 1) - 120 = nI v → (ltr X nd (p + 1)).toInt = 120 + v → ∃ V, f_Mo_openBracket_160 33 X = f_Mo_blank V ∧ (k_Mo_blank V → k_Mo_openBracket_160 33 X) ∧ RD n0 n (p + 2) (b + 1) nd (sF σ 20 3 (nI (p + 2))) V ∧ fmR X V ∧ (∀ j, rwM j X V) ∧ stk b X V ∧ V.1 22 = X.1 22 ∧ V.1 23 = X.1 23 ∧ V.1 25 b = nI v) := by
  obtain ⟨kb, eb1, eb2⟩ := blank_M h
  have hp := h.2.2.2.1.1
  have h120 := h.2.2.1.1
  have e34 := h.2.2.2.2.2.2
  have hcl : (nI b).toNatClampNeg = b := nI_clamp (by omega)
  have hin : vp_in (nI b) 40 := by rw [in_iff, i_nI (by omega)]; omega
  have e164 : ∀ B : St, f_Mo_openBracket_164 33 B = f_Mo_openBracket_189 (f_Mo_peek B - 120) (sF B 0 32 (B.1 0 32 + 1)) := fun B => by
    rw [f_Mo_openBracket_164, if_pos rfl]; rfl
  have e160 : f_Mo_openBracket_160 33 X = f_Mo_openBracket_164 33 (f_Mo_blank X) := rfl
  by_cases c32 : ltr X nd p = 32
  · have hp2 := ltr_in c32 (by decide)
    have hB : RD n0 n (p + 1) (b + 1) nd (sF σ 20 3 (nI (p + 1))) (sF (sF X 0 33 0) 0 32 (nI (p + 1))) := h.good.adv hp2
    have hM : mvM X (sF (sF X 0 33 0) 0 32 (nI (p + 1))) := (mvM.bad X 0).tr (mvM.at _ _)
    obtain ⟨-, -, pk1, pk2⟩ := hB.let
    have pk2 : f_Mo_peek (sF (sF X 0 33 0) 0 32 (nI (p + 1))) = ltr X nd (p + 1) := pk2
    rw [e160, eb1 c32, e164, pk2]
    have k160 : k_Mo_openBracket_189 (ltr X nd (p + 1) - 120) (sF (sF (sF X 0 33 0) 0 32 (nI (p + 1))) 0 32 (nI (p + 1) + 1)) → k_Mo_openBracket_160 33 X := fun w => by
      refine ⟨kb, ?_⟩
      rw [eb1 c32]
      refine ⟨fun _ => ⟨pk1, ?_⟩, fun z => absurd rfl z⟩
      rw [pk2]; exact w
    have hr := ltr_rng (p := p + 1) h.2.2.1
    have hin2 : ¬ ltr X nd (p + 1) = 0 → p + 1 < nd := fun z => ltr_in rfl z
    generalize hc : ltr X nd (p + 1) = c at *
    have rg : -1000 ≤ c.toInt ∧ c.toInt ≤ 126 := by
      rcases hr with rfl | hr
      · decide
      · omega
    have e120 : (120 : Int32).toInt = 120 := by decide
    have es : (c - 120).toInt = c.toInt - 120 := by rw [i_sub (by rw [e120]; omega), e120]
    have l0 : c - 120 < 0 ↔ c.toInt < 120 := by rw [Int32.lt_iff_toInt_lt, es, Int32.toInt_zero]; omega
    have l2 : c - 120 ≤ 2 ↔ c.toInt ≤ 122 := by rw [Int32.le_iff_toInt_le, es, show (2 : Int32).toInt = 2 from by decide]; omega
    let B2 : St := sF (sF (sF X 0 33 0) 0 32 (nI (p + 1))) 0 32 (nI (p + 1) + 1)
    have hM2 : mvM X B2 := hM.tr (mvM.at _ _)
    have b33 : B2.1 0 33 = 0 := rfl
    have b34 : B2.1 0 34 = nI (b + 1) := e34
    have e189 : f_Mo_openBracket_189 (c - 120) B2 = if c - 120 < 0 then f_Mo_openBracket_206 (c - 120) B2 else (if c - 120 ≤ 2 then f_Mo_openBracket_211 (c - 120) 0 B2 else f_Mo_openBracket_206 (c - 120) B2) := by
      rw [f_Mo_openBracket_189, if_pos b33]
    refine ⟨fun hbad => ?_, fun v hv _ ev e2 => ?_⟩
    · obtain ⟨k206, Z, z1, z2, z3, z4⟩ := op_206 (v := c - 120) (Y := B2) (b := b) (by omega) b34
      have hw : c.toInt < 120 ∨ 122 < c.toInt := by
        by_cases w : c.toInt < 120
        · exact Or.inl w
        · by_cases w2 : c.toInt ≤ 122
          · exact absurd ⟨c32, by omega, w2⟩ hbad
          · exact Or.inr (by omega)
      refine ⟨k160 ⟨fun _ => ⟨fun _ => k206, fun w1 => ⟨fun w2 => ?_, fun _ => k206⟩⟩, fun z => absurd b33 z⟩, Z, ?_, z2, hM2.fm.tr z3, fun j => (hM2.rw j).tr (z4 j) (Nat.le_refl _)⟩
      · rw [l0] at w1; rw [l2] at w2; omega
      · show f_Mo_openBracket_189 (c - 120) B2 = Z
        rw [e189]
        rcases hw with w | w
        · rw [if_pos (l0.mpr w), z1]
        · rw [if_neg (fun z => by rw [l0] at z; omega), if_neg (fun z => by rw [l2] at z; omega), z1]
    · have hp3 := hin2 (fun z => by rw [z, Int32.toInt_zero] at e2; omega)
      let V : St := sA (sF B2 0 33 0) 25 (nI b) (nI v)
      have eV : f_Mo_openBracket_211 (c - 120) 0 B2 = f_Mo_blank V := by
        show f_Mo_blank (sA (sF B2 0 33 0) 25 (X.1 0 34 - 1) (c - 120)) = _
        rw [e34, nI_pred, ev]
      have ot : ∀ k, ¬ k = 0 → ¬ k = 25 → V.1 k = X.1 k := fun k q1 q2 => by
        show pu (pu (pu (pu (pu X.1 0 _) 0 _) 0 _) 0 _) 25 _ k = _
        rw [pu_at, if_neg q2, pu_at, if_neg q1, pu_at, if_neg q1, pu_at, if_neg q1, pu_at, if_neg q1]
      have o0 : ∀ j, ¬ j = 32 → ¬ j = 33 → V.1 0 j = X.1 0 j := fun j q1 q2 => by
        show pu (pu (pu (pu (X.1 0) 33 _) 32 _) 32 _) 33 _ j = _
        rw [pu_at, if_neg q2, pu_at, if_neg q1, pu_at, if_neg q1, pu_at, if_neg q2]
      have hC := mvC.pos σ (nI (p + 2))
      refine ⟨V, ?_, fun w => k160 ⟨fun _ => ⟨fun z => absurd z (by rw [l0]; omega), fun _ => ⟨fun _ => ⟨⟨rfl, rfl⟩, ?_⟩, fun z => absurd (by rw [l2]; omega) z⟩⟩, fun z => absurd b33 z⟩, h.move hC.1 hC.2 (fun k q1 q2 => ot k q1 (by omega)) (fun j q1 q2 _ => o0 j q1 q2) rfl ?_ rfl ?_ (by omega) h.2.2.2.2.2.1, ⟨fun k q => ot k (by omega) (by omega), fun j _ q2 q3 _ => o0 j q2 q3, rfl⟩, fun j k q1 q2 x hx => by rw [ot k (by omega) (by omega)], fun k q1 q2 j hj => ?_, ot 22 (by omega) (by omega), ot 23 (by omega) (by omega), ?_⟩
      · show f_Mo_openBracket_189 (c - 120) B2 = _
        rw [e189, if_neg (by rw [l0]; omega), if_pos (by rw [l2]; omega), eV]
      · show vp_in (X.1 0 34 - 1) 40 ∧ k_Mo_openBracket_226 (sA (sF B2 0 33 0) 25 (X.1 0 34 - 1) (c - 120))
        rw [e34, nI_pred, ev]
        exact ⟨hin, w, trivial⟩
      · show nI (p + 1) + 1 = _
        rw [nI_succ (p + 1)]
      · show X.1 0 34 = _
        exact e34
      · by_cases e5 : k = 25
        · subst e5
          show upd (X.1 25) (nI b).toNatClampNeg (nI v) j = _
          rw [upd_at, hcl, if_neg (by omega)]
        · rw [ot k (by omega) e5]
      · show upd (X.1 25) (nI b).toNatClampNeg (nI v) b = _
        rw [upd_at, hcl, if_pos rfl]
  · refine ⟨fun _ => ?_, fun v _ z => absurd z c32⟩
    have hM : mvM X (sF (sF X 0 33 1) 0 32 (nI (p + 1))) := (mvM.bad X 1).tr (mvM.at _ _)
    have hd : DD nd σ (sF (sF X 0 33 1) 0 32 (nI (p + 1))) := h.2.2.1
    obtain ⟨pk1, pk2⟩ := peek_M (p := p + 1) hd rfl (by omega)
    have n33 : ¬ (sF (sF (sF X 0 33 1) 0 32 (nI (p + 1))) 0 32 (nI (p + 1) + 1)).1 0 33 = 0 := show ¬ (1 : Int32) = 0 by decide
    have b34 : (sF (sF (sF X 0 33 1) 0 32 (nI (p + 1))) 0 32 (nI (p + 1) + 1)).1 0 34 = nI (b + 1) := e34
    obtain ⟨k206, Z, z1, z2, z3, z4⟩ := op_206 (v := f_Mo_peek (sF (sF X 0 33 1) 0 32 (nI (p + 1))) - 120) (b := b) (by omega) b34
    have hM2 : mvM X (sF (sF (sF X 0 33 1) 0 32 (nI (p + 1))) 0 32 (nI (p + 1) + 1)) := hM.tr (mvM.at _ _)
    refine ⟨⟨kb, by
      rw [eb2 c32]
      exact ⟨fun _ => ⟨pk1, fun z => absurd z n33, fun _ => k206⟩, fun z => absurd rfl z⟩⟩, Z, ?_, z2, hM2.fm.tr z3, fun j => (hM2.rw j).tr (z4 j) (Nat.le_refl _)⟩
    rw [e160, eb2 c32, e164]
    show f_Mo_openBracket_189 _ (sF (sF (sF X 0 33 1) 0 32 (nI (p + 1))) 0 32 (nI (p + 1) + 1)) = _
    rw [f_Mo_openBracket_189, if_neg n33, z1]
end RDA
