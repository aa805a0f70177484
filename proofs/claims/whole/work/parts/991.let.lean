-- a letter of a text, as the class finds it
section LET
variable {n : Nat} {σ τ : St}
theorem nI_sub {a b : Nat} (h1 : b ≤ a) (h2 : a < 2147483648) : nI a - nI b = nI (a - b) := by
  apply Int32.toInt_inj.mp
  rw [i_sub (by rw [i_nI (by omega), i_nI (by omega)]; omega), i_nI (by omega), i_nI (by omega), i_nI (by omega)]; omega
theorem leaf_L {t i : Nat} (hT : TM n σ τ) (hK : KD n τ) (hn : n ≤ 100) (ht : t < n) (h8 : τ.1 8 t = -1) (hi : i < (if τ.1 5 t = 2 then cT (τ.1 11 t) (τ.1 12 t) else [mkL (τ.1 5 t) (τ.1 10 t)]).length) : k_Wr_letter_159 (nI t) (nI i) σ ∧ f_Wr_letter_159 (nI t) (nI i) σ = (if τ.1 5 t = 2 then cT (τ.1 11 t) (τ.1 12 t) else [mkL (τ.1 5 t) (τ.1 10 t)]).getD i 0 := by
  obtain ⟨⟨ek, -, -, en, -, et, eb⟩, kk, -, -, kn, -, kt, kb⟩ := tacc hT hn ht
  have hE := (hT.2.2 t ht).1
  have hW := (hT.2.2 t ht).2
  have hKt := hK.1 t ht
  obtain ⟨sk, sk1, sk2⟩ := hW.2.2.2.1
  have l10 := hW.2.2.2.2.1
  have e0 : f_Wr_letter_159 (nI t) (nI i) σ = if τ.1 5 t = 0 then ((97 + τ.1 10 t).toUInt32 % 65536).toInt32 else (if τ.1 5 t = 1 then ((120 + τ.1 10 t).toUInt32 % 65536).toInt32 else f_Wr_letterOfConstant (σ.1 12 t) (σ.1 13 t) (nI i) σ) := by
    show (if f_Te_kindOf (nI t) σ = 0 then ((97 + f_Te_nameOf (nI t) σ).toUInt32 % 65536).toInt32 else (if f_Te_kindOf (nI t) σ = 1 then ((120 + f_Te_nameOf (nI t) σ).toUInt32 % 65536).toInt32 else f_Wr_letterOfConstant (f_Te_topOf (nI t) σ) (f_Te_bottomOf (nI t) σ) (nI i) σ)) = _
    rw [ek, en, et, eb]
  have K0 : ∀ v : Int32, f_Wr_letter_159 (nI t) (nI i) σ = v → narrow .char (.int v) = .int v → (τ.1 5 t = 0 → narrow .char (.int (((97 + τ.1 10 t).toUInt32 % 65536).toInt32)) = .int (((97 + τ.1 10 t).toUInt32 % 65536).toInt32)) → (τ.1 5 t = 1 → narrow .char (.int (((120 + τ.1 10 t).toUInt32 % 65536).toInt32)) = .int (((120 + τ.1 10 t).toUInt32 % 65536).toInt32)) → (¬ τ.1 5 t = 0 → ¬ τ.1 5 t = 1 → k_Wr_letterOfConstant (σ.1 12 t) (σ.1 13 t) (nI i) σ ∧ narrow .char (.int (f_Wr_letterOfConstant (σ.1 12 t) (σ.1 13 t) (nI i) σ)) = .int (f_Wr_letterOfConstant (σ.1 12 t) (σ.1 13 t) (nI i) σ)) → k_Wr_letter_159 (nI t) (nI i) σ := fun v hv w1 w2 w3 w4 => by
    refine ⟨⟨kk, ?_⟩, ?_, trivial⟩
    · rw [ek, en, et, eb]
      exact ⟨fun z => ⟨kn, w2 z, trivial⟩, fun z => ⟨fun z2 => ⟨kn, w3 z2, trivial⟩, fun z2 => ⟨kt, kb, (w4 z z2).1, (w4 z z2).2, trivial⟩⟩⟩
    · have hv : f_Wr_letterOfLeaf (nI t) (nI i) σ = v := hv
      rw [hv]; exact w1
  by_cases k0 : τ.1 5 t = 0
  · have n2 : ¬ τ.1 5 t = 2 := by rw [k0]; decide
    rw [if_neg n2] at hi ⊢
    obtain rfl : i = 0 := by
      have : ([mkL (τ.1 5 t) (τ.1 10 t)] : List Int32).length = 1 := rfl
      omega
    obtain ⟨c1, c2⟩ := chr_n (x := 97) (l := τ.1 10 t) (k := 97) (by decide) (by omega) (hKt.1 k0) (by omega)
    have ev : f_Wr_letter_159 (nI t) (nI 0) σ = 97 + τ.1 10 t := by rw [e0, if_pos k0, c1]
    refine ⟨K0 _ ev c2 (fun _ => by rw [c1]; exact c2) (fun z => absurd (k0.symm.trans z) (by decide)) (fun z => absurd k0 z), ?_⟩
    rw [ev]
    show _ = mkL (τ.1 5 t) (τ.1 10 t)
    unfold mkL
    rw [if_pos k0]
  · by_cases k1 : τ.1 5 t = 1
    · have n2 : ¬ τ.1 5 t = 2 := by rw [k1]; decide
      rw [if_neg n2] at hi ⊢
      obtain rfl : i = 0 := by
        have : ([mkL (τ.1 5 t) (τ.1 10 t)] : List Int32).length = 1 := rfl
        omega
      obtain ⟨c1, c2⟩ := chr_n (x := 120) (l := τ.1 10 t) (k := 120) (by decide) (by omega) (hKt.2.1 k1).2.1 (by omega)
      have ev : f_Wr_letter_159 (nI t) (nI 0) σ = 120 + τ.1 10 t := by rw [e0, if_neg k0, if_pos k1, c1]
      refine ⟨K0 _ ev c2 (fun z => absurd z k0) (fun _ => by rw [c1]; exact c2) (fun _ z => absurd k1 z), ?_⟩
      rw [ev]
      show _ = mkL (τ.1 5 t) (τ.1 10 t)
      unfold mkL
      rw [if_neg k0, if_pos k1]
    · have k2 : τ.1 5 t = 2 := by
        have hs : sk = 0 ∨ sk = 1 ∨ sk = 2 ∨ sk = 3 ∨ sk = 4 ∨ sk = 5 ∨ sk = 6 ∨ sk = 7 ∨ sk = 8 ∨ sk = 9 ∨ sk = 10 := by omega
        rcases hs with rfl | rfl | rfl | rfl | rfl | rfl | rfl | rfl | rfl | rfl | rfl
        · exact absurd (sk2.trans (by decide +kernel)) k0
        · exact absurd (sk2.trans (by decide +kernel)) k1
        · exact sk2.trans (by decide +kernel)
        · exact absurd h8 (hKt.2.2.1 (sk2.trans (by decide +kernel))).1
        · exact absurd h8 (hKt.2.2.2.1 (sk2.trans (by decide +kernel))).1
        · exact absurd h8 (hKt.2.2.2.2.1 (sk2.trans (by decide +kernel))).1
        · exact absurd h8 (hKt.2.2.2.2.2.1 (sk2.trans (by decide +kernel))).1
        · exact absurd h8 (hKt.2.2.2.2.2.2.1 (sk2.trans (by decide +kernel))).1
        · exact absurd h8 (hKt.2.2.2.2.2.2.2.1 (sk2.trans (by decide +kernel))).1
        · exact absurd h8 (hKt.2.2.2.2.2.2.2.2.1 (sk2.trans (by decide +kernel))).1
        · exact absurd h8 (hKt.2.2.2.2.2.2.2.2.2 (sk2.trans (by decide +kernel))).1
      rw [if_pos k2] at hi ⊢
      obtain ⟨-, -, -, hp, hq⟩ := hW.2.2.2.2.2.2.1 k2
      obtain ⟨x1, x2⟩ := hE.2.2.2.2.2.2.2.1 k2
      obtain ⟨c1, c2, c3⟩ := loc_C (σ := σ) hp hq hi
      have ev : f_Wr_letter_159 (nI t) (nI i) σ = (cT (τ.1 11 t) (τ.1 12 t)).getD i 0 := by rw [e0, if_neg k0, if_neg k1, x1, x2, c2]
      refine ⟨K0 _ ev c3 (fun z => absurd z k0) (fun z => absurd z k1) (fun _ _ => ?_), ev⟩
      rw [x1, x2]
      exact ⟨c1, by rw [c2]; exact c3⟩
theorem head_L {t i : Nat} (hT : TM n σ τ) (hK : KD n τ) (hn : n ≤ 100) (ht : t < n) (h8 : ¬ τ.1 8 t = -1) (hi : i < (hdT (τ.1 5 t) (τ.1 10 t)).length) : k_Wr_letterOfHead (nI t) (nI i) σ ∧ f_Wr_letterOfHead (nI t) (nI i) σ = (hdT (τ.1 5 t) (τ.1 10 t)).getD i 0 ∧ narrow .char (.int ((hdT (τ.1 5 t) (τ.1 10 t)).getD i 0)) = .int ((hdT (τ.1 5 t) (τ.1 10 t)).getD i 0) := by
  obtain ⟨⟨ek, -, -, en, -⟩, kk, -, -, kn, -⟩ := tacc hT hn ht
  have hW := (hT.2.2 t ht).2
  have hKt := hK.1 t ht
  have l10 := hW.2.2.2.2.1
  obtain ⟨m1, m2⟩ := mark_L hT hK hn ht h8
  have mn : narrow .char (.int (mkL (τ.1 5 t) (τ.1 10 t))) = .int (mkL (τ.1 5 t) (τ.1 10 t)) := mkL_nar (fun z => ⟨hKt.1 z, by omega⟩) (fun z => absurd (hKt.2.1 z).1 h8)
  have e0 : f_Wr_letterOfHead (nI t) (nI i) σ = if nI i = 0 then 40 else (if nI i = 1 then mkL (τ.1 5 t) (τ.1 10 t) else (if nI i = 2 then 32 else (if nI i = 3 then ((120 + τ.1 10 t).toUInt32 % 65536).toInt32 else 32))) := by
    show (if nI i = 0 then (40 : Int32) else (if nI i = 1 then f_Wr_letterOfMark (nI t) σ else (if nI i = 2 then 32 else (if nI i = 3 then ((120 + f_Te_nameOf (nI t) σ).toUInt32 % 65536).toInt32 else 32)))) = _
    rw [m2, en]
  have KH : (nI i = 3 → narrow .char (.int (((120 + τ.1 10 t).toUInt32 % 65536).toInt32)) = .int (((120 + τ.1 10 t).toUInt32 % 65536).toInt32)) → k_Wr_letterOfHead (nI t) (nI i) σ := fun w => ⟨fun _ => ⟨rfl, trivial⟩, fun _ => ⟨fun _ => ⟨m1, by rw [m2]; exact mn, trivial⟩, fun _ => ⟨fun _ => ⟨rfl, trivial⟩, fun _ => ⟨fun z => ⟨kn, by rw [en]; exact w z, trivial⟩, fun _ => ⟨rfl, trivial⟩⟩⟩⟩⟩
  have hl : (hdT (τ.1 5 t) (τ.1 10 t)).length = if τ.1 5 t = 10 then 5 else 3 := by
    unfold hdT
    by_cases w : τ.1 5 t = 10
    · rw [if_pos w, if_pos w]; rfl
    · rw [if_neg w, if_neg w]; rfl
  rw [hl] at hi
  rw [e0]
  by_cases w : τ.1 5 t = 10
  · rw [if_pos w] at hi
    have eh : hdT (τ.1 5 t) (τ.1 10 t) = [40, mkL (τ.1 5 t) (τ.1 10 t), 32, 120 + τ.1 10 t, 32] := by unfold hdT; rw [if_pos w]
    obtain ⟨-, -, x1, x2, -⟩ := hKt.2.2.2.2.2.2.2.2.2 w
    obtain ⟨c1, c2⟩ := chr_n (x := 120) (l := τ.1 10 t) (k := 120) (by decide) (by omega) x1 (by omega)
    rw [eh]
    refine ⟨KH (fun _ => by rw [c1]; exact c2), ?_⟩
    have : i = 0 ∨ i = 1 ∨ i = 2 ∨ i = 3 ∨ i = 4 := by omega
    rcases this with rfl | rfl | rfl | rfl | rfl
    · rw [if_pos nI_0]; exact ⟨rfl, rfl⟩
    · rw [show nI 1 = 1 by decide +kernel, if_neg (by decide), if_pos rfl]; exact ⟨rfl, mn⟩
    · rw [show nI 2 = 2 by decide +kernel, if_neg (by decide), if_neg (by decide), if_pos rfl]; exact ⟨rfl, rfl⟩
    · rw [show nI 3 = 3 by decide +kernel, if_neg (by decide), if_neg (by decide), if_neg (by decide), if_pos rfl, c1]; exact ⟨rfl, c2⟩
    · rw [show nI 4 = 4 by decide +kernel, if_neg (by decide), if_neg (by decide), if_neg (by decide), if_neg (by decide)]; exact ⟨rfl, rfl⟩
  · rw [if_neg w] at hi
    have eh : hdT (τ.1 5 t) (τ.1 10 t) = [40, mkL (τ.1 5 t) (τ.1 10 t), 32] := by unfold hdT; rw [if_neg w]
    rw [eh]
    have : i = 0 ∨ i = 1 ∨ i = 2 := by omega
    rcases this with rfl | rfl | rfl
    · refine ⟨KH (fun z => absurd z (by rw [nI_0]; decide)), ?_⟩
      rw [if_pos nI_0]; exact ⟨rfl, rfl⟩
    · refine ⟨KH (fun z => absurd z (by rw [show nI 1 = 1 by decide +kernel]; decide)), ?_⟩
      rw [show nI 1 = 1 by decide +kernel, if_neg (by decide), if_pos rfl]; exact ⟨rfl, mn⟩
    · refine ⟨KH (fun z => absurd z (by rw [show nI 2 = 2 by decide +kernel]; decide)), ?_⟩
      rw [show nI 2 = 2 by decide +kernel, if_neg (by decide), if_neg (by decide), if_pos rfl]; exact ⟨rfl, rfl⟩
theorem let8 (hT : TM n σ τ) (hL : LN n σ τ) (hK : KD n τ) (hn : n ≤ 100) : ∀ (d t i lv fuel : Nat), d ≤ 12 → t < n → (τ.1 7 t).toInt ≤ d → lv + d ≤ 12 → i < (txt τ d t).length → d < fuel → k_Wr_letter_8 fuel (nI t) (nI i) (nI lv) σ ∧ f_Wr_letter_8 fuel (nI t) (nI i) (nI lv) σ = (txt τ d t).getD i 0 := by
  have hD : ∀ j, j < n → 1 ≤ (τ.1 7 j).toInt ∧ (τ.1 7 j).toInt ≤ 1000 := fun j hj => by
    have := (hT.2.2 j hj).2.2.2.2.2.2.2.2.2.2.2
    omega
  intro d
  induction d with
  | zero =>
    intro t i lv fuel _ ht hd
    have := hD t ht
    omega
  | succ d ih =>
    intro t i lv fuel hd12 ht hd hlv hi hf
    obtain ⟨fuel, rfl⟩ : ∃ k, fuel = k + 1 := ⟨fuel - 1, by omega⟩
    have hW := (hT.2.2 t ht).2
    obtain ⟨⟨ek, ef, es, -, -⟩, kk, kf, ks, -⟩ := tacc hT hn ht
    have n12 : ¬ (12 : Int32) ≤ nI lv := fun z => by have := (nI_le_iff (a := 12) (by omega) (by omega)).mp z; omega
    have lall := txt_len hT hL hn (d + 1) t hd12 ht hd
    have pd : 2 ^ (d + 1) ≤ 2 ^ 12 := Nat.pow_le_pow_right (by omega) (by omega)
    have p12 : (2 : Nat) ^ 12 = 4096 := rfl
    have hib : i < 100000 := by omega
    by_cases h8 : τ.1 8 t = -1
    · have et : txt τ (d + 1) t = if τ.1 5 t = 2 then cT (τ.1 11 t) (τ.1 12 t) else [mkL (τ.1 5 t) (τ.1 10 t)] := by
        show (if τ.1 5 t = 2 then _ else (if τ.1 8 t = -1 then _ else _)) = _
        rw [if_pos h8]
      rw [et] at hi ⊢
      obtain ⟨g1, g2⟩ := leaf_L hT hK hn ht h8 hi
      refine ⟨⟨fun z => absurd z n12, fun _ => ⟨kf, fun _ => g1, fun z => absurd (ef.trans h8) z⟩⟩, ?_⟩
      show (if (12 : Int32) ≤ nI lv then _ else (if f_Te_firstOf (nI t) σ = -1 then f_Wr_letter_159 (nI t) (nI i) σ else _)) = _
      rw [if_neg n12, if_pos (ef.trans h8), g2]
    · have n2 : ¬ τ.1 5 t = 2 := fun z => h8 (hW.2.2.2.2.2.2.1 z).1
      have et : txt τ (d + 1) t = hdT (τ.1 5 t) (τ.1 10 t) ++ (txt τ d (τ.1 8 t).toNatClampNeg ++ ((if τ.1 9 t = -1 then [] else 32 :: txt τ d (τ.1 9 t).toNatClampNeg) ++ [41])) := by
        show (if τ.1 5 t = 2 then _ else (if τ.1 8 t = -1 then _ else _)) = _
        rw [if_neg n2, if_neg h8]
      obtain ⟨a, a1, a2⟩ := hW.1.resolve_left h8
      have hca : (nI a).toNatClampNeg = a := nI_clamp (by omega)
      have da := dep_part hW (by omega) (fun j hj => hD j (by omega)) a1 (Or.inl a2)
      obtain ⟨la, lb, lc⟩ := txt_len hT hL hn d a (by omega) (by omega) (by omega)
      obtain ⟨⟨-, -, -, -, ela, -⟩, -, -, -, -, kla, -⟩ := tacc hT hn (t := a) (by omega)
      rw [la] at ela
      rw [et, a2, hca] at hi ⊢
      have hl : (hdT (τ.1 5 t) (τ.1 10 t)).length = if τ.1 5 t = 10 then 5 else 3 := by
        unfold hdT
        by_cases w : τ.1 5 t = 10
        · rw [if_pos w, if_pos w]; rfl
        · rw [if_neg w, if_neg w]; rfl
      obtain ⟨h, hh, hb⟩ : ∃ h, (hdT (τ.1 5 t) (τ.1 10 t)).length = h ∧ h ≤ 5 := ⟨_, rfl, by
        rw [hl]
        by_cases w : τ.1 5 t = 10
        · rw [if_pos w]; exact Nat.le_refl 5
        · rw [if_neg w]; omega⟩
      have ehl : f_Wr_headLength (f_Te_kindOf (nI t) σ) σ = nI h := by
        rw [ek, ← hh, hl]
        show (if τ.1 5 t = 10 then (5 : Int32) else 3) = _
        by_cases w : τ.1 5 t = 10
        · rw [if_pos w, if_pos w]; decide +kernel
        · rw [if_neg w, if_neg w]; decide +kernel
      have khl : k_Wr_headLength (f_Te_kindOf (nI t) σ) σ := ⟨fun _ => trivial, fun _ => trivial⟩
      have eU : f_Wr_letter_8 (fuel + 1) (nI t) (nI i) (nI lv) σ = f_Wr_letter_50 (f_Wr_letter_8 fuel) (nI t) (nI i) (nI lv) (nI a) (nI h) σ := by
        show (if (12 : Int32) ≤ nI lv then _ else (if f_Te_firstOf (nI t) σ = -1 then _ else f_Wr_letter_50 (f_Wr_letter_8 fuel) (nI t) (nI i) (nI lv) (f_Te_firstOf (nI t) σ) (f_Wr_headLength (f_Te_kindOf (nI t) σ) σ) σ)) = _
        rw [if_neg n12, ef, if_neg h8, ehl, a2]
      have kU : k_Wr_letter_50 (k_Wr_letter_8 fuel) (nI t) (nI i) (nI lv) (nI a) (nI h) σ → k_Wr_letter_8 (fuel + 1) (nI t) (nI i) (nI lv) σ := fun w => by
        refine ⟨fun z => absurd z n12, fun _ => ⟨kf, fun z => absurd (ef.symm.trans z) h8, fun _ => ⟨kf, kk, khl, ?_⟩⟩⟩
        rw [ehl, ef, a2]; exact w
      rw [eU]
      have lh : (nI h ≤ nI i) ↔ h ≤ i := nI_le_iff (by omega) (by omega)
      by_cases w1 : i < h
      · -- within the head
        have nw : ¬ nI h ≤ nI i := fun z => by have := lh.mp z; omega
        obtain ⟨g1, g2, g3⟩ := head_L hT hK hn ht h8 (i := i) (by omega)
        rw [gD_l (by omega), f_Wr_letter_50, if_neg nw, g2]
        exact ⟨kU ⟨fun z => absurd z nw, fun _ => ⟨g1, by rw [g2]; exact g3, trivial⟩⟩, rfl⟩
      · have pw : nI h ≤ nI i := lh.mpr (by omega)
        rw [gD_r (by omega), hh]
        have e50 : f_Wr_letter_50 (f_Wr_letter_8 fuel) (nI t) (nI i) (nI lv) (nI a) (nI h) σ = f_Wr_letter_72 (f_Wr_letter_8 fuel) (nI t) (nI (i - h)) (nI lv) (nI a) σ := by
          rw [f_Wr_letter_50, if_pos pw, nI_sub (by omega) (by omega)]
        have k50 : k_Wr_letter_72 (k_Wr_letter_8 fuel) (nI t) (nI (i - h)) (nI lv) (nI a) σ → k_Wr_letter_8 (fuel + 1) (nI t) (nI i) (nI lv) σ := fun w => kU ⟨fun _ => by rw [nI_sub (by omega) (by omega)]; exact w, fun z => absurd pw z⟩
        rw [e50]
        have la2 : (nI (txt τ d a).length ≤ nI (i - h)) ↔ (txt τ d a).length ≤ i - h := nI_le_iff (by omega) (by omega)
        rw [List.length_append, hh] at hi
        by_cases w2 : i - h < (txt τ d a).length
        · have nw : ¬ nI (txt τ d a).length ≤ nI (i - h) := fun z => by have := la2.mp z; omega
          obtain ⟨g1, g2⟩ := ih a (i - h) (lv + 1) fuel (by omega) (by omega) (by omega) (by omega) w2 (by omega)
          rw [nI_succ] at g1 g2
          rw [gD_l w2, f_Wr_letter_72, ela, if_neg nw]
          refine ⟨k50 ⟨kla, ?_⟩, g2⟩
          rw [ela]
          exact ⟨fun z => absurd z nw, fun _ => g1⟩
        · have pw2 : nI (txt τ d a).length ≤ nI (i - h) := la2.mpr (by omega)
          rw [gD_r (by omega)]
          generalize hy : i - h - (txt τ d a).length = y
          have e72 : f_Wr_letter_72 (f_Wr_letter_8 fuel) (nI t) (nI (i - h)) (nI lv) (nI a) σ = f_Wr_letter_116 (f_Wr_letter_8 fuel) (nI y) (nI lv) (τ.1 9 t) σ := by
            rw [f_Wr_letter_72, ela, if_pos pw2, nI_sub (by omega) (by omega), hy, f_Wr_letter_106, es]
          have k72 : k_Wr_letter_116 (k_Wr_letter_8 fuel) (nI y) (nI lv) (τ.1 9 t) σ → k_Wr_letter_8 (fuel + 1) (nI t) (nI i) (nI lv) σ := fun w => k50 (by
            refine ⟨kla, ?_⟩
            rw [ela]
            refine ⟨fun _ => ⟨kla, ks, ?_⟩, fun z => absurd pw2 z⟩
            rw [nI_sub (by omega) (by omega), hy, es]; exact w)
          rw [e72]
          rw [List.length_append] at hi
          by_cases h9 : τ.1 9 t = -1
          · rw [if_pos h9] at hi ⊢
            have hl1 : (([] : List Int32) ++ [41]).length = 1 := rfl
            obtain rfl : y = 0 := by omega
            rw [f_Wr_letter_116, if_pos h9]
            exact ⟨k72 ⟨fun _ => ⟨rfl, trivial⟩, fun z => absurd h9 z⟩, rfl⟩
          · obtain ⟨b, b1, b2⟩ := hW.2.1.resolve_left h9
            have hcb : (nI b).toNatClampNeg = b := nI_clamp (by omega)
            have db := dep_part hW (by omega) (fun j hj => hD j (by omega)) b1 (Or.inr b2)
            obtain ⟨ma, mb, mc⟩ := txt_len hT hL hn d b (by omega) (by omega) (by omega)
            obtain ⟨⟨-, -, -, -, elb, -⟩, -, -, -, -, klb, -⟩ := tacc hT hn (t := b) (by omega)
            rw [ma] at elb
            have nb : ¬ nI b = -1 := nI_ne_m1 (by omega)
            rw [if_neg h9, b2, hcb] at hi ⊢
            rw [List.length_append, List.length_cons] at hi
            have h41 : ([41] : List Int32).length = 1 := rfl
            have lb2 : (nI y ≤ nI (txt τ d b).length) ↔ y ≤ (txt τ d b).length := nI_le_iff (by omega) (by omega)
            have e116 : f_Wr_letter_116 (f_Wr_letter_8 fuel) (nI y) (nI lv) (nI b) σ = if nI y ≤ nI (txt τ d b).length then (if nI y = 0 then 32 else f_Wr_letter_8 fuel (nI b) (nI y + -1) (nI lv + 1) σ) else 41 := by
              rw [f_Wr_letter_116, if_neg nb, elb]; rfl
            have k116 : (nI y ≤ nI (txt τ d b).length → ¬ nI y = 0 → k_Wr_letter_8 fuel (nI b) (nI y + -1) (nI lv + 1) σ) → k_Wr_letter_8 (fuel + 1) (nI t) (nI i) (nI lv) σ := fun w => k72 (by
              rw [b2]
              refine ⟨fun z => absurd z nb, fun _ => ⟨klb, ?_⟩⟩
              rw [elb]
              exact ⟨fun z1 => ⟨fun _ => ⟨rfl, trivial⟩, fun z2 => w z1 z2⟩, fun _ => ⟨rfl, trivial⟩⟩)
            rw [e116]
            by_cases w3 : y ≤ (txt τ d b).length
            · rw [if_pos (lb2.mpr w3), gD_l (by rw [List.length_cons]; omega)]
              cases y with
              | zero =>
                rw [if_pos nI_0]
                exact ⟨k116 (fun _ z => absurd nI_0 z), rfl⟩
              | succ y =>
                have ny : ¬ nI (y + 1) = 0 := fun z => by
                  have := (nI_inj (a := y + 1) (b := 0) (by omega) (by omega)).mp (by rw [nI_0]; exact z)
                  omega
                have ey : nI (y + 1) + -1 = nI y := by rw [← Int32.sub_eq_add_neg, nI_pred]
                obtain ⟨g1, g2⟩ := ih b y (lv + 1) fuel (by omega) (by omega) (by omega) (by omega) (by omega) (by omega)
                rw [nI_succ] at g1 g2
                rw [if_neg ny, ey]
                refine ⟨k116 (fun _ _ => by rw [ey]; exact g1), g2⟩
            · rw [if_neg (fun z => w3 (lb2.mp z)), gD_r (by rw [List.length_cons]; omega), List.length_cons]
              obtain rfl : y = (txt τ d b).length + 1 := by omega
              rw [Nat.sub_self]
              exact ⟨k116 (fun z => absurd (lb2.mp z) w3), rfl⟩
end LET
