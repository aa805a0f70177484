-- reading: letters, digits, simple terms, side by side
theorem nar_char {v : Int32} (h0 : 0 ≤ v.toInt) (h1 : v.toInt ≤ 255) : narrow .char (.int v) = .int v := by
  have e : (v.toUInt32 % 65536).toInt32 = v := (pk_vc v).symm.trans (char_eq h0 h1)
  have e2 : vp_nar .char v = v := by
    have := char_eq h0 h1
    rw [e] at this; exact this
  show Value.int v.toUInt32.toUInt16.toUInt32.toInt32 = Value.int v
  rw [← vp_nar_char, e2]
/-- the letter at p, 0 behind the end -/
def ltr (τ : St) (nd p : Nat) : Int32 := if p < nd then τ.1 21 p else 0
def DD (nd : Nat) (σ τ : St) : Prop := nd ≤ 120 ∧ σ.1 18 1 = nI nd ∧ τ.1 0 30 = nI nd ∧ ∀ j, j < nd → σ.1 19 j = τ.1 21 j ∧ 32 ≤ (τ.1 21 j).toInt ∧ (τ.1 21 j).toInt ≤ 126
/-- both sides within a reading: n terms, at p, b brackets open -/
def RD (n0 n p b nd : Nat) (σ τ : St) : Prop := TT n0 n σ τ ∧ SG σ τ ∧ DD nd σ τ ∧ (p ≤ nd ∧ σ.1 20 3 = nI p ∧ τ.1 0 32 = nI p) ∧ τ.1 0 33 = 0 ∧ (b ≤ 12 ∧ τ.1 0 34 = nI b)
def mvC (σ σ' : St) : Prop := (∀ c, ¬ c = 20 → σ'.1 c = σ.1 c) ∧ σ'.2 = σ.2
def mvM (τ τ' : St) : Prop := (∀ c, ¬ c = 0 → τ'.1 c = τ.1 c) ∧ (∀ j, ¬ j = 32 → ¬ j = 33 → τ'.1 0 j = τ.1 0 j) ∧ τ'.2 = τ.2
def fcR (σ σ' : St) : Prop := (∀ c, (c < 6 ∨ 17 < c) → ¬ c = 20 → σ'.1 c = σ.1 c) ∧ σ'.1 6 12 = σ.1 6 12
def fmR (τ τ' : St) : Prop := (∀ c, (1 ≤ c ∧ c < 5) ∨ (13 < c ∧ (c < 22 ∨ 25 < c)) → τ'.1 c = τ.1 c) ∧ (∀ j, ¬ j = 8 → ¬ j = 32 → ¬ j = 33 → ¬ j = 34 → τ'.1 0 j = τ.1 0 j) ∧ τ'.2 = τ.2
def stk (b : Nat) (τ τ' : St) : Prop := ∀ c, 22 ≤ c → c ≤ 25 → ∀ j, j < b → τ'.1 c j = τ.1 c j
theorem mvC.rf (σ : St) : mvC σ σ := ⟨fun _ _ => rfl, rfl⟩
theorem mvM.rf (τ : St) : mvM τ τ := ⟨fun _ _ => rfl, fun _ _ _ => rfl, rfl⟩
theorem mvC.tr {a b d : St} (h1 : mvC a b) (h2 : mvC b d) : mvC a d := ⟨fun c hc => (h2.1 c hc).trans (h1.1 c hc), h2.2.trans h1.2⟩
theorem mvM.tr {a b d : St} (h1 : mvM a b) (h2 : mvM b d) : mvM a d := ⟨fun c hc => (h2.1 c hc).trans (h1.1 c hc), fun j q1 q2 => (h2.2.1 j q1 q2).trans (h1.2.1 j q1 q2), h2.2.2.trans h1.2.2⟩
theorem mvC.pos (σ : St) (v : Int32) : mvC σ (sF σ 20 3 v) := ⟨fun c hc => by show pu σ.1 20 _ c = _; rw [pu_at, if_neg hc], rfl⟩
theorem mvM.at (τ : St) (v : Int32) : mvM τ (sF τ 0 32 v) := ⟨fun c hc => by show pu τ.1 0 _ c = _; rw [pu_at, if_neg hc], fun j q1 q2 => by show pu (τ.1 0) 32 _ j = _; rw [pu_at, if_neg q1], rfl⟩
theorem mvM.bad (τ : St) (v : Int32) : mvM τ (sF τ 0 33 v) := ⟨fun c hc => by show pu τ.1 0 _ c = _; rw [pu_at, if_neg hc], fun j q1 q2 => by show pu (τ.1 0) 33 _ j = _; rw [pu_at, if_neg q2], rfl⟩
theorem fcR.rf (σ : St) : fcR σ σ := ⟨fun _ _ _ => rfl, rfl⟩
theorem fmR.rf (τ : St) : fmR τ τ := ⟨fun _ _ => rfl, fun _ _ _ _ _ => rfl, rfl⟩
theorem fcR.tr {a b d : St} (h1 : fcR a b) (h2 : fcR b d) : fcR a d := ⟨fun c q1 q2 => (h2.1 c q1 q2).trans (h1.1 c q1 q2), h2.2.trans h1.2⟩
theorem fmR.tr {a b d : St} (h1 : fmR a b) (h2 : fmR b d) : fmR a d := ⟨fun c q1 => (h2.1 c q1).trans (h1.1 c q1), fun j q1 q2 q3 q4 => (h2.2.1 j q1 q2 q3 q4).trans (h1.2.1 j q1 q2 q3 q4), h2.2.2.trans h1.2.2⟩
theorem stk.tr {b b' : Nat} {x y z : St} (h1 : stk b x y) (h2 : stk b' y z) (h : b ≤ b') : stk b x z := fun c q1 q2 j hj => (h2 c q1 q2 j (by omega)).trans (h1 c q1 q2 j hj)
theorem mvC.fc {a b : St} (h : mvC a b) : fcR a b := ⟨fun c _ q2 => h.1 c q2, by rw [h.1 6 (by omega)]⟩
theorem mvM.fm {a b : St} (h : mvM a b) : fmR a b := ⟨fun c q => h.1 c (by omega), fun j _ q2 q3 _ => h.2.1 j q2 q3, h.2.2⟩
theorem mvM.st {a b : St} (h : mvM a b) (m : Nat) : stk m a b := fun c q1 _ j _ => by rw [h.1 c (by omega)]
theorem mvM.rw {a b : St} (h : mvM a b) (m : Nat) : rwM m a b := fun c q1 _ j _ => by rw [h.1 c (by omega)]
section LEX
variable {n0 n p b nd : Nat} {σ τ σ' τ' : St}
theorem RD.move {p' b' : Nat} (h : RD n0 n p b nd σ τ) (hC : ∀ c, ¬ c = 20 → σ'.1 c = σ.1 c) (h2 : σ'.2 = σ.2) (hM : ∀ c, ¬ c = 0 → c < 22 → τ'.1 c = τ.1 c) (h0 : ∀ j, ¬ j = 32 → ¬ j = 33 → ¬ j = 34 → τ'.1 0 j = τ.1 0 j)
    (e1 : σ'.1 20 3 = nI p') (e2 : τ'.1 0 32 = nI p') (e3 : τ'.1 0 33 = 0) (e4 : τ'.1 0 34 = nI b') (hp : p' ≤ nd) (hb : b' ≤ 12) : RD n0 n p' b' nd σ' τ' := by
  obtain ⟨⟨h1, hn, hT, hL, hK, e12, e9, hD⟩, hG, ⟨d1, d2, d3, d4⟩, -, -, -⟩ := h
  refine ⟨⟨h1, hn, hT.cong (fun c q1 q2 => hC c (by omega)) (by rw [h2]) (h0 8 (by omega) (by omega) (by omega)) (fun c q1 q2 => hM c (by omega) (by omega)), hL.cong (hC 15 (by omega)) (fun c q1 q2 => hM c (by omega) (by omega)), hK.cong (fun c q1 q2 => hM c (by omega) (by omega)) (fun c q1 q2 => hM c (by omega) (by omega)) (h0 3 (by omega) (by omega) (by omega)), by rw [hC 6 (by omega)]; exact e12, by rw [h0 9 (by omega) (by omega) (by omega)]; exact e9, ?_⟩, hG.cong (fun c q1 q2 => hC c (by omega)) (fun c q1 q2 => hM c (by omega) (by omega)) (fun j q1 q2 => h0 j (by omega) (by omega) (by omega)), ⟨d1, by rw [hC 18 (by omega)]; exact d2, by rw [h0 30 (by omega) (by omega) (by omega)]; exact d3, by rw [hC 19 (by omega), hM 21 (by omega) (by omega)]; exact d4⟩, ⟨hp, e1, e2⟩, e3, hb, e4⟩
  unfold DP at hD ⊢
  rw [hC 6 (by omega), hM 7 (by omega) (by omega)]; exact hD
theorem let_C (hd : DD nd σ τ) (x : Nat) (hx : x ≤ 200) : k_Dr_letter (nI x) σ ∧ f_Dr_letter (nI x) σ = ltr τ nd x := by
  obtain ⟨d1, d2, d3, d4⟩ := hd
  have z0 : ¬ nI x < 0 := nI_pos (by omega)
  have hcl : (nI x).toNatClampNeg = x := nI_clamp (by omega)
  have e : f_Dr_letter (nI x) σ = if nI nd ≤ nI x then 0 else σ.1 19 x := by
    show (if nI x < 0 then (0 : Int32) else (if σ.1 18 1 ≤ nI x then 0 else σ.1 19 (nI x).toNatClampNeg)) = _
    rw [if_neg z0, d2, hcl]
  have l0 : (nI nd ≤ nI x) ↔ nd ≤ x := nI_le_iff (by omega) (by omega)
  refine ⟨⟨fun z => absurd z z0, fun _ => ⟨fun _ => ⟨rfl, trivial⟩, fun z => ⟨?_, ?_, trivial⟩⟩⟩, ?_⟩
  · rw [d2, l0] at z
    rw [in_iff, i_nI (by omega)]; omega
  · rw [d2, l0] at z
    rw [hcl]
    obtain ⟨q1, q2, q3⟩ := d4 x (by omega)
    rw [q1]; exact nar_char (by omega) (by omega)
  · rw [e]; unfold ltr
    by_cases h : x < nd
    · rw [if_pos h, if_neg (by rw [l0]; omega)]; exact (d4 x h).1
    · rw [if_neg h, if_pos (by rw [l0]; omega)]
theorem peek_M (hd : DD nd σ τ) (h32 : τ.1 0 32 = nI p) (hp : p ≤ 200) : k_Mo_peek τ ∧ f_Mo_peek τ = ltr τ nd p := by
  obtain ⟨d1, d2, d3, d4⟩ := hd
  have hcl : (nI p).toNatClampNeg = p := nI_clamp (by omega)
  have l0 : (nI nd ≤ nI p) ↔ nd ≤ p := nI_le_iff (by omega) (by omega)
  have e : f_Mo_peek τ = if nI nd ≤ nI p then 0 else τ.1 21 p := by
    show (if τ.1 0 30 ≤ τ.1 0 32 then (0 : Int32) else τ.1 21 (τ.1 0 32).toNatClampNeg) = _
    rw [d3, h32, hcl]
  refine ⟨⟨fun _ => trivial, fun z => ⟨?_, trivial⟩⟩, ?_⟩
  · rw [d3, h32, l0] at z
    rw [h32, in_iff, i_nI (by omega)]; omega
  · rw [e]; unfold ltr
    by_cases h : p < nd
    · rw [if_pos h, if_neg (by rw [l0]; omega)]
    · rw [if_neg h, if_pos (by rw [l0]; omega)]
theorem ltr_in {c : Int32} (h : ltr τ nd p = c) (hc : ¬ c = 0) : p < nd := by
  unfold ltr at h
  by_cases z : p < nd
  · exact z
  · rw [if_neg z] at h; exact absurd h.symm hc
theorem ltr_rng (hd : DD nd σ τ) : ltr τ nd p = 0 ∨ (p < nd ∧ 32 ≤ (ltr τ nd p).toInt ∧ (ltr τ nd p).toInt ≤ 126) := by
  unfold ltr
  by_cases z : p < nd
  · rw [if_pos z]; exact Or.inr ⟨z, (hd.2.2.2 p z).2⟩
  · rw [if_neg z]; exact Or.inl rfl
theorem RD.let (h : RD n0 n p b nd σ τ) : k_Dr_letter (σ.1 20 3) σ ∧ f_Dr_letter (σ.1 20 3) σ = ltr τ nd p ∧ k_Mo_peek τ ∧ f_Mo_peek τ = ltr τ nd p := by
  obtain ⟨-, -, hd, ⟨p1, p2, p3⟩, -, -⟩ := h
  have h120 := hd.1
  obtain ⟨a1, a2⟩ := let_C hd p (by omega)
  obtain ⟨b1, b2⟩ := peek_M hd p3 (by omega)
  rw [p2]
  exact ⟨a1, a2, b1, b2⟩
theorem RD.take (h : RD n0 n p b nd σ τ) (x : Int32) (hx : ¬ x = 0) : k_Rd_take x σ ∧ ((ltr τ nd p = x ∧ p < nd ∧ f_Rd_take x σ = (1, sF σ 20 3 (nI (p + 1)))) ∨ (¬ ltr τ nd p = x ∧ f_Rd_take x σ = (0, σ))) := by
  obtain ⟨a1, a2, -, -⟩ := h.let
  have e : f_Rd_take x σ = if ltr τ nd p = x then (1, sF σ 20 3 (nI (p + 1))) else (0, σ) := by
    show (if f_Dr_letter (σ.1 20 3) σ = x then ((1 : Int32), sF σ 20 3 (σ.1 20 3 + 1)) else (0, σ)) = _
    rw [a2, h.2.2.2.1.2.1, nI_succ]
  refine ⟨⟨a1, fun _ => trivial, fun _ => trivial⟩, ?_⟩
  rw [e]
  by_cases z : ltr τ nd p = x
  · rw [if_pos z]; exact Or.inl ⟨z, ltr_in z hx, rfl⟩
  · rw [if_neg z]; exact Or.inr ⟨z, rfl⟩
/-- both go one letter on -/
theorem RD.adv (h : RD n0 n p b nd σ τ) (hp : p < nd) : RD n0 n (p + 1) b nd (sF σ 20 3 (nI (p + 1))) (sF τ 0 32 (nI (p + 1))) := by
  have hC := (mvC.pos σ (nI (p + 1)))
  have hM := (mvM.at τ (nI (p + 1)))
  exact h.move hC.1 hC.2 (fun c q1 _ => hM.1 c q1) (fun j q1 q2 _ => hM.2.1 j q1 q2) rfl rfl h.2.2.2.2.1 h.2.2.2.2.2.2 (by omega) h.2.2.2.2.2.1
/-- the reference's mark of a fault is written anew as 0 -/
theorem RD.good (h : RD n0 n p b nd σ τ) : RD n0 n p b nd σ (sF τ 0 33 0) := by
  have hM := (mvM.bad τ 0)
  exact h.move (fun _ _ => rfl) rfl (fun c q1 _ => hM.1 c q1) (fun j q1 q2 _ => hM.2.1 j q1 q2) h.2.2.2.1.2.1 h.2.2.2.1.2.2 rfl h.2.2.2.2.2.2 h.2.2.2.1.1 h.2.2.2.2.2.1
theorem dig_C (a : Int32) (σ : St) : k_Rd_isDigit a σ ∧ (f_Rd_isDigit a σ = 0 ↔ ¬ (48 ≤ a.toInt ∧ a.toInt ≤ 57)) := by
  refine ⟨⟨fun _ => ⟨rfl, trivial⟩, fun _ => ⟨fun _ => ⟨rfl, trivial⟩, fun _ => ⟨rfl, trivial⟩⟩⟩, ?_⟩
  show (if a < 48 then (0 : Int32) else (if 57 < a then 0 else 1)) = 0 ↔ _
  have r1 : a < 48 ↔ a.toInt < 48 := by rw [Int32.lt_iff_toInt_lt]; rfl
  have r2 : 57 < a ↔ 57 < a.toInt := by rw [Int32.lt_iff_toInt_lt]; rfl
  by_cases z1 : a < 48
  · rw [if_pos z1]; rw [r1] at z1; exact ⟨fun _ => by omega, fun _ => rfl⟩
  · rw [if_neg z1]; rw [r1] at z1
    by_cases z2 : 57 < a
    · rw [if_pos z2]; rw [r2] at z2; exact ⟨fun _ => by omega, fun _ => rfl⟩
    · rw [if_neg z2]; rw [r2] at z2; exact ⟨fun w => absurd w (by decide), fun w => absurd ⟨by omega, by omega⟩ w⟩
theorem dig_M (a : Int32) (σ : St) : k_Mo_digit a σ ∧ (f_Mo_digit a σ = 0 ↔ ¬ (48 ≤ a.toInt ∧ a.toInt ≤ 57)) := by
  refine ⟨⟨fun _ => ⟨rfl, trivial⟩, fun _ => ⟨fun _ => ⟨rfl, trivial⟩, fun _ => ⟨rfl, trivial⟩⟩⟩, (dig_C a σ).2⟩
theorem dg_sim : ∀ (e cnt v p fuel fuel' : Nat) (σ τ : St), cnt + e = 6 → e < fuel → e < fuel' → v < 10 ^ cnt → RD n0 n p b nd σ τ →
    k_Rd_readDigits_4 fuel (nI v) (nI cnt) σ ∧ k_Mo_digits_4 fuel' (nI cnt) (nI v) τ ∧ ∃ x p' σ' τ', f_Rd_readDigits_4 fuel (nI v) (nI cnt) σ = (x, σ') ∧ f_Mo_digits_4 fuel' (nI cnt) (nI v) τ = (x, τ') ∧ RD n0 n p' b nd σ' τ' ∧ p ≤ p' ∧ (x = -1 ∨ ∃ w, w ≤ 99999 ∧ x = nI w) ∧ mvC σ σ' ∧ mvM τ τ' ∧ (¬ x = -1 → cnt = 0 → p < p' ∧ 48 ≤ (ltr τ nd p).toInt ∧ (ltr τ nd p).toInt ≤ 57) := by
  intro e
  induction e with
  | zero =>
    intro cnt v p fuel fuel' σ τ hc h1 h2 hv h
    obtain ⟨fuel, rfl⟩ : ∃ k, fuel = k + 1 := ⟨fuel - 1, by omega⟩
    obtain ⟨fuel', rfl⟩ : ∃ k, fuel' = k + 1 := ⟨fuel' - 1, by omega⟩
    obtain ⟨a1, a2, b1, b2⟩ := h.let
    have c6 : nI cnt = 6 := by rw [show cnt = 6 by omega]; decide +kernel
    rw [c6]
    have e1 : f_Rd_readDigits_4 (fuel + 1) (nI v) 6 σ = (-1, σ) := by
      show (if (5 : Int32) < 6 then f_Rd_readDigits_62 (nI v) 6 σ else _) = _
      rw [if_pos (by decide), f_Rd_readDigits_62, if_neg (by decide), if_neg (by decide)]; rfl
    have e2 : f_Mo_digits_49 6 (nI v) τ = (-1, τ) := by
      rw [f_Mo_digits_49, if_neg (by decide), if_pos rfl]; rfl
    have k2 : k_Mo_digits_49 6 (nI v) τ := ⟨fun _ => trivial, fun _ => ⟨fun _ => trivial, fun _ => trivial⟩⟩
    refine ⟨⟨fun _ => ⟨fun _ => trivial, fun _ => ⟨fun _ => trivial, fun _ => trivial⟩⟩, fun z => absurd (by decide) z⟩, ⟨b1, (dig_M _ τ).1, fun _ => k2, fun _ => ⟨fun _ => k2, fun z => absurd (by decide) z⟩⟩, -1, p, σ, τ, e1, ?_, h, Nat.le_refl p, Or.inl rfl, mvC.rf σ, mvM.rf τ, fun z => absurd rfl z⟩
    show (if f_Mo_digit (f_Mo_peek τ) τ = 0 then f_Mo_digits_49 6 (nI v) τ else (if (6 : Int32) ≤ 6 then f_Mo_digits_49 6 (nI v) τ else _)) = _
    by_cases z : f_Mo_digit (f_Mo_peek τ) τ = 0
    · rw [if_pos z, e2]
    · rw [if_neg z, if_pos (by decide), e2]
  | succ e ih =>
    intro cnt v p fuel fuel' σ τ hc h1 h2 hv h
    obtain ⟨fuel, rfl⟩ : ∃ k, fuel = k + 1 := ⟨fuel - 1, by omega⟩
    obtain ⟨fuel', rfl⟩ : ∃ k, fuel' = k + 1 := ⟨fuel' - 1, by omega⟩
    obtain ⟨a1, a2, b1, b2⟩ := h.let
    have hpw : 10 ^ cnt ≤ 10 ^ 5 := Nat.pow_le_pow_right (by omega) (by omega)
    have hpw2 : 10 ^ 5 = 100000 := rfl
    have n5 : ¬ (5 : Int32) < nI cnt := fun z => by have := (nI_lt_iff (a := 5) (by omega) (by omega)).mp z; omega
    have n6 : ¬ (6 : Int32) ≤ nI cnt := fun z => by have := (nI_le_iff (a := 6) (by omega) (by omega)).mp z; omega
    have l5 : nI cnt ≤ 5 := (nI_le_iff (b := 5) (by omega) (by omega)).mpr (by omega)
    have ne6 : ¬ nI cnt = 6 := fun z => n6 (by rw [z]; decide)
    have z0 : nI cnt = 0 ↔ cnt = 0 := by
      have := nI_inj (a := cnt) (b := 0) (by omega) (by omega)
      rw [nI_0] at this; exact this
    have kC62 : k_Rd_readDigits_62 (nI v) (nI cnt) σ := ⟨fun _ => trivial, fun _ => ⟨fun _ => trivial, fun _ => trivial⟩⟩
    have kM49 : k_Mo_digits_49 (nI cnt) (nI v) τ := ⟨fun _ => trivial, fun _ => ⟨fun _ => trivial, fun _ => trivial⟩⟩
    have eC : f_Rd_readDigits_4 (fuel + 1) (nI v) (nI cnt) σ = if f_Rd_isDigit (ltr τ nd p) σ = 0 then f_Rd_readDigits_62 (nI v) (nI cnt) σ else f_Rd_readDigits_4 fuel (10 * nI v + (ltr τ nd p - 48)) (nI cnt + 1) (sF σ 20 3 (nI (p + 1))) := by
      show (if (5 : Int32) < nI cnt then _ else (if f_Rd_isDigit (f_Dr_letter (σ.1 20 3) σ) σ = 0 then f_Rd_readDigits_62 (nI v) (nI cnt) σ else f_Rd_readDigits_4 fuel (10 * nI v + (f_Dr_letter (σ.1 20 3) σ - 48)) (nI cnt + 1) (sF σ 20 3 (σ.1 20 3 + 1)))) = _
      rw [if_neg n5, a2, h.2.2.2.1.2.1, nI_succ]
    have eM : f_Mo_digits_4 (fuel' + 1) (nI cnt) (nI v) τ = if f_Mo_digit (ltr τ nd p) τ = 0 then f_Mo_digits_49 (nI cnt) (nI v) τ else f_Mo_digits_4 fuel' (nI cnt + 1) (10 * nI v + ltr τ nd p - 48) (sF τ 0 32 (nI (p + 1))) := by
      show (if f_Mo_digit (f_Mo_peek τ) τ = 0 then f_Mo_digits_49 (nI cnt) (nI v) τ else (if (6 : Int32) ≤ nI cnt then _ else f_Mo_digits_4 fuel' (nI cnt + 1) (10 * nI v + f_Mo_peek τ - 48) (sF τ 0 32 (τ.1 0 32 + 1)))) = _
      rw [b2, if_neg n6, h.2.2.2.1.2.2, nI_succ]
    by_cases hd : 48 ≤ (ltr τ nd p).toInt ∧ (ltr τ nd p).toInt ≤ 57
    · have dC : ¬ f_Rd_isDigit (ltr τ nd p) σ = 0 := fun z => (dig_C _ σ).2.mp z hd
      have dM : ¬ f_Mo_digit (ltr τ nd p) τ = 0 := fun z => (dig_M _ τ).2.mp z hd
      have hp : p < nd := ltr_in rfl (fun z => by rw [z, Int32.toInt_zero] at hd; omega)
      have e10 : (10 : Int32).toInt = 10 := by decide
      have e48 : (48 : Int32).toInt = 48 := by decide
      have ev : (nI v).toInt = v := i_nI (by omega)
      have m10 : (10 * nI v).toInt = 10 * (v : Int) := by rw [i_mul (by rw [e10, ev]; omega), e10, ev]
      have s48 : (ltr τ nd p - 48).toInt = (ltr τ nd p).toInt - 48 := by rw [i_sub (by rw [e48]; omega), e48]
      have hv2 : 10 * nI v + (ltr τ nd p - 48) = nI (10 * v + ((ltr τ nd p).toInt - 48).toNat) := by
        apply Int32.toInt_inj.mp
        rw [i_add (by rw [m10, s48]; omega), m10, s48, i_nI (by omega)]; omega
      have hv3 : 10 * nI v + ltr τ nd p - 48 = nI (10 * v + ((ltr τ nd p).toInt - 48).toNat) := by
        have a3 : (10 * nI v + ltr τ nd p).toInt = 10 * (v : Int) + (ltr τ nd p).toInt := by rw [i_add (by rw [m10]; omega), m10]
        apply Int32.toInt_inj.mp
        rw [i_sub (by rw [a3, e48]; omega), a3, e48, i_nI (by omega)]; omega
      obtain ⟨g1, g2, x, p', σ', τ', g3, g4, g5, g6, g7, g8, g9, -⟩ := ih (cnt + 1) (10 * v + ((ltr τ nd p).toInt - 48).toNat) (p + 1) fuel fuel' (sF σ 20 3 (nI (p + 1))) (sF τ 0 32 (nI (p + 1))) (by omega) (by omega) (by omega) (by rw [Nat.pow_succ]; omega) (h.adv hp)
      rw [eC, eM, if_neg dC, if_neg dM, hv2, hv3, ← nI_succ]
      refine ⟨⟨fun z => absurd z n5, fun _ => ⟨a1, (dig_C _ σ).1, fun z => absurd (by rw [a2] at z; exact z) dC, fun _ => ⟨a1, ?_⟩⟩⟩, ⟨b1, (dig_M _ τ).1, fun z => absurd (by rw [b2] at z; exact z) dM, fun _ => ⟨fun z => absurd z n6, fun _ => ⟨b1, ?_⟩⟩⟩, x, p', σ', τ', g3, g4, g5, by omega, g7, (mvC.pos σ _).tr g8, (mvM.at τ _).tr g9, fun _ _ => ⟨by omega, hd.1, hd.2⟩⟩
      · show k_Rd_readDigits_4 fuel (10 * nI v + (f_Dr_letter (σ.1 20 3) σ - 48)) (nI cnt + 1) (sF σ 20 3 (σ.1 20 3 + 1))
        rw [a2, h.2.2.2.1.2.1, ← nI_succ, ← nI_succ, hv2]; exact g1
      · show k_Mo_digits_4 fuel' (nI cnt + 1) (10 * nI v + f_Mo_peek τ - 48) (sF τ 0 32 (τ.1 0 32 + 1))
        rw [b2, h.2.2.2.1.2.2, ← nI_succ, ← nI_succ, hv3]; exact g2
    · have dC : f_Rd_isDigit (ltr τ nd p) σ = 0 := (dig_C _ σ).2.mpr hd
      have dM : f_Mo_digit (ltr τ nd p) τ = 0 := (dig_M _ τ).2.mpr hd
      rw [eC, eM, if_pos dC, if_pos dM]
      refine ⟨⟨fun z => absurd z n5, fun _ => ⟨a1, (dig_C _ σ).1, fun _ => kC62, fun z => absurd (by rw [a2]; exact dC) z⟩⟩, ⟨b1, (dig_M _ τ).1, fun _ => kM49, fun z => absurd (by rw [b2]; exact dM) z⟩, if cnt = 0 then -1 else nI v, p, σ, τ, ?_, ?_, h, Nat.le_refl p, ?_, mvC.rf σ, mvM.rf τ, fun z q0 => absurd (if_pos q0) z⟩
      · rw [f_Rd_readDigits_62]
        by_cases q0 : cnt = 0
        · rw [if_pos (z0.mpr q0), if_pos q0]; rfl
        · rw [if_neg (fun w => q0 (z0.mp w)), if_pos l5, if_neg q0]; rfl
      · rw [f_Mo_digits_49]
        by_cases q0 : cnt = 0
        · rw [if_pos (z0.mpr q0), if_pos q0]; rfl
        · rw [if_neg (fun w => q0 (z0.mp w)), if_neg ne6, if_neg q0]; rfl
      · by_cases q0 : cnt = 0
        · rw [if_pos q0]; exact Or.inl rfl
        · rw [if_neg q0]; exact Or.inr ⟨v, by omega, rfl⟩
theorem dg_all (h : RD n0 n p b nd σ τ) : k_Rd_readDigits σ ∧ k_Mo_digits τ ∧ ∃ x p' σ' τ', f_Rd_readDigits σ = (x, σ') ∧ f_Mo_digits τ = (x, τ') ∧ RD n0 n p' b nd σ' τ' ∧ p ≤ p' ∧ (x = -1 ∨ ∃ w, w ≤ 99999 ∧ x = nI w) ∧ mvC σ σ' ∧ mvM τ τ' ∧ (¬ x = -1 → p < p' ∧ 48 ≤ (ltr τ nd p).toInt ∧ (ltr τ nd p).toInt ≤ 57) := by
  obtain ⟨g1, g2, x, p', σ', τ', g3, g4, g5, g6, g7, g8, g9, g10⟩ := dg_sim 6 0 0 p 1000 1000 σ τ (by omega) (by omega) (by omega) (by decide) h
  rw [nI_0] at g1 g2 g3 g4
  exact ⟨g1, g2, x, p', σ', τ', g3, g4, g5, g6, g7, g8, g9, fun z => g10 z rfl⟩
/-- what a simple term's reading gives: the same term, or both stop -/
def SOUT (n0 n p b nd : Nat) (σ τ : St) (z w : Int32 × St) : Prop :=
  (∃ m n' p', z.1 = nI m ∧ w.1 = nI m ∧ m < n' ∧ n ≤ n' ∧ n' ≤ n + 1 ∧ p < p' ∧ RD n0 n' p' b nd z.2 w.2 ∧ rwM n τ w.2 ∧ fcR σ z.2 ∧ fmR τ w.2 ∧ ∀ c, 22 ≤ c → c ≤ 25 → w.2.1 c = τ.1 c) ∨ (z.1 = -1 ∧ mvC σ z.2 ∧ mvM τ w.2 ∧ w.2.1 0 33 = 1)
theorem RD.after {n' : Nat} {σ1 τ1 : St} (h : RD n0 n p b nd σ τ) (hT : TT n0 n' σ1 τ1) (q9 : ∀ c, c < 6 ∨ 17 < c → σ1.1 c = σ.1 c) (q12 : ∀ c, 13 < c ∨ (1 ≤ c ∧ c < 5) → τ1.1 c = τ.1 c) (q14 : ∀ j, ¬ j = 8 → τ1.1 0 j = τ.1 0 j) : RD n0 n' p b nd σ1 τ1 := by
  obtain ⟨-, hG, ⟨d1, d2, d3, d4⟩, ⟨p1, p2, p3⟩, e3, hb, e4⟩ := h
  exact ⟨hT, hG.cong (fun c q1 q2 => q9 c (by omega)) (fun c q1 q2 => q12 c (by omega)) (fun j q1 q2 => q14 j (by omega)), ⟨d1, by rw [q9 18 (by omega)]; exact d2, by rw [q14 30 (by omega)]; exact d3, by rw [q9 19 (by omega), q12 21 (by omega)]; exact d4⟩, ⟨p1, by rw [q9 20 (by omega)]; exact p2, by rw [q14 32 (by omega)]; exact p3⟩, by rw [q14 33 (by omega)]; exact e3, hb, by rw [q14 34 (by omega)]; exact e4⟩
/-- one more term within a reading -/
theorem RD.make {k s l a c : Int32} (h : RD n0 n p b nd σ τ) (hn : n ≤ 206) (hk : ∃ i, i ≤ 10 ∧ k = nI i) (hk2 : ¬ k = 2) (hl : -1 ≤ l.toInt ∧ l.toInt ≤ 11) (hs : ∃ i, i < 5 ∧ s = nI i) (ha : tmO a n) (hb : tmO c n) (hab : a = -1 → c = -1)
    (hkd : ∀ τ' : St, τ'.1 5 n = k → τ'.1 6 n = s → τ'.1 8 n = a → τ'.1 9 n = c → τ'.1 10 n = l → (∀ c, 5 ≤ c → c ≤ 13 → ∀ j, j < n → τ'.1 c j = τ.1 c j) → kdW τ' n) (hsy : ∀ ny, τ.1 0 3 = nI ny → ny ≤ 12 → syW ny τ k s a c l) :
    k_Te_make k s l a c σ ∧ k_Mo_found k s a c l 0 0 τ ∧ ∃ m n' σ' τ', f_Te_make k s l a c σ = (nI m, σ') ∧ f_Mo_found k s a c l 0 0 τ = (nI m, τ') ∧ m < n' ∧ n ≤ n' ∧ n' ≤ n + 1 ∧ RD n0 n' p b nd σ' τ' ∧ rwM n τ τ' ∧ fcR σ σ' ∧ fmR τ τ' ∧ ∀ c, 22 ≤ c → c ≤ 25 → τ'.1 c = τ.1 c := by
  obtain ⟨k1, k2, m, n', q1, q2, q3, q4, q5, q6, q7, q8, q9, q10, q11, q12, q13, q14⟩ := h.1.make hn hk hk2 hl hs ha hb hab hkd hsy
  refine ⟨k1, k2, m, n', (f_Te_make k s l a c σ).2, (f_Mo_found k s a c l 0 0 τ).2, by rw [← q4], by rw [← q5], q1, q2, q3, h.after q6 q9 q12 q14, q8, ⟨fun c0 w1 _ => q9 c0 w1, q11⟩, ⟨fun c0 w => q12 c0 (by omega), fun j w1 _ _ _ => q14 j w1, q13⟩, fun c0 w1 w2 => q12 c0 (by omega)⟩
theorem RD.makeC {x y : Int32} (h : RD n0 n p b nd σ τ) (hn : n ≤ 206) (hp : -99999 ≤ x.toInt ∧ x.toInt ≤ 99999) (hq : 1 ≤ y.toInt ∧ y.toInt ≤ 99999) :
    k_Te_makeConstant x y σ ∧ k_Mo_found 2 1 (-1) (-1) (-1) x y τ ∧ ∃ m n' σ' τ', f_Te_makeConstant x y σ = (nI m, σ') ∧ f_Mo_found 2 1 (-1) (-1) (-1) x y τ = (nI m, τ') ∧ m < n' ∧ n ≤ n' ∧ n' ≤ n + 1 ∧ RD n0 n' p b nd σ' τ' ∧ rwM n τ τ' ∧ fcR σ σ' ∧ fmR τ τ' ∧ ∀ c, 22 ≤ c → c ≤ 25 → τ'.1 c = τ.1 c := by
  obtain ⟨k1, k2, m, n', σ', τ', f1, f2, q1, q2, q3, q4, q5, q6, q7, q8, q9, q10⟩ := h.1.makeC hn hp hq
  exact ⟨k1, k2, m, n', σ', τ', f1, f2, q1, q2, q3, h.after q4 q6 q8 q10, q5, ⟨fun c0 w1 _ => q6 c0 w1, q7⟩, ⟨fun c0 w => q8 c0 (by omega), fun j w1 _ _ _ => q10 j w1, q9⟩, fun c0 w1 w2 => q8 c0 (by omega)⟩
end LEX
