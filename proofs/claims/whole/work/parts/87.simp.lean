-- reading: constants, variables, bare symbols
section SMP
variable {n0 n p b nd : Nat} {σ τ : St}
/-- the end of a constant -/
theorem rc_fin {p0 : Nat} {σ0 τ0 : St} {x1 x y : Int32} (h : RD n0 n p b nd σ τ) (hn : n ≤ 206) (hx : x = -1 ∨ ∃ w, w ≤ 99999 ∧ x = nI w) (hy : y = -1 ∨ ∃ w, w ≤ 99999 ∧ y = nI w) (hp : ¬ x = -1 → p0 < p) (hC : mvC σ0 σ) (hM : mvM τ0 τ) :
    k_Rd_readConstant_29 x1 x y σ ∧ k_Mo_readConstant_64 x1 x y τ ∧ SOUT n0 n p0 b nd σ0 τ0 (f_Rd_readConstant_29 x1 x y σ) (f_Mo_readConstant_64 x1 x y τ) ∧ (x = -1 → (f_Rd_readConstant_29 x1 x y σ).1 = -1 ∧ mvC σ0 (f_Rd_readConstant_29 x1 x y σ).2) := by
  have e73 : f_Mo_readConstant_73 τ = (0, sF τ 0 33 1) := rfl
  have k73 : k_Mo_readConstant_73 τ := trivial
  have e44 : f_Rd_readConstant_44 σ = (-1, σ) := rfl
  have k44 : k_Rd_readConstant_44 σ := trivial
  have fail : SOUT n0 n p0 b nd σ0 τ0 (-1, σ) (0, sF τ 0 33 1) := Or.inr ⟨rfl, hC, hM.tr (mvM.bad τ 1), rfl⟩
  have neg : ∀ v : Int32, (v = -1 ∨ ∃ w, w ≤ 99999 ∧ v = nI w) → (v < 0 ↔ v = -1) := fun v hv => by
    rcases hv with rfl | ⟨w, w1, rfl⟩
    · exact ⟨fun _ => rfl, fun _ => by decide⟩
    · exact ⟨fun z => absurd z (nI_pos (by omega)), fun z => absurd z (nI_ne_m1 (by omega))⟩
  have one : (1 ≤ y) ↔ (¬ y = -1 ∧ ¬ y = 0) := by
    rcases hy with rfl | ⟨w, w1, rfl⟩
    · exact ⟨fun z => absurd z (by decide), fun z => absurd rfl z.1⟩
    · have z0 : nI w = 0 ↔ w = 0 := by
        have := nI_inj (a := w) (b := 0) (by omega) (by omega)
        rw [nI_0] at this; exact this
      have z1 : (1 : Int32) ≤ nI w ↔ 1 ≤ w := nI_le_iff (a := 1) (by omega) (by omega)
      rw [z0, z1]
      exact ⟨fun z => ⟨nI_ne_m1 (by omega), by omega⟩, fun z => by omega⟩
  have eC : f_Rd_readConstant_29 x1 x y σ = if x = -1 then (-1, σ) else (if y = -1 then (-1, σ) else (if y = 0 then (-1, σ) else f_Rd_readConstant_56 x1 x y (f_CL_gcd x.toInt64 y.toInt64 σ).toInt32 σ)) := rfl
  have eM : f_Mo_readConstant_64 x1 x y τ = if x < 0 then (0, sF τ 0 33 1) else (if 1 ≤ y then f_Mo_readConstant_87 x1 x y (f_Mo_common y x τ) τ else (0, sF τ 0 33 1)) := rfl
  have KC : (¬ x = -1 → ¬ y = -1 → ¬ y = 0 → k_CL_gcd x.toInt64 y.toInt64 σ ∧ k_Rd_readConstant_56 x1 x y (f_CL_gcd x.toInt64 y.toInt64 σ).toInt32 σ) → k_Rd_readConstant_29 x1 x y σ := fun w => ⟨fun _ => k44, fun z1 => ⟨fun _ => k44, fun z2 => ⟨fun _ => k44, fun z3 => w z1 z2 z3⟩⟩⟩
  have KM : (¬ x = -1 → ¬ y = -1 → ¬ y = 0 → k_Mo_common y x τ ∧ k_Mo_readConstant_87 x1 x y (f_Mo_common y x τ) τ) → k_Mo_readConstant_64 x1 x y τ := fun w => ⟨fun _ => k73, fun z1 => ⟨fun z2 => w (fun z => z1 ((neg x hx).mpr z)) (one.mp z2).1 (one.mp z2).2, fun _ => k73⟩⟩
  rw [eC, eM]
  by_cases c1 : x = -1
  · rw [if_pos c1, if_pos ((neg x hx).mpr c1)]
    exact ⟨KC (fun z => absurd c1 z), KM (fun z => absurd c1 z), fail, fun _ => ⟨rfl, hC⟩⟩
  · rw [if_neg c1, if_neg (fun z => c1 ((neg x hx).mp z))]
    by_cases c2 : y = -1
    · rw [if_pos c2, if_neg (fun z => (one.mp z).1 c2)]
      exact ⟨KC (fun _ z => absurd c2 z), KM (fun _ z => absurd c2 z), fail, fun z => absurd z c1⟩
    · rw [if_neg c2]
      by_cases c3 : y = 0
      · rw [if_pos c3, if_neg (fun z => (one.mp z).2 c3)]
        exact ⟨KC (fun _ _ z => absurd c3 z), KM (fun _ _ z => absurd c3 z), fail, fun z => absurd z c1⟩
      · rw [if_neg c3, if_pos (one.mpr ⟨c2, c3⟩)]
        obtain ⟨u, u1, u2⟩ := hx.resolve_left c1
        obtain ⟨v, v1, v2⟩ := hy.resolve_left c2
        have v0 : 1 ≤ v := by
          have : ¬ v = 0 := fun z => c3 (by rw [v2, z, nI_0])
          omega
        have xu : x.toInt = u := by rw [u2]; exact i_nI (by omega)
        have yv : y.toInt = v := by rw [v2]; exact i_nI (by omega)
        obtain ⟨a1, a2, a3, a4, a5⟩ := common_sim (σ := σ) (τ := τ) (p := x) (q := y) (by omega) (by omega)
        have hg2 := cm_M (σ := τ) 31 v u y x 1000 yv xu (by omega) (by omega)
        have eg : (f_Mo_common y x τ).toInt = ((Nat.gcd v u : Nat) : Int) := hg2.2
        rw [a3]
        generalize hgg : f_Mo_common y x τ = g at a3 a4 a5 eg ⊢
        have g0 : ¬ g = 0 := fun z => by rw [z, Int32.toInt_zero] at a4; omega
        have dv : (y / g).toInt = ((v / Nat.gcd v u : Nat) : Int) := i_div yv eg
        have hgp : 0 < Nat.gcd v u := Nat.gcd_pos_of_pos_left _ (by omega)
        have hgl : Nat.gcd v u ≤ v := Nat.le_of_dvd (by omega) (Nat.gcd_dvd_left _ _)
        have hdv : 1 ≤ v / Nat.gcd v u := Nat.div_pos hgl hgp
        have hdv2 : v / Nat.gcd v u ≤ v := Nat.div_le_self _ _
        have hyg : 1 ≤ (y / g).toInt ∧ (y / g).toInt ≤ 99999 := by rw [dv]; omega
        have hdu : u / Nat.gcd v u ≤ u := Nat.div_le_self _ _
        -- the class and the reference make the same constant
        have mk : ∀ w : Int32, -99999 ≤ (w / g).toInt ∧ (w / g).toInt ≤ 99999 → k_Rd_readConstant_77 y g w σ ∧ k_Mo_readConstant_109 y g (w / g) (-1) (-1) (-1) 1 2 τ ∧ SOUT n0 n p0 b nd σ0 τ0 (f_Rd_readConstant_77 y g w σ) (f_Mo_readConstant_109 y g (w / g) (-1) (-1) (-1) 1 2 τ) := fun w hw => by
          obtain ⟨k1, k2, m, n', σ', τ', f1, f2, q1, q2, q3, q4, q5, q6, q7, q8⟩ := h.makeC hn hw hyg
          refine ⟨⟨g0, g0, k1, trivial⟩, ⟨g0, k2, trivial⟩, ?_⟩
          have e1 : f_Rd_readConstant_77 y g w σ = (nI m, σ') := by
            show ((f_Te_makeConstant (w / g) (y / g) σ).1, (f_Te_makeConstant (w / g) (y / g) σ).2) = _
            rw [f1]
          have e2 : f_Mo_readConstant_109 y g (w / g) (-1) (-1) (-1) 1 2 τ = (nI m, τ') := by
            show ((f_Mo_found 2 1 (-1) (-1) (-1) (w / g) (y / g) τ).1, (f_Mo_found 2 1 (-1) (-1) (-1) (w / g) (y / g) τ).2) = _
            rw [f2]
          rw [e1, e2]
          exact Or.inl ⟨m, n', p, rfl, rfl, q1, q2, q3, hp c1, q4, (hM.rw n).tr q5 (Nat.le_refl n), hC.fc.tr q6, hM.fm.tr q7, fun c w1 w2 => (q8 c w1 w2).trans (hM.1 c (by omega))⟩
        have d1 : -99999 ≤ (x / g).toInt ∧ (x / g).toInt ≤ 99999 := by
          rw [i_div xu eg]
          generalize u / Nat.gcd v u = w at hdu ⊢
          omega
        have d2 : -99999 ≤ ((-x) / g).toInt ∧ ((-x) / g).toInt ≤ 99999 := by
          have nx : (-x).toInt = -(u : Int) := by rw [Int32.toInt_neg, xu, Int.bmod_def]; omega
          rw [i_divs nx eg (by omega)]
          generalize u / Nat.gcd v u = w at hdu ⊢
          omega
        obtain ⟨m1, m2, m3⟩ := mk x d1
        obtain ⟨m4, m5, m6⟩ := mk (-x) d2
        have e56 : f_Rd_readConstant_56 x1 x y g σ = if x1 = 0 then f_Rd_readConstant_77 y g x σ else f_Rd_readConstant_77 y g (-x) σ := by
          show (if g = 0 then _ else (if x1 = 0 then f_Rd_readConstant_77 y g x σ else f_Rd_readConstant_77 y g (-x) σ)) = _
          rw [if_neg g0]
        have e87 : f_Mo_readConstant_87 x1 x y g τ = if x1 = 0 then f_Mo_readConstant_109 y g (x / g) (-1) (-1) (-1) 1 2 τ else f_Mo_readConstant_109 y g ((-x) / g) (-1) (-1) (-1) 1 2 τ := rfl
        rw [e56, e87]
        refine ⟨KC (fun _ _ _ => ⟨a1, ?_⟩), KM (fun _ _ _ => ⟨a2, ?_⟩), ?_, fun z => absurd z c1⟩
        · rw [a3]; exact ⟨fun z => absurd z g0, fun _ => ⟨fun _ => m1, fun _ => m4⟩⟩
        · rw [hgg]; exact ⟨fun _ => ⟨g0, m2⟩, fun _ => ⟨g0, m5⟩⟩
        · by_cases z : x1 = 0
          · rw [if_pos z, if_pos z]; exact m3
          · rw [if_neg z, if_neg z]; exact m6
theorem rc_sim (h : RD n0 n p b nd σ τ) (hn : n ≤ 206) : k_Rd_readConstant σ ∧ k_Mo_readConstant τ ∧ SOUT n0 n p b nd σ τ (f_Rd_readConstant σ) (f_Mo_readConstant τ) ∧ (¬ ltr τ nd p = 45 → ¬ (48 ≤ (ltr τ nd p).toInt ∧ (ltr τ nd p).toInt ≤ 57) → (f_Rd_readConstant σ).1 = -1 ∧ mvC σ (f_Rd_readConstant σ).2) := by
  -- from the first digits on
  have rest : ∀ (x1 : Int32) (p1 : Nat) (σ1 τ1 : St), RD n0 n p1 b nd σ1 τ1 → p ≤ p1 → mvC σ σ1 → mvM τ τ1 →
      k_Rd_readConstant_6 x1 σ1 ∧ k_Mo_readConstant_33 x1 τ1 ∧ SOUT n0 n p b nd σ τ (f_Rd_readConstant_6 x1 σ1) (f_Mo_readConstant_33 x1 τ1) ∧ (¬ (48 ≤ (ltr τ1 nd p1).toInt ∧ (ltr τ1 nd p1).toInt ≤ 57) → (f_Rd_readConstant_6 x1 σ1).1 = -1 ∧ mvC σ (f_Rd_readConstant_6 x1 σ1).2) := by
    intro x1 p1 σ1 τ1 h1 hp1 hC1 hM1
    obtain ⟨k1, k2, x, p2, σ2, τ2, f1, f2, h2, g1, g2, g3, g4, g5⟩ := dg_all h1
    obtain ⟨b1, b2, b3, b4⟩ := h2.let
    have e33 : f_Mo_readConstant_33 x1 τ1 = f_Mo_readConstant_38 x1 x τ2 := by
      show f_Mo_readConstant_38 x1 (f_Mo_digits τ1).1 (f_Mo_digits τ1).2 = _
      rw [f2]
    have e6 : f_Rd_readConstant_6 x1 σ1 = f_Rd_readConstant_12 x1 x σ2 := by
      show f_Rd_readConstant_12 x1 (f_Rd_readDigits σ1).1 (f_Rd_readDigits σ1).2 = _
      rw [f1]
    have K33 : k_Mo_readConstant_38 x1 x τ2 → k_Mo_readConstant_33 x1 τ1 := fun w => ⟨k2, by rw [f2]; exact w⟩
    have K6 : k_Rd_readConstant_12 x1 x σ2 → k_Rd_readConstant_6 x1 σ1 := fun w => ⟨k1, by rw [f1]; exact w⟩
    have xm : ¬ (48 ≤ (ltr τ1 nd p1).toInt ∧ (ltr τ1 nd p1).toInt ≤ 57) → x = -1 := fun z => Classical.byContradiction fun z2 => z ⟨(g5 z2).2.1, (g5 z2).2.2⟩
    rw [e33, e6]
    obtain ⟨kt, ht⟩ := h2.take 47 (by decide)
    rcases ht with ⟨t1, t2, t3⟩ | ⟨t1, t3⟩
    · have h3 := h2.adv t2
      obtain ⟨k3, k4, y, p4, σ4, τ4, f3, f4, h4, q1, q2, q3, q4, q5⟩ := dg_all h3
      obtain ⟨m1, m2, m3, m4⟩ := rc_fin (p0 := p) (σ0 := σ) (τ0 := τ) (x1 := x1) h4 hn g2 q2 (fun z => by have := (g5 z).1; omega) (((hC1.tr g3).tr (mvC.pos σ2 _)).tr q3) (((hM1.tr g4).tr (mvM.at τ2 _)).tr q4)
      have e12 : f_Rd_readConstant_12 x1 x σ2 = f_Rd_readConstant_29 x1 x y σ4 := by
        show f_Rd_readConstant_18 x1 x (f_Rd_take 47 σ2).1 (f_Rd_take 47 σ2).2 = _
        rw [t3]
        show (if (1 : Int32) = 0 then _ else f_Rd_readConstant_29 x1 x (f_Rd_readDigits (sF σ2 20 3 (nI (p2 + 1)))).1 (f_Rd_readDigits (sF σ2 20 3 (nI (p2 + 1)))).2) = _
        rw [if_neg (by decide), f3]
      have e38 : f_Mo_readConstant_38 x1 x τ2 = f_Mo_readConstant_64 x1 x y τ4 := by
        show (if f_Mo_peek τ2 = 47 then f_Mo_readConstant_64 x1 x (f_Mo_digits (sF τ2 0 32 (τ2.1 0 32 + 1))).1 (f_Mo_digits (sF τ2 0 32 (τ2.1 0 32 + 1))).2 else _) = _
        rw [b4, if_pos t1, h2.2.2.2.1.2.2, ← nI_succ, f4]
      rw [e12, e38]
      refine ⟨K6 ⟨kt, ?_⟩, K33 ⟨b3, fun _ => ?_, fun z => absurd (by rw [b4]; exact t1) z⟩, m3, fun z => m4 (xm z)⟩
      · rw [t3]
        refine ⟨fun z => absurd z (show ¬ (1 : Int32) = 0 by decide), fun _ => ⟨k3, ?_⟩⟩
        rw [f3]; exact m1
      · rw [h2.2.2.2.1.2.2, ← nI_succ]
        refine ⟨k4, ?_⟩
        rw [f4]; exact m2
    · obtain ⟨m1, m2, m3, m4⟩ := rc_fin (p0 := p) (σ0 := σ) (τ0 := τ) (x1 := x1) (y := 1) h2 hn g2 (Or.inr ⟨1, by omega, by decide +kernel⟩) (fun z => by have := (g5 z).1; omega) (hC1.tr g3) (hM1.tr g4)
      have e12 : f_Rd_readConstant_12 x1 x σ2 = f_Rd_readConstant_29 x1 x 1 σ2 := by
        show f_Rd_readConstant_18 x1 x (f_Rd_take 47 σ2).1 (f_Rd_take 47 σ2).2 = _
        rw [t3]
        show (if (0 : Int32) = 0 then f_Rd_readConstant_29 x1 x 1 σ2 else _) = _
        rw [if_pos rfl]
      have n47 : ¬ f_Mo_peek τ2 = 47 := by rw [b4]; exact t1
      have e38 : f_Mo_readConstant_38 x1 x τ2 = f_Mo_readConstant_64 x1 x 1 τ2 := by
        show (if f_Mo_peek τ2 = 47 then _ else f_Mo_readConstant_64 x1 x 1 τ2) = _
        rw [if_neg n47]
      rw [e12, e38]
      refine ⟨K6 ⟨kt, ?_⟩, K33 ⟨b3, fun z => absurd z n47, fun _ => m2⟩, m3, fun z => m4 (xm z)⟩
      rw [t3]; exact ⟨fun _ => m1, fun z => absurd rfl z⟩
  obtain ⟨b1, b2, b3, b4⟩ := h.let
  obtain ⟨kt, ht⟩ := h.take 45 (by decide)
  rcases ht with ⟨t1, t2, t3⟩ | ⟨t1, t3⟩
  · obtain ⟨r1, r2, r3, r4⟩ := rest 1 (p + 1) _ _ (h.adv t2) (by omega) (mvC.pos σ _) (mvM.at τ _)
    have eC : f_Rd_readConstant σ = f_Rd_readConstant_6 1 (sF σ 20 3 (nI (p + 1))) := by
      show f_Rd_readConstant_6 (f_Rd_take 45 σ).1 (f_Rd_take 45 σ).2 = _
      rw [t3]
    have e14 : f_Mo_readConstant_14 1 τ = f_Mo_readConstant_33 1 (sF τ 0 32 (nI (p + 1))) := by
      rw [f_Mo_readConstant_14, if_neg (by decide), h.2.2.2.1.2.2]
      show f_Mo_readConstant_33 1 (sF τ 0 32 (nI p + 1)) = _
      rw [nI_succ]
    have eM : f_Mo_readConstant τ = f_Mo_readConstant_33 1 (sF τ 0 32 (nI (p + 1))) := by
      show (if f_Mo_peek τ = 45 then f_Mo_readConstant_14 1 τ else _) = _
      rw [b4, if_pos t1, e14]
    rw [eC, eM]
    refine ⟨⟨kt, by rw [t3]; exact r1⟩, ⟨b3, fun _ => ⟨fun z => absurd z (by decide), fun _ => ?_⟩, fun z => absurd (by rw [b4]; exact t1) z⟩, r3, fun z => absurd t1 z⟩
    show k_Mo_readConstant_33 1 (sF τ 0 32 (τ.1 0 32 + 1))
    rw [h.2.2.2.1.2.2, ← nI_succ]; exact r2
  · have h' : RD n0 n p b nd σ (sF τ 0 32 (nI p)) := h.move (fun _ _ => rfl) rfl (fun c q1 _ => (mvM.at τ _).1 c q1) (fun j q1 q2 _ => (mvM.at τ _).2.1 j q1 q2) h.2.2.2.1.2.1 rfl h.2.2.2.2.1 h.2.2.2.2.2.2 h.2.2.2.1.1 h.2.2.2.2.2.1
    obtain ⟨r1, r2, r3, r4⟩ := rest 0 p σ _ h' (Nat.le_refl p) (mvC.rf σ) (mvM.at τ _)
    have eC : f_Rd_readConstant σ = f_Rd_readConstant_6 0 σ := by
      show f_Rd_readConstant_6 (f_Rd_take 45 σ).1 (f_Rd_take 45 σ).2 = _
      rw [t3]
    have n45 : ¬ f_Mo_peek τ = 45 := by rw [b4]; exact t1
    have z0 : nI p + 0 = nI p := Int32.add_zero _
    have e14 : f_Mo_readConstant_14 0 τ = f_Mo_readConstant_33 0 (sF τ 0 32 (nI p)) := by
      rw [f_Mo_readConstant_14, if_pos rfl, h.2.2.2.1.2.2]
      show f_Mo_readConstant_33 0 (sF τ 0 32 (nI p + 0)) = _
      rw [z0]
    have eM : f_Mo_readConstant τ = f_Mo_readConstant_33 0 (sF τ 0 32 (nI p)) := by
      show (if f_Mo_peek τ = 45 then _ else f_Mo_readConstant_14 0 τ) = _
      rw [if_neg n45, e14]
    rw [eC, eM]
    refine ⟨⟨kt, by rw [t3]; exact r1⟩, ⟨b3, fun z => absurd z n45, fun _ => ⟨fun _ => ?_, fun z => absurd rfl z⟩⟩, r3, fun _ z => r4 z⟩
    show k_Mo_readConstant_33 0 (sF τ 0 32 (τ.1 0 32 + 0))
    rw [h.2.2.2.1.2.2, z0]; exact r2
theorem sym_0 {ny i : Nat} (h : σ.1 1 5 = nI ny) (hn : ny ≤ 12) (hi : i < 100) : k_Sg_isSymbol (nI i) σ ∧ (f_Sg_isSymbol (nI i) σ = 0 ↔ ¬ i < ny) := by
  refine ⟨⟨fun _ => ⟨rfl, trivial⟩, fun _ => ⟨fun _ => ⟨rfl, trivial⟩, fun _ => ⟨rfl, trivial⟩⟩⟩, ?_⟩
  show (if nI i < 0 then (0 : Int32) else (if σ.1 1 5 ≤ nI i then 0 else 1)) = 0 ↔ _
  rw [if_neg (nI_pos (by omega)), h]
  have l0 : nI ny ≤ nI i ↔ ny ≤ i := nI_le_iff (by omega) (by omega)
  by_cases z : nI ny ≤ nI i
  · rw [if_pos z]; exact ⟨fun _ => by rw [l0] at z; omega, fun _ => rfl⟩
  · rw [if_neg z]; rw [l0] at z; exact ⟨fun w => absurd w (by decide), fun w => absurd (by omega) w⟩
/-- a symbol's sorts, on both sides -/
theorem sg_at {i : Nat} (h : SG σ τ) (hi : i < 100) : (∃ ny, ny ≤ 12 ∧ τ.1 0 3 = nI ny ∧ σ.1 1 5 = nI ny ∧ (¬ i < ny → f_Sg_isSymbol (nI i) σ = 0 ∧ f_Sg_firstOfSymbol (nI i) σ = -1 ∧ f_Sg_secondOfSymbol (nI i) σ = -1) ∧
    (i < ny → ¬ f_Sg_isSymbol (nI i) σ = 0 ∧ f_Sg_sortOfSymbol (nI i) σ = τ.1 1 i ∧ f_Sg_firstOfSymbol (nI i) σ = τ.1 2 i ∧ f_Sg_secondOfSymbol (nI i) σ = τ.1 3 i ∧ sgW 5 (τ.1 1 i) (τ.1 2 i) (τ.1 3 i))) ∧ k_Sg_isSymbol (nI i) σ ∧ k_Sg_sortOfSymbol (nI i) σ ∧ k_Sg_firstOfSymbol (nI i) σ ∧ k_Sg_secondOfSymbol (nI i) σ := by
  obtain ⟨ns, ny, g1, g2, g3, g4, g5, g6, g7, g8, g9⟩ := h
  obtain ⟨k0, s0⟩ := sym_0 g6 g3 hi
  have hcl : (nI i).toNatClampNeg = i := nI_clamp (by omega)
  have hin : ¬ f_Sg_isSymbol (nI i) σ = 0 → vp_in (nI i) 12 := fun z => by
    have : i < ny := Classical.byContradiction fun w => z (s0.mpr w)
    rw [in_iff, i_nI (by omega)]; omega
  refine ⟨⟨ny, g3, g7, g6, fun z => ?_, fun z => ?_⟩, k0, ⟨k0, fun _ => trivial, fun z => ⟨hin z, trivial⟩⟩, ⟨k0, fun _ => trivial, fun z => ⟨hin z, trivial⟩⟩, k0, fun _ => trivial, fun z => ⟨hin z, trivial⟩⟩
  · have w := s0.mpr z
    refine ⟨w, ?_, ?_⟩
    · show (if f_Sg_isSymbol (nI i) σ = 0 then (-1 : Int32) else _) = _
      rw [if_pos w]
    · show (if f_Sg_isSymbol (nI i) σ = 0 then (-1 : Int32) else _) = _
      rw [if_pos w]
  · have w : ¬ f_Sg_isSymbol (nI i) σ = 0 := fun w => s0.mp w z
    obtain ⟨a1, a2, a3, a4⟩ := g8 i z
    refine ⟨w, ?_, ?_, ?_, a4.mono g2⟩
    · show (if f_Sg_isSymbol (nI i) σ = 0 then (-1 : Int32) else σ.1 2 (nI i).toNatClampNeg) = _
      rw [if_neg w, hcl, a1]
    · show (if f_Sg_isSymbol (nI i) σ = 0 then (-1 : Int32) else σ.1 3 (nI i).toNatClampNeg) = _
      rw [if_neg w, hcl, a2]
    · show (if f_Sg_isSymbol (nI i) σ = 0 then (-1 : Int32) else σ.1 4 (nI i).toNatClampNeg) = _
      rw [if_neg w, hcl, a3]
theorem sg_neg {ns : Nat} {s f g : Int32} (h : sgW ns s f g) (hn : ns ≤ 5) : (f < 0 ↔ f = -1) ∧ (g < 0 ↔ g = -1) := by
  have key : ∀ x : Int32, (x = -1 ∨ ∃ a, a < ns ∧ x = nI a) → (x < 0 ↔ x = -1) := fun x hx => by
    rcases hx with rfl | ⟨a, a1, rfl⟩
    · exact ⟨fun _ => rfl, fun _ => by decide⟩
    · exact ⟨fun z => absurd z (nI_pos (by omega)), fun z => absurd z (nI_ne_m1 (by omega))⟩
  exact ⟨key f h.2.1, key g h.2.2.1⟩
/-- a letter less a first letter -/
theorem let_sub {c : Int32} {x i : Nat} (hx : x ≤ 126) (h : c.toInt = (x : Int) + i) : c - nI x = nI i := by
  have := i_rng c
  apply Int32.toInt_inj.mp
  rw [i_sub (by rw [i_nI (by omega)]; omega), i_nI (by omega), i_nI (by omega)]; omega
end SMP
