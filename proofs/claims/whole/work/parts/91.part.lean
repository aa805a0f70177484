-- reading: how a part is read within a bracket
theorem RR.cong2 {n0 : Nat} {σ τ τ' : St} (h : RR n0 σ τ) (hn : n0 ≤ 400) (e : rwM n0 τ τ') (e2 : ∀ c, 1 ≤ c → c < 5 → τ'.1 c = τ.1 c) (e3 : τ'.1 0 3 = τ.1 0 3) : RR n0 σ τ' := by
  obtain ⟨h1, h2, h3, h4⟩ := h
  refine ⟨fun t ht => ?_, fun t ht => ?_, ⟨fun t ht => ?_, h3.2.cong e e2 e3⟩, h4⟩
  · obtain ⟨hE, hW⟩ := h1 t ht
    refine ⟨?_, hW.cong ht (by omega) e⟩
    unfold tmE kyR at *
    rw [e 5 (by omega) (by omega) t ht, e 6 (by omega) (by omega) t ht, e 7 (by omega) (by omega) t ht, e 8 (by omega) (by omega) t ht, e 9 (by omega) (by omega) t ht, e 10 (by omega) (by omega) t ht, e 11 (by omega) (by omega) t ht, e 12 (by omega) (by omega) t ht, e 13 (by omega) (by omega) t ht]
    exact hE
  · rw [e 5 (by omega) (by omega) t ht, e 8 (by omega) (by omega) t ht, e 9 (by omega) (by omega) t ht, e 11 (by omega) (by omega) t ht, e 12 (by omega) (by omega) t ht]
    exact h2 t ht
  · have hW := (h1 t ht).2
    exact (h3.1 t ht).cong ht (by omega) hW.1 hW.2.1 e
theorem RR.mv {n0 : Nat} {σ σ' τ : St} (h : RR n0 σ τ) (hC : mvC σ σ') : RR n0 σ' τ := by
  obtain ⟨h1, h2, h3, h4⟩ := h
  refine ⟨fun t ht => ⟨?_, (h1 t ht).2⟩, fun t ht => ?_, h3, by rw [hC.1 6 (by omega)]; exact h4⟩
  · have := (h1 t ht).1
    unfold tmE at *
    rw [hC.1 7 (by omega), hC.1 8 (by omega), hC.1 9 (by omega), hC.1 10 (by omega), hC.1 11 (by omega), hC.1 12 (by omega), hC.1 13 (by omega), hC.1 14 (by omega), hC.1 16 (by omega), hC.2]
    exact this
  · rw [hC.1 15 (by omega)]; exact h2 t ht
theorem rwM.sm {n m : Nat} {a b : St} (h : rwM n a b) (hm : m ≤ n) : rwM m a b := fun c q1 q2 j hj => h c q1 q2 j (by omega)
/-- what the reading of a term gives -/
def ROUT (n0 n p b nd fuel kk : Nat) (σ τ : St) (z : Int32 × St) : Prop :=
  (∃ m n' p' kk' fuel' τ', z.1 = nI m ∧ m < n' ∧ RD n0 n' p' b nd z.2 τ' ∧ n ≤ n' ∧ 2 * n' + p ≤ 2 * n + p' + 1 ∧ p < p' ∧ kk' + p ≤ kk + p' ∧ fuel' + kk' = fuel + kk ∧ f_Mo_readAll_4 fuel (-1) (nI kk) τ = f_Mo_readAll_4 fuel' (nI m) (nI kk') τ' ∧ (k_Mo_readAll_4 fuel' (nI m) (nI kk') τ' → k_Mo_readAll_4 fuel (-1) (nI kk) τ) ∧ rwM n τ τ' ∧ fcR σ z.2 ∧ fmR τ τ' ∧ stk b τ τ') ∨
  (z.1 = -1 ∧ fcR σ z.2 ∧ RR n0 z.2 τ ∧ FLD n0 τ τ fuel (-1) kk)
def POUT (n0 n p b nd fuel kk : Nat) (σ X : St) (z : Int32 × St) : Prop :=
  (∃ m n' p' kk' fuel' τ', z.1 = nI m ∧ m < n' ∧ RD n0 n' p' b nd z.2 τ' ∧ n ≤ n' ∧ 2 * n' + p ≤ 2 * n + p' ∧ p + 1 < p' ∧ kk' + p + 1 ≤ kk + p' ∧ fuel' + kk' = fuel + kk ∧ f_Mo_readAll_4 fuel (-1) (nI kk) (f_Mo_blank X) = f_Mo_readAll_4 fuel' (nI m) (nI kk') τ' ∧ (k_Mo_readAll_4 fuel' (nI m) (nI kk') τ' → k_Mo_readAll_4 fuel (-1) (nI kk) (f_Mo_blank X)) ∧ rwM n X τ' ∧ fcR σ z.2 ∧ fmR X τ' ∧ stk b X τ') ∨
  (z.1 = -1 ∧ fcR σ z.2 ∧ RR n0 z.2 X ∧ FLD n0 X (f_Mo_blank X) fuel (-1) kk)
def IHY (n0 : Nat) (RF : Int32 → St → Int32 × St) (RK : Int32 → St → Prop) (B : Nat) : Prop := ∀ (n p nd fuel kk : Nat) (σ τ : St), RD n0 n p B nd σ τ → 2 * n ≤ 2 * n0 + p → kk ≤ p → fuel + kk = 1000 → RK (nI B) σ ∧ ROUT n0 n p B nd fuel kk σ τ (RF (nI B) σ)
/-- where a bracket's reading stands, seen from its beginning -/
def CX (n0 n p b nd fuel kk : Nat) (σ0 τ0 : St) (n1 p1 b1 fuel1 kk1 : Nat) (σ X : St) (E : Int32 × St) (KE : Prop) : Prop :=
  n0 ≤ n ∧ RD n0 n1 p1 b1 nd σ X ∧ n ≤ n1 ∧ 2 * n1 + p ≤ 2 * n + p1 ∧ kk1 + p ≤ kk + p1 ∧ fuel1 + kk1 = fuel + kk ∧ p < p1 ∧ f_Mo_readAll_4 fuel (-1) (nI kk) τ0 = E ∧ (KE → k_Mo_readAll_4 fuel (-1) (nI kk) τ0) ∧ rwM n τ0 X ∧ fcR σ0 σ ∧ fmR τ0 X ∧ stk b τ0 X
section PRT
variable {n0 n p b nd fuel kk n1 p1 b1 fuel1 kk1 : Nat} {σ0 τ0 σ X : St} {E : Int32 × St} {KE : Prop} {RF : Int32 → St → Int32 × St} {RK : Int32 → St → Prop}
/-- what is left of the class's state where it gives up -/
def ZS (n0 : Nat) (σ0 τ0 z : St) : Prop := fcR σ0 z ∧ RR n0 z τ0
theorem CX.zs2 {z : St} (h : CX n0 n p b nd fuel kk σ0 τ0 n1 p1 b1 fuel1 kk1 σ X E KE) (hfc : fcR σ z) (hRR : RR n0 z X) : ZS n0 σ0 τ0 z := by
  obtain ⟨h0, h1, h2, h3, h4, h5, h6, h7, h8, h9, h10, h11, h12⟩ := h
  have hn := h1.1.1
  exact ⟨h10.tr hfc, hRR.cong2 (by omega) (h9.sm h0).sy (fun c q1 q2 => (h11.1 c (by omega)).symm) (h11.2.1 3 (by omega) (by omega) (by omega) (by omega)).symm⟩
theorem CX.zs {z : St} (h : CX n0 n p b nd fuel kk σ0 τ0 n1 p1 b1 fuel1 kk1 σ X E KE) (hm : mvC σ z) : ZS n0 σ0 τ0 z := h.zs2 hm.fc ((RR.ofT h.2.1.1).mv hm)
theorem CX.fail {z : Int32 × St} (h : CX n0 n p b nd fuel kk σ0 τ0 n1 p1 b1 fuel1 kk1 σ X E KE) (hz : z.1 = -1) (hs : ZS n0 σ0 τ0 z.2) (hK : KE) (hF : ∃ x τ', E = (x, τ') ∧ τ'.1 0 33 = 1 ∧ rwM n0 X τ' ∧ fmR X τ') : ROUT n0 n p b nd fuel kk σ0 τ0 z := by
  obtain ⟨h0, h1, h2, h3, h4, h5, h6, h7, h8, h9, h10, h11, h12⟩ := h
  obtain ⟨x, τ', f1, f2, f3, f4⟩ := hF
  exact Or.inr ⟨hz, hs.1, hs.2, h8 hK, x, τ', h7.trans f1, f2, (h9.sm h0).tr f3 (Nat.le_refl _), h11.tr f4⟩
theorem CX.as {E' : Int32 × St} {KE' : Prop} (h : CX n0 n p b nd fuel kk σ0 τ0 n1 p1 b1 fuel1 kk1 σ X E KE) (e : E = E') (k : KE' → KE) : CX n0 n p b nd fuel kk σ0 τ0 n1 p1 b1 fuel1 kk1 σ X E' KE' := by
  obtain ⟨h0, h1, h2, h3, h4, h5, h6, h7, h8, h9, h10, h11, h12⟩ := h
  exact ⟨h0, h1, h2, h3, h4, h5, h6, h7.trans e, fun w => h8 (k w), h9, h10, h11, h12⟩
theorem RD.rr (h : RD n0 n p b nd σ X) : RR n0 σ X := RR.ofT h.1
theorem part_sim (IH : IHY n0 RF RK b) (h : RD n0 n p b nd σ X) (h2 : 2 * n ≤ 2 * n0 + p) (hk : kk ≤ p) (hf : fuel + kk = 1000) : k_Rd_readPart RF RK (nI b) σ ∧ k_Mo_blank X ∧ POUT n0 n p b nd fuel kk σ X (f_Rd_readPart RF (nI b) σ) := by
  obtain ⟨kb, eb1, eb2⟩ := blank_M h
  obtain ⟨kt, ht⟩ := h.take 32 (by decide)
  have hp := h.2.2.2.1.1
  have h120 := h.2.2.1.1
  have eP : f_Rd_readPart RF (nI b) σ = f_Rd_readPart_6 RF (nI b) (f_Rd_take 32 σ).1 (f_Rd_take 32 σ).2 := rfl
  rcases ht with ⟨t1, t2, t3⟩ | ⟨t1, t3⟩
  · have hM : mvM X (sF (sF X 0 33 0) 0 32 (nI (p + 1))) := (mvM.bad X 0).tr (mvM.at _ _)
    obtain ⟨r1, r2⟩ := IH n (p + 1) nd fuel kk (sF σ 20 3 (nI (p + 1))) (sF (sF X 0 33 0) 0 32 (nI (p + 1))) (h.good.adv t2) (by omega) (by omega) hf
    have e6 : f_Rd_readPart RF (nI b) σ = RF (nI b) (sF σ 20 3 (nI (p + 1))) := by
      rw [eP, t3, f_Rd_readPart_6, if_neg (show ¬ (1, sF σ 20 3 (nI (p + 1))).1 = (0 : Int32) from (by decide : ¬ (1 : Int32) = 0)), f_Rd_readPart_14, f_Rd_readPart_18]
    rw [e6]
    refine ⟨⟨kt, by rw [t3]; exact ⟨fun z => absurd z (show ¬ (1 : Int32) = 0 by decide), fun _ => ⟨r1, trivial⟩⟩⟩, kb, ?_⟩
    unfold POUT
    rw [eb1 t1]
    rcases r2 with ⟨m, n', p', kk', fuel', τ', g1, g2, g3, g4, g5, g6, g7, g8, g9, g10, g11, g12, g13, g14⟩ | ⟨g1, g2, g3, g4⟩
    · exact Or.inl ⟨m, n', p', kk', fuel', τ', g1, g2, g3, g4, by omega, by omega, by omega, g8, g9, g10, (hM.rw n).tr g11 (Nat.le_refl _), (mvC.pos σ _).fc.tr g12, hM.fm.tr g13, (hM.st b).tr g14 (Nat.le_refl _)⟩
    · refine Or.inr ⟨g1, (mvC.pos σ _).fc.tr g2, g3.cong2 (by have := h.1.1; omega) ((hM.rw n0).sy) (fun c q1 q2 => (hM.1 c (by omega)).symm) (hM.2.1 3 (by omega) (by omega)).symm, g4.base (hM.rw n0) hM.fm⟩
  · have hM : mvM X (sF (sF X 0 33 1) 0 32 (nI (p + 1))) := (mvM.bad X 1).tr (mvM.at _ _)
    have e6 : f_Rd_readPart RF (nI b) σ = (-1, σ) := by
      rw [eP, t3, f_Rd_readPart_6, if_pos rfl, f_Rd_readPart_18]
    rw [e6]
    refine ⟨⟨kt, by rw [t3]; exact ⟨fun _ => trivial, fun z => absurd rfl z⟩⟩, kb, ?_⟩
    unfold POUT
    rw [eb2 t1]
    obtain ⟨fuel, rfl⟩ : ∃ k, fuel = k + 1 := ⟨fuel - 1, by omega⟩
    exact Or.inr ⟨rfl, fcR.rf σ, h.rr, fld_bad rfl (by omega) (hM.rw n0) hM.fm⟩
/-- a part is read -/
theorem CX.part (h : CX n0 n p b nd fuel kk σ0 τ0 n1 p1 b1 fuel1 kk1 σ X (f_Mo_readAll_4 fuel1 (-1) (nI kk1) (f_Mo_blank X)) (k_Mo_blank X ∧ k_Mo_readAll_4 fuel1 (-1) (nI kk1) (f_Mo_blank X))) (IH : IHY n0 RF RK b1) (h2 : 2 * n ≤ 2 * n0 + p) (hk : kk ≤ p) (hf : fuel + kk = 1000) (hb : b ≤ b1) :
    k_Rd_readPart RF RK (nI b1) σ ∧ ((∃ m n2 p2 fuel2 kk2 σ2 X2, f_Rd_readPart RF (nI b1) σ = (nI m, σ2) ∧ m < n2 ∧ n1 ≤ n2 ∧ kk2 + p + 1 ≤ kk + p2 ∧ CX n0 n p b nd fuel kk σ0 τ0 n2 p2 b1 fuel2 kk2 σ2 X2 (f_Mo_readAll_4 fuel2 (nI m) (nI kk2) X2) (k_Mo_readAll_4 fuel2 (nI m) (nI kk2) X2) ∧ rwM n1 X X2 ∧ stk b1 X X2 ∧ fmR X X2) ∨
      (∃ σ2, f_Rd_readPart RF (nI b1) σ = (-1, σ2) ∧ ZS n0 σ0 τ0 σ2 ∧ ∀ z : Int32 × St, z.1 = -1 → ZS n0 σ0 τ0 z.2 → ROUT n0 n p b nd fuel kk σ0 τ0 z)) := by
  have hh := h
  obtain ⟨h0, h1, g2, g3, g4, g5, g6, g7, g8, g9, g10, g11, g12⟩ := h
  obtain ⟨k1, k2, hp⟩ := part_sim IH h1 (by omega) (kk := kk1) (fuel := fuel1) (by omega) (by omega)
  refine ⟨k1, ?_⟩
  rcases hp with ⟨m, n', p', kk', fuel', τ', q1, q2, q3, q4, q5, q6, q7, q8, q9, q10, q11, q12, q13, q14⟩ | ⟨q1, q2, q3, q4, x, τ', q5, q6, q7, q8⟩
  · refine Or.inl ⟨m, n', p', fuel', kk', (f_Rd_readPart RF (nI b1) σ).2, τ', by rw [← q1], q2, q4, by omega, ⟨h0, q3, by omega, by omega, by omega, by omega, by omega, g7.trans q9, fun w => g8 ⟨k2, q10 w⟩, g9.tr q11 g2, g10.tr q12, g11.tr q13, g12.tr q14 hb⟩, q11, q14, q13⟩
  · exact Or.inr ⟨(f_Rd_readPart RF (nI b1) σ).2, by rw [← q1], hh.zs2 q2 q3, fun z z1 z2 => hh.fail z1 z2 ⟨k2, q4⟩ ⟨x, τ', q5, q6, q7, q8⟩⟩
/-- a bracket is closed -/
theorem CX.shut {F : Nat} (h : CX n0 n p b nd fuel kk σ0 τ0 n1 p1 (b + 1) (F + 1) kk1 σ X (f_Mo_readAll_126 (f_Mo_readAll_4 F) (nI kk1) X) (k_Mo_readAll_126 (k_Mo_readAll_4 F) (nI kk1) X)) (hk : kk ≤ p) (hf : fuel + kk = 1000) :
    (¬ ltr X nd p1 = 41 → ∀ z : Int32 × St, z.1 = -1 → ZS n0 σ0 τ0 z.2 → ROUT n0 n p b nd fuel kk σ0 τ0 z) ∧
    (ltr X nd p1 = 41 → p1 < nd ∧ RD n0 n1 (p1 + 1) b nd (sF σ 20 3 (nI (p1 + 1))) (clS p1 b X) ∧
      (∀ C : Int32 × St, f_Mo_closeBracket_40 (X.1 22 b) (X.1 24 b) (X.1 25 b) (clS p1 b X) = C → k_Mo_closeBracket_40 (X.1 22 b) (X.1 24 b) (X.1 25 b) (clS p1 b X) →
        ((C.2.1 0 33 = 1 → rwM n0 (clS p1 b X) C.2 → fmR (clS p1 b X) C.2 → ∀ z : Int32 × St, z.1 = -1 → ZS n0 σ0 τ0 z.2 → ROUT n0 n p b nd fuel kk σ0 τ0 z) ∧
         (∀ m n' σ', C.1 = nI m → m < n' → RD n0 n' (p1 + 1) b nd σ' C.2 → n1 ≤ n' → n' ≤ n1 + 1 → rwM n1 (clS p1 b X) C.2 → fcR (sF σ 20 3 (nI (p1 + 1))) σ' → fmR (clS p1 b X) C.2 → (∀ c, 22 ≤ c → c ≤ 25 → C.2.1 c = (clS p1 b X).1 c) → ROUT n0 n p b nd fuel kk σ0 τ0 (nI m, σ'))))) := by
  have hh := h
  obtain ⟨h0, h1, g2, g3, g4, g5, g6, g7, g8, g9, g10, g11, g12⟩ := h
  have hp1 := h1.2.2.2.1.1
  have h120 := h1.2.2.1.1
  obtain ⟨F, rfl⟩ : ∃ k, F = k + 1 := ⟨F - 1, by omega⟩
  obtain ⟨r1, r2⟩ := ra_126 (fuel := F) (kk := kk1) h1 (by omega)
  refine ⟨fun c41 z z1 z2 => ?_, fun c41 => ?_⟩
  · obtain ⟨k1, x, τ', f1, f2, f3, f4⟩ := r2 c41
    exact hh.fail z1 z2 k1 ⟨x, τ', f1, f2, f3 n0, f4⟩
  · have hp := ltr_in c41 (by decide)
    obtain ⟨s1, s2, s3, s4⟩ := h1.cS hp
    obtain ⟨e1, k1⟩ := r1 c41
    refine ⟨hp, s1, fun C hC kC => ?_⟩
    rw [hC] at e1 k1
    have rwY : ∀ j, rwM j X (clS p1 b X) := fun j c q1 q2 x hx => by rw [s3 c (by omega)]
    refine ⟨fun w1 w2 w3 z z1 z2 => ?_, fun m n' σ' w1 w2 w3 w4 w5 w6 w7 w8 w9 => ?_⟩
    · obtain ⟨k2, x, τ', f1, f2, f3, f4⟩ := fld_bad (n0 := n0) (τb := X) (τ := C.2) (fuel := F) (kk := kk1 + 1) (last := C.1) w1 (by omega) ((rwY n0).tr w2 (Nat.le_refl _)) (s2.tr w3)
      exact hh.fail z1 z2 (k1 kC k2) ⟨x, τ', e1.trans f1, f2, f3, f4⟩
    · refine Or.inl ⟨m, n', p1 + 1, kk1 + 1, F + 1, C.2, rfl, w2, w3, by omega, by omega, by omega, by omega, by omega, ?_, fun w => g8 (k1 kC (by rw [w1]; exact w)), g9.tr ((rwY n1).tr w6 (Nat.le_refl _)) g2, g10.tr ((mvC.pos σ _).fc.tr w7), g11.tr (s2.tr w8), fun c q1 q2 j hj => ?_⟩
      · rw [g7, e1, w1]
      · rw [w9 c q1 q2, s3 c (by omega)]; exact g12 c q1 q2 j hj
end PRT
