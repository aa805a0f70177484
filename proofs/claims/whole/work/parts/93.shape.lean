-- reading: the brackets, whole
section SHP
variable {n0 n p b nd fuel kk n1 p1 fuel1 kk1 : Nat} {σ0 τ0 σ X : St} {RF : Int32 → St → Int32 × St} {RK : Int32 → St → Prop}
/-- behind the first part: the machine looks whether a second is wanted -/
theorem CX.left {m : Nat} (h : CX n0 n p b nd fuel kk σ0 τ0 n1 p1 (b + 1) fuel1 kk1 σ X (f_Mo_readAll_4 fuel1 (nI m) (nI kk1) X) (k_Mo_readAll_4 fuel1 (nI m) (nI kk1) X)) (hm : m < 400) (hk : kk ≤ p) (hf : fuel + kk = 1000) (hkk : kk1 + p + 1 ≤ kk + p1) (g : X.1 23 b = 0)
    (ht : k_Mo_takesOne (X.1 22 b) (ptL m b X)) :
    (f_Mo_takesOne (X.1 22 b) (ptL m b X) = 0 → ∃ F, CX n0 n p b nd fuel kk σ0 τ0 n1 p1 (b + 1) F (kk1 + 1) σ (ptL m b X) (f_Mo_readAll_4 F (-1) (nI (kk1 + 1)) (f_Mo_blank (ptL m b X))) (k_Mo_blank (ptL m b X) ∧ k_Mo_readAll_4 F (-1) (nI (kk1 + 1)) (f_Mo_blank (ptL m b X)))) ∧
    (¬ f_Mo_takesOne (X.1 22 b) (ptL m b X) = 0 → ∃ F, CX n0 n p b nd fuel kk σ0 τ0 n1 p1 (b + 1) (F + 1) kk1 σ (ptL m b X) (f_Mo_readAll_126 (f_Mo_readAll_4 F) (nI kk1) (ptL m b X)) (k_Mo_readAll_126 (k_Mo_readAll_4 F) (nI kk1) (ptL m b X))) := by
  obtain ⟨h0, h1, g2, g3, g4, g5, g6, g7, g8, g9, g10, g11, g12⟩ := h
  have hp1 := h1.2.2.2.1.1
  have h120 := h1.2.2.1.1
  have hb := h1.2.2.2.2.2.1
  have hcl : (nI b).toNatClampNeg = b := nI_clamp (by omega)
  have hin : vp_in (nI b) 40 := by rw [in_iff, i_nI (by omega)]; omega
  obtain ⟨F, rfl⟩ : ∃ k, fuel1 = k + 1 := ⟨fuel1 - 1, by omega⟩
  obtain ⟨e1, k1⟩ := (ra_part (fuel := F) (m := m) (kk := kk1) h1 (by omega) hm).1 g
  obtain ⟨q1, q2, q3, q4, q5, q6, q7, q8⟩ := h1.pL (m := m)
  have n2 : ¬ (ptL m b X).1 23 (nI b).toNatClampNeg = 2 := by rw [hcl, q6]; decide
  have e22 : (ptL m b X).1 22 (nI b).toNatClampNeg = X.1 22 b := by rw [hcl, q5]
  have base : ∀ (E : Int32 × St) (KE : Prop) (f2 k2 : Nat), k2 + p ≤ kk + p1 → f2 + k2 = fuel + kk → f_Mo_readAll_101 (f_Mo_readAll_4 F) (nI kk1) (nI b) (ptL m b X) = E → (KE → k_Mo_readAll_101 (k_Mo_readAll_4 F) (nI kk1) (nI b) (ptL m b X)) → CX n0 n p b nd fuel kk σ0 τ0 n1 p1 (b + 1) f2 k2 σ (ptL m b X) E KE := fun E KE f2 k2 w1 w2 w3 w4 => ⟨h0, q1, g2, g3, w1, w2, g6, (g7.trans e1).trans w3, fun w => g8 (k1 (w4 w)), g9.tr (q4 n) (Nat.le_refl _), g10, g11.tr q2, g12.tr q3 (Nat.le_refl _)⟩
  refine ⟨fun z => ⟨F, base _ _ F (kk1 + 1) (by omega) (by omega) ?_ (fun w => ?_)⟩, fun z => ⟨F, base _ _ (F + 1) kk1 (by omega) g5 ?_ (fun w => ?_)⟩⟩
  · rw [f_Mo_readAll_101, if_neg n2, e22, if_pos z, nI_succ]; rfl
  · refine ⟨hin, fun w2 => absurd w2 n2, fun _ => ⟨hin, ?_⟩⟩
    rw [e22]
    refine ⟨ht, fun _ => ⟨w.1, ?_⟩, fun w2 => absurd z w2⟩
    have w3 := w.2
    rw [nI_succ] at w3; exact w3
  · rw [f_Mo_readAll_101, if_neg n2, e22, if_neg z]
  · refine ⟨hin, fun w2 => absurd w2 n2, fun _ => ⟨hin, ?_⟩⟩
    rw [e22]
    exact ⟨ht, fun w2 => absurd w2 z, fun _ => w⟩
/-- behind the second part -/
theorem CX.right {m : Nat} (h : CX n0 n p b nd fuel kk σ0 τ0 n1 p1 (b + 1) fuel1 kk1 σ X (f_Mo_readAll_4 fuel1 (nI m) (nI kk1) X) (k_Mo_readAll_4 fuel1 (nI m) (nI kk1) X)) (hm : m < 400) (hk : kk ≤ p) (hf : fuel + kk = 1000) (g : X.1 23 b = 1) :
    ∃ F, CX n0 n p b nd fuel kk σ0 τ0 n1 p1 (b + 1) (F + 1) kk1 σ (ptR m b X) (f_Mo_readAll_126 (f_Mo_readAll_4 F) (nI kk1) (ptR m b X)) (k_Mo_readAll_126 (k_Mo_readAll_4 F) (nI kk1) (ptR m b X)) := by
  obtain ⟨h0, h1, g2, g3, g4, g5, g6, g7, g8, g9, g10, g11, g12⟩ := h
  have hp1 := h1.2.2.2.1.1
  have h120 := h1.2.2.1.1
  have hb := h1.2.2.2.2.2.1
  have hcl : (nI b).toNatClampNeg = b := nI_clamp (by omega)
  have hin : vp_in (nI b) 40 := by rw [in_iff, i_nI (by omega)]; omega
  obtain ⟨F, rfl⟩ : ∃ k, fuel1 = k + 1 := ⟨fuel1 - 1, by omega⟩
  obtain ⟨e1, k1⟩ := (ra_part (fuel := F) (m := m) (kk := kk1) h1 (by omega) hm).2 g
  obtain ⟨q1, q2, q3, q4, q5, q6, q7, q8⟩ := h1.pR (m := m)
  have n2 : (ptR m b X).1 23 (nI b).toNatClampNeg = 2 := by rw [hcl, q6]
  refine ⟨F, h0, q1, g2, g3, g4, g5, g6, (g7.trans e1).trans ?_, fun w => g8 (k1 ⟨hin, fun _ => w, fun w2 => absurd n2 w2⟩), g9.tr (q4 n) (Nat.le_refl _), g10, g11.tr q2, g12.tr q3 (Nat.le_refl _)⟩
  rw [f_Mo_readAll_101, if_pos n2]
/-- a mark over two parts -/
theorem two_sim {K c : Int32} (h : CX n0 n p b nd fuel kk σ0 τ0 n1 p1 (b + 1) fuel1 kk1 σ X (f_Mo_readAll_4 fuel1 (-1) (nI kk1) (f_Mo_blank X)) (k_Mo_blank X ∧ k_Mo_readAll_4 fuel1 (-1) (nI kk1) (f_Mo_blank X))) (IH : IHY n0 RF RK (b + 1)) (h2 : 2 * n ≤ 2 * n0 + p) (hk : kk ≤ p) (hf : fuel + kk = 1000)
    (hK : two6 K) (hc : ∀ Z : St, k_Mo_signOf c Z ∧ f_Mo_signOf c Z = K) (c97 : c < 97 ∨ 108 < c) (c126 : ¬ c = 126) (c33 : ¬ c = 33) (r22 : X.1 22 b = c) (r23 : X.1 23 b = 0) :
    k_Rd_readOverTwo RF RK K (nI (b + 1)) σ ∧ ROUT n0 n p b nd fuel kk σ0 τ0 (f_Rd_readOverTwo RF K (nI (b + 1)) σ) := by
  have tk : ∀ Z : St, k_Mo_takesOne c Z ∧ f_Mo_takesOne c Z = 0 := fun Z => ⟨⟨fun z => absurd z c126, fun _ => ⟨fun z => absurd z c33, fun _ => ⟨fun _ => ⟨rfl, trivial⟩, fun z => ⟨fun _ => ⟨rfl, trivial⟩, fun z2 => absurd (c97.resolve_left z) z2⟩⟩⟩⟩, by
    rw [f_Mo_takesOne, if_neg c126, if_neg c33]
    by_cases z : c < 97
    · rw [if_pos z]; rfl
    · rw [if_neg z, if_pos (c97.resolve_left z)]; rfl⟩
  have bnd : ∀ {n' p' f' k' : Nat} {σ' X' : St} {E : Int32 × St} {KE : Prop}, CX n0 n p b nd fuel kk σ0 τ0 n' p' (b + 1) f' k' σ' X' E KE → n' ≤ 206 := fun hx => by
    have w1 := hx.2.1.1.1
    have w2 := hx.2.1.2.2.1.1
    have w3 := hx.2.1.2.2.2.1.1
    have w4 := hx.2.2.2.1
    omega
  obtain ⟨kp, hp⟩ := h.part IH h2 hk hf (by omega)
  have e0 : f_Rd_readOverTwo RF K (nI (b + 1)) σ = f_Rd_readOverTwo_6 RF K (nI (b + 1)) (f_Rd_readPart RF (nI (b + 1)) σ).1 (f_Rd_readPart RF (nI (b + 1)) σ).2 := rfl
  rcases hp with ⟨a, n2, p2, fuel2, kk2, σ2, X2, f1, a1, a2, a3, C2, a4, a5, a6⟩ | ⟨σ2, f1, zs, fl⟩
  · have na : ¬ nI a = -1 := nI_ne_m1 (by have := bnd C2; omega)
    have x22 : X2.1 22 b = c := by rw [a5 22 (by omega) (by omega) b (by omega)]; exact r22
    have x23 : X2.1 23 b = 0 := by rw [a5 23 (by omega) (by omega) b (by omega)]; exact r23
    have b2 := bnd C2
    obtain ⟨F3, C3⟩ := (C2.left (by omega) hk hf a3 x23 (by rw [x22]; exact (tk _).1)).1 (by rw [x22]; exact (tk _).2)
    obtain ⟨l1, l2, l3, l4, l5, l6, l7, l8⟩ := C2.2.1.pL (m := a)
    obtain ⟨kp2, hp2⟩ := C3.part IH h2 hk hf (by omega)
    have e1 : f_Rd_readOverTwo RF K (nI (b + 1)) σ = f_Rd_readOverTwo_20 RF K (nI a) (f_Rd_readPart RF (nI (b + 1)) σ2).1 (f_Rd_readPart RF (nI (b + 1)) σ2).2 := by
      rw [e0, f1, f_Rd_readOverTwo_6, if_neg na]; rfl
    have K0 : k_Rd_readOverTwo_20 RF RK K (nI a) (f_Rd_readPart RF (nI (b + 1)) σ2).1 (f_Rd_readPart RF (nI (b + 1)) σ2).2 → k_Rd_readOverTwo RF RK K (nI (b + 1)) σ := fun w => by
      refine ⟨kp, ?_⟩
      rw [f1]
      exact ⟨fun z => absurd z na, fun _ => ⟨kp2, w⟩⟩
    rw [e1]
    rcases hp2 with ⟨d, n4, p4, fuel4, kk4, σ4, X4, f2, d1, d2, d3, C4, d4, d5, d6⟩ | ⟨σ4, f2, zs, fl⟩
    · have b4 := bnd C4
      have nd' : ¬ nI d = -1 := nI_ne_m1 (by omega)
      have y22 : X4.1 22 b = c := by rw [d5 22 (by omega) (by omega) b (by omega), l5]; exact x22
      have y23 : X4.1 23 b = 1 := by rw [d5 23 (by omega) (by omega) b (by omega)]; exact l6
      have y24 : X4.1 24 b = nI a := by rw [d5 24 (by omega) (by omega) b (by omega)]; exact l7
      obtain ⟨F5, C5⟩ := C4.right (by omega) hk hf y23
      obtain ⟨r1, r2, r3, r4, r5, r6, r7, r8⟩ := C4.2.1.pR (m := d)
      have v22 : (ptR d b X4).1 22 b = c := by rw [r5]; exact y22
      have v24 : (ptR d b X4).1 24 b = nI a := by rw [r7]; exact y24
      obtain ⟨s1, s2⟩ := C5.shut hk hf
      rw [f2] at K0 ⊢
      have e20 : ∀ σ' : St, f_Rd_readOverTwo_20 RF K (nI a) (nI d, σ').1 (nI d, σ').2 = f_Rd_readOverTwo_32 RF K (nI a) (nI d) (f_Rd_take 41 σ').1 (f_Rd_take 41 σ').2 := fun σ' => by
        show f_Rd_readOverTwo_20 RF K (nI a) (nI d) σ' = _
        rw [f_Rd_readOverTwo_20, if_neg nd']
      obtain ⟨kt, ht⟩ := C5.2.1.take 41 (by decide)
      rw [e20]
      rcases ht with ⟨t1, t2, t3⟩ | ⟨t1, t3⟩
      · obtain ⟨hp4, RY, hY⟩ := s2 t1
        rw [v22, v24, r8] at hY
        obtain ⟨c1, c2, c3, c4⟩ := two_close hK RY b4 (a := a) (d := d) (by omega) (by omega)
        have e40 : f_Mo_closeBracket_40 c (nI a) (nI d) (clS p4 b (ptR d b X4)) = f_Mo_closeBracket_146 (nI a) (nI d) K (clS p4 b (ptR d b X4)) := by
          rw [f_Mo_closeBracket_40]
          by_cases z : c < 97
          · rw [if_pos z, f_Mo_closeBracket_140, (hc _).2]
          · rw [if_neg z, if_pos (c97.resolve_left z), f_Mo_closeBracket_140, (hc _).2]
        have k40 : k_Mo_closeBracket_146 (nI a) (nI d) K (clS p4 b (ptR d b X4)) → k_Mo_closeBracket_40 c (nI a) (nI d) (clS p4 b (ptR d b X4)) := fun w => ⟨fun _ => ⟨(hc _).1, by rw [(hc _).2]; exact w⟩, fun z => ⟨fun _ => ⟨(hc _).1, by rw [(hc _).2]; exact w⟩, fun z2 => absurd (c97.resolve_left z) z2⟩⟩
        rw [t3]
        by_cases hfit : fitT (clS p4 b (ptR d b X4)) K a d
        · obtain ⟨q1, q2⟩ := c3 hfit
          have hfit2 : fitT (sF (clS p4 b (ptR d b X4)) 0 33 0) K a d := hfit
          obtain ⟨s, hs, k1, k2, m, n', σ', τ', g1, g2, g3, g4, g5, g6, g7, g8, g9, g10⟩ := two_make hK RY.good b4 (a := a) (d := d) (by omega) (by omega) hfit2
          have nc : ¬ f_Rd_canBePartsOf K (nI a) (nI d) (sF σ4 20 3 (nI (p4 + 1))) = 0 := fun w => c2.mp w hfit
          have e63 : (if 4 < K then f_Rd_readOverTwo_63 RF (nI a) (nI d) 0 K (sF σ4 20 3 (nI (p4 + 1))) else f_Rd_readOverTwo_63 RF (nI a) (nI d) 1 K (sF σ4 20 3 (nI (p4 + 1)))) = (nI m, σ') := by
            by_cases z : 4 < K
            · rw [if_pos z] at hs; subst hs
              rw [if_pos z, f_Rd_readOverTwo_63, g1]; rfl
            · rw [if_neg z] at hs; subst hs
              rw [if_neg z, f_Rd_readOverTwo_63, g1]; rfl
          have e32 : f_Rd_readOverTwo_32 RF K (nI a) (nI d) (1, sF σ4 20 3 (nI (p4 + 1))).1 (1, sF σ4 20 3 (nI (p4 + 1))).2 = (nI m, σ') := by
            show f_Rd_readOverTwo_32 RF K (nI a) (nI d) 1 (sF σ4 20 3 (nI (p4 + 1))) = _
            rw [f_Rd_readOverTwo_32, if_neg (by decide), if_neg nc]; exact e63
          rw [e32]
          refine ⟨K0 ⟨fun z => absurd z nd', fun _ => ⟨kt, ?_⟩⟩, ?_⟩
          · rw [t3]
            refine ⟨fun z => absurd z (show ¬ (1 : Int32) = 0 by decide), fun _ => ⟨c1, fun z => absurd z nc, fun _ => ⟨fun z => ?_, fun z => ?_⟩⟩⟩
            · rw [if_pos z] at hs; subst hs; exact ⟨k1, trivial⟩
            · rw [if_neg z] at hs; subst hs; exact ⟨k1, trivial⟩
          · have mv := mvM.bad (clS p4 b (ptR d b X4)) 0
            exact (hY (nI m, τ') (by rw [e40, q1, g2]) (k40 (q2 k2))).2 m n' σ' rfl g3 g6 g4 g5 ((mv.rw _).tr g7 (Nat.le_refl _)) g8 (mv.fm.tr g9) (fun c0 w1 w2 => (g10 c0 w1 w2).trans (mv.1 c0 (by omega)))
        · obtain ⟨q1, q2⟩ := c4 hfit
          have nc : f_Rd_canBePartsOf K (nI a) (nI d) (sF σ4 20 3 (nI (p4 + 1))) = 0 := c2.mpr hfit
          have e32 : f_Rd_readOverTwo_32 RF K (nI a) (nI d) (1, sF σ4 20 3 (nI (p4 + 1))).1 (1, sF σ4 20 3 (nI (p4 + 1))).2 = (-1, sF σ4 20 3 (nI (p4 + 1))) := by
            show f_Rd_readOverTwo_32 RF K (nI a) (nI d) 1 (sF σ4 20 3 (nI (p4 + 1))) = _
            rw [f_Rd_readOverTwo_32, if_neg (by decide), if_pos nc]; rfl
          rw [e32]
          refine ⟨K0 ⟨fun z => absurd z nd', fun _ => ⟨kt, ?_⟩⟩, ?_⟩
          · rw [t3]
            exact ⟨fun z => absurd z (show ¬ (1 : Int32) = 0 by decide), fun _ => ⟨c1, fun _ => trivial, fun z => absurd nc z⟩⟩
          · have mv := mvM.bad (clS p4 b (ptR d b X4)) 1
            exact (hY (0, sF (clS p4 b (ptR d b X4)) 0 33 1) (by rw [e40, q2]) (k40 q1)).1 rfl (mv.rw _) mv.fm _ rfl (C5.zs (mvC.pos σ4 _))
      · rw [t3]
        have e32 : f_Rd_readOverTwo_32 RF K (nI a) (nI d) (0, σ4).1 (0, σ4).2 = (-1, σ4) := by
          show f_Rd_readOverTwo_32 RF K (nI a) (nI d) 0 σ4 = _
          rw [f_Rd_readOverTwo_32, if_pos rfl]; rfl
        rw [e32]
        refine ⟨K0 ⟨fun z => absurd z nd', fun _ => ⟨kt, ?_⟩⟩, s1 t1 _ rfl (C5.zs (mvC.rf σ4))⟩
        rw [t3]
        exact ⟨fun _ => trivial, fun z => absurd rfl z⟩
    · rw [f2] at K0 ⊢
      refine ⟨K0 ⟨fun _ => trivial, fun z => absurd rfl z⟩, ?_⟩
      have e20 : f_Rd_readOverTwo_20 RF K (nI a) (-1, σ4).1 (-1, σ4).2 = (-1, σ4) := by
        show f_Rd_readOverTwo_20 RF K (nI a) (-1) σ4 = _
        rw [f_Rd_readOverTwo_20, if_pos rfl]; rfl
      rw [e20]; exact fl _ rfl zs
  · have e1 : f_Rd_readOverTwo RF K (nI (b + 1)) σ = (-1, σ2) := by
      rw [e0, f1, f_Rd_readOverTwo_6, if_pos rfl]
    rw [e1]
    exact ⟨⟨kp, by rw [f1]; exact ⟨fun _ => trivial, fun z => absurd rfl z⟩⟩, fl _ rfl zs⟩
end SHP
