-- reading: a mark over one truth; a symbol with its parts
section ONE
variable {n0 n p b nd fuel kk n1 p1 fuel1 kk1 a : Nat} {σ0 τ0 σ X Y : St} {RF : Int32 → St → Int32 × St} {RK : Int32 → St → Prop}
def one2 (K r : Int32) : Prop := (K = 7 ∧ r = -1) ∨ (K = 10 ∧ ∃ v, v < 3 ∧ r = nI v)
theorem one_close {K r : Int32} (hK : one2 K r) (h : RD n0 n p b nd σ Y) (hn : n ≤ 206) (ha : a < n) : (Y.1 6 a = 0 → f_Mo_closeBracket_146 (nI a) r K Y = f_Mo_found K 0 (nI a) (-1) r 0 0 (sF Y 0 33 0) ∧ (k_Mo_found K 0 (nI a) (-1) r 0 0 (sF Y 0 33 0) → k_Mo_closeBracket_146 (nI a) r K Y)) ∧ (¬ Y.1 6 a = 0 → k_Mo_closeBracket_146 (nI a) r K Y ∧ f_Mo_closeBracket_146 (nI a) r K Y = (0, sF Y 0 33 1)) := by
  have h33 := h.2.2.2.2.1
  have o : ¬ (1 : Int32) = 0 := by decide
  obtain ⟨t1, t2⟩ := tr_M (Y := Y) (t := a) (by omega)
  have tz2 : Y.1 6 a = 0 → ¬ f_Mo_isTruth (nI a) Y = 0 := fun w => by rw [t2, if_pos w]; exact o
  have tz3 : ¬ Y.1 6 a = 0 → f_Mo_isTruth (nI a) Y = 0 := fun w => by rw [t2, if_neg w]
  rcases hK with ⟨rfl, rfl⟩ | ⟨rfl, v, hv, rfl⟩
  · obtain ⟨b0, b1⟩ := cl_295 (x := nI a) (y := -1) (K := 7) (s := f_Mo_isTruth (nI a) Y) h33 (by decide)
    have e146 : f_Mo_closeBracket_146 (nI a) (-1) 7 Y = f_Mo_closeBracket_295 (nI a) (-1) 7 (f_Mo_isTruth (nI a) Y) Y := by
      rw [f_Mo_closeBracket_146, if_neg (by decide), if_neg (by decide), f_Mo_closeBracket_164, if_pos rfl]; rfl
    have k146 : k_Mo_closeBracket_295 (nI a) (-1) 7 (f_Mo_isTruth (nI a) Y) Y → k_Mo_closeBracket_146 (nI a) (-1) 7 Y := fun w => ⟨fun z => absurd z (by decide), fun _ => ⟨fun z => absurd z (by decide), fun _ => ⟨fun _ => ⟨t1, w⟩, fun z => absurd rfl z⟩⟩⟩
    have em : f_Mo_made 7 (nI a) (-1) (sF Y 0 33 0) = f_Mo_found 7 0 (nI a) (-1) (-1) 0 0 (sF Y 0 33 0) := by
      rw [f_Mo_made, if_neg (by decide), if_neg (by decide), f_Mo_made_17, f_Mo_made_25]
    refine ⟨fun z => ?_, fun z => ?_⟩
    · obtain ⟨g1, g2⟩ := b1 (tz2 z)
      exact ⟨by rw [e146, g1, em], fun w => k146 (g2 ⟨fun z => absurd z (by decide), fun _ => ⟨fun z => absurd z (by decide), fun _ => ⟨w, trivial⟩⟩⟩)⟩
    · obtain ⟨g1, g2⟩ := b0 (tz3 z)
      exact ⟨k146 g1, by rw [e146, g2]⟩
  · have e146 : f_Mo_closeBracket_146 (nI a) (nI v) 10 Y = f_Mo_closeBracket_295 (nI a) (nI v) 10 (f_Mo_isTruth (nI a) Y) Y := by
      rw [f_Mo_closeBracket_146, if_neg (by decide), if_neg (by decide), f_Mo_closeBracket_164, if_neg (by decide), if_pos rfl]; rfl
    have k146 : k_Mo_closeBracket_295 (nI a) (nI v) 10 (f_Mo_isTruth (nI a) Y) Y → k_Mo_closeBracket_146 (nI a) (nI v) 10 Y := fun w => ⟨fun z => absurd z (by decide), fun _ => ⟨fun z => absurd z (by decide), fun _ => ⟨fun z => absurd z (by decide), fun _ => ⟨fun _ => ⟨t1, w⟩, fun z => absurd rfl z⟩⟩⟩⟩
    have n1 : ¬ (sF Y 0 33 1).1 0 33 = 0 := show ¬ (1 : Int32) = 0 by decide
    have e0 : (sF Y 0 33 0).1 0 33 = 0 := rfl
    refine ⟨fun z => ⟨?_, fun w => k146 ⟨fun _ => ⟨fun w2 => absurd w2 (tz2 z), fun _ => ⟨⟨rfl, rfl⟩, fun _ => ⟨fun _ => ⟨w, trivial⟩, fun w2 => absurd rfl w2⟩, fun w2 => absurd e0 w2⟩⟩, fun w2 => absurd h33 w2⟩⟩, fun z => ⟨k146 ⟨fun _ => ⟨fun _ => ⟨⟨rfl, rfl⟩, fun w2 => absurd w2 n1, fun _ => trivial⟩, fun w2 => absurd (tz3 z) w2⟩, fun w2 => absurd h33 w2⟩, ?_⟩⟩
    · rw [e146, f_Mo_closeBracket_295, if_pos h33, if_neg (tz2 z)]
      show f_Mo_closeBracket_318 (nI a) (nI v) 10 (sF Y 0 33 0) = _
      rw [f_Mo_closeBracket_318, if_pos e0, if_pos rfl, f_Mo_closeBracket_346, f_Mo_closeBracket_357]
    · rw [e146, f_Mo_closeBracket_295, if_pos h33, if_pos (tz3 z)]
      show f_Mo_closeBracket_318 (nI a) (nI v) 10 (sF Y 0 33 1) = _
      rw [f_Mo_closeBracket_318, if_neg n1]
theorem one_make {K r : Int32} (hK : one2 K r) (h : RD n0 n p b nd σ Y) (hn : n ≤ 206) (ha : a < n) (h0 : Y.1 6 a = 0) : k_Te_make K 0 r (nI a) (-1) σ ∧ k_Mo_found K 0 (nI a) (-1) r 0 0 Y ∧ ∃ m n' σ' τ', f_Te_make K 0 r (nI a) (-1) σ = (nI m, σ') ∧ f_Mo_found K 0 (nI a) (-1) r 0 0 Y = (nI m, τ') ∧ m < n' ∧ n ≤ n' ∧ n' ≤ n + 1 ∧ RD n0 n' p b nd σ' τ' ∧ rwM n Y τ' ∧ fcR σ σ' ∧ fmR Y τ' ∧ ∀ c, 22 ≤ c → c ≤ 25 → τ'.1 c = Y.1 c := by
  have na : ¬ nI a = -1 := nI_ne_m1 (by omega)
  have hca : (nI a).toNatClampNeg = a := nI_clamp (by omega)
  have pa : ∀ f : Nat → Int32, pO f (nI a) = f a := fun f => by unfold pO; rw [if_neg na, hca]
  rcases hK with ⟨rfl, rfl⟩ | ⟨rfl, v, hv, rfl⟩
  · exact h.make (k := 7) (s := 0) (l := -1) (a := nI a) (c := -1) hn ⟨7, by omega, by decide +kernel⟩ (by decide) (by decide) ⟨0, by omega, by decide +kernel⟩ (Or.inr ⟨a, ha, rfl⟩) (Or.inl rfl) (fun z => absurd z na)
      (fun τ' r5 r6 r8 r9 r10 ag => by
        unfold kdW
        rw [r5, r6, r8, r9, r10]
        exact ⟨fun z => absurd z (by decide), fun z => absurd z (by decide), fun z => absurd z (by decide), fun z => absurd z (by decide), fun z => absurd z (by decide), fun z => absurd z (by decide), fun _ => ⟨na, rfl, rfl, rfl, by rw [pa, ag 6 (by omega) (by omega) a ha]; exact h0⟩, fun z => absurd z (by decide), fun z => absurd z (by decide), fun z => absurd z (by decide)⟩)
      (fun _ _ _ => ⟨fun z => absurd z (by decide), fun z => absurd z (by decide)⟩)
  · exact h.make (k := 10) (s := 0) (l := nI v) (a := nI a) (c := -1) hn ⟨10, by omega, by decide +kernel⟩ (by decide) (by rw [i_nI (by omega)]; omega) ⟨0, by omega, by decide +kernel⟩ (Or.inr ⟨a, ha, rfl⟩) (Or.inl rfl) (fun z => absurd z na)
      (fun τ' r5 r6 r8 r9 r10 ag => by
        unfold kdW
        rw [r5, r6, r8, r9, r10]
        exact ⟨fun z => absurd z (by decide), fun z => absurd z (by decide), fun z => absurd z (by decide), fun z => absurd z (by decide), fun z => absurd z (by decide), fun z => absurd z (by decide), fun z => absurd z (by decide), fun z => absurd z (by decide), fun z => absurd z (by decide), fun _ => ⟨na, rfl, by rw [i_nI (by omega)]; omega, by rw [i_nI (by omega)]; omega, rfl, by rw [pa, ag 6 (by omega) (by omega) a ha]; exact h0⟩⟩)
      (fun _ _ _ => ⟨fun z => absurd z (by decide), fun z => absurd z (by decide)⟩)
theorem CX.bnd {b1 : Nat} {E : Int32 × St} {KE : Prop} (hx : CX n0 n p b nd fuel kk σ0 τ0 n1 p1 b1 fuel1 kk1 σ X E KE) (h2 : 2 * n ≤ 2 * n0 + p) : n1 ≤ 206 := by
  have w1 := hx.2.1.1.1
  have w2 := hx.2.1.2.2.1.1
  have w3 := hx.2.1.2.2.2.1.1
  have w4 := hx.2.2.2.1
  omega
/-- a mark over one truth -/
theorem one_sim {K c r : Int32} (h : CX n0 n p b nd fuel kk σ0 τ0 n1 p1 (b + 1) fuel1 kk1 σ X (f_Mo_readAll_4 fuel1 (-1) (nI kk1) (f_Mo_blank X)) (k_Mo_blank X ∧ k_Mo_readAll_4 fuel1 (-1) (nI kk1) (f_Mo_blank X))) (IH : IHY n0 RF RK (b + 1)) (h2 : 2 * n ≤ 2 * n0 + p) (hk : kk ≤ p) (hf : fuel + kk = 1000)
    (hK : one2 K r) (hc : ∀ Z : St, k_Mo_signOf c Z ∧ f_Mo_signOf c Z = K) (hcc : c = 126 ∨ c = 33) (r22 : X.1 22 b = c) (r23 : X.1 23 b = 0) (r25 : X.1 25 b = r) :
    k_Rd_readOverTruth RF RK K r (nI (b + 1)) σ ∧ ROUT n0 n p b nd fuel kk σ0 τ0 (f_Rd_readOverTruth RF K r (nI (b + 1)) σ) := by
  have tk : ∀ Z : St, k_Mo_takesOne c Z ∧ ¬ f_Mo_takesOne c Z = 0 := fun Z => by
    rcases hcc with rfl | rfl
    · refine ⟨⟨fun _ => ⟨rfl, trivial⟩, fun z => absurd rfl z⟩, ?_⟩
      rw [f_Mo_takesOne, if_pos rfl]; exact (by decide : ¬ (1 : Int32) = 0)
    · refine ⟨⟨fun z => absurd z (by decide), fun _ => ⟨fun _ => ⟨rfl, trivial⟩, fun z => absurd rfl z⟩⟩, ?_⟩
      rw [f_Mo_takesOne, if_neg (by decide), if_pos rfl]; exact (by decide : ¬ (1 : Int32) = 0)
  obtain ⟨kp, hp⟩ := h.part IH h2 hk hf (by omega)
  have e0 : f_Rd_readOverTruth RF K r (nI (b + 1)) σ = f_Rd_readOverTruth_7 RF K r (f_Rd_readPart RF (nI (b + 1)) σ).1 (f_Rd_readPart RF (nI (b + 1)) σ).2 := rfl
  have K0 : k_Rd_readOverTruth_7 RF RK K r (f_Rd_readPart RF (nI (b + 1)) σ).1 (f_Rd_readPart RF (nI (b + 1)) σ).2 → k_Rd_readOverTruth RF RK K r (nI (b + 1)) σ := fun w => ⟨kp, w⟩
  rw [e0]
  rcases hp with ⟨a, n2, p2, fuel2, kk2, σ2, X2, f1, a1, a2, a3, C2, a4, a5, a6⟩ | ⟨σ2, f1, zs, fl⟩
  · have b2 := C2.bnd h2
    have x22 : X2.1 22 b = c := by rw [a5 22 (by omega) (by omega) b (by omega)]; exact r22
    have x23 : X2.1 23 b = 0 := by rw [a5 23 (by omega) (by omega) b (by omega)]; exact r23
    have x25 : X2.1 25 b = r := by rw [a5 25 (by omega) (by omega) b (by omega)]; exact r25
    obtain ⟨F3, C3⟩ := (C2.left (by omega) hk hf a3 x23 (by rw [x22]; exact (tk _).1)).2 (by rw [x22]; exact (tk _).2)
    obtain ⟨l1, l2, l3, l4, l5, l6, l7, l8⟩ := C2.2.1.pL (m := a)
    have v22 : (ptL a b X2).1 22 b = c := by rw [l5]; exact x22
    have v25 : (ptL a b X2).1 25 b = r := by rw [l8]; exact x25
    obtain ⟨s1, s2⟩ := C3.shut hk hf
    rw [f1] at K0 ⊢
    obtain ⟨kt1, kt2⟩ := truth_C C3.2.1.1.2.2.1 (by omega) a1
    have e40 : ∀ Z : St, f_Mo_closeBracket_40 c (nI a) r Z = f_Mo_closeBracket_146 (nI a) r K Z := fun Z => by
      rcases hcc with rfl | rfl
      · rw [f_Mo_closeBracket_40, if_neg (by decide), if_pos (by decide), f_Mo_closeBracket_140, (hc _).2]
      · rw [f_Mo_closeBracket_40, if_pos (by decide), f_Mo_closeBracket_140, (hc _).2]
    have k40 : ∀ Z : St, k_Mo_closeBracket_146 (nI a) r K Z → k_Mo_closeBracket_40 c (nI a) r Z := fun Z w => by
      have w2 : k_Mo_closeBracket_140 c (nI a) r Z := ⟨(hc _).1, by rw [(hc _).2]; exact w⟩
      rcases hcc with rfl | rfl
      · exact ⟨fun z => absurd z (by decide), fun _ => ⟨fun _ => w2, fun z => absurd (by decide) z⟩⟩
      · exact ⟨fun _ => w2, fun z => absurd (by decide) z⟩
    have e7 : f_Rd_readOverTruth_7 RF K r (nI a, σ2).1 (nI a, σ2).2 = if f_Te_isTruth (nI a) σ2 = 0 then (-1, σ2) else f_Rd_readOverTruth_25 RF K r (nI a) (f_Rd_take 41 σ2).1 (f_Rd_take 41 σ2).2 := rfl
    rw [e7]
    obtain ⟨kt, ht⟩ := C3.2.1.take 41 (by decide)
    have cy : ∀ c0, ¬ c0 = 0 → (clS p2 b (ptL a b X2)).1 c0 = (ptL a b X2).1 c0 := fun c0 q => by
      show pu (pu (pu (ptL a b X2).1 0 _) 0 _) 0 _ c0 = _
      rw [pu_at, if_neg q, pu_at, if_neg q, pu_at, if_neg q]
    by_cases h6 : (ptL a b X2).1 6 a = 0
    · have nt : ¬ f_Te_isTruth (nI a) σ2 = 0 := fun z => kt2.mp z h6
      rw [if_neg nt]
      have KK : k_Rd_readOverTruth_25 RF RK K r (nI a) (f_Rd_take 41 σ2).1 (f_Rd_take 41 σ2).2 → k_Rd_readOverTruth RF RK K r (nI (b + 1)) σ := fun w => K0 ⟨kt1, fun z => absurd z nt, fun _ => ⟨kt, w⟩⟩
      rcases ht with ⟨t1, t2, t3⟩ | ⟨t1, t3⟩
      · obtain ⟨hp4, RY, hY⟩ := s2 t1
        rw [v22, l7, v25] at hY
        have h6y : (clS p2 b (ptL a b X2)).1 6 a = 0 := by rw [cy 6 (by omega)]; exact h6
        obtain ⟨q1, q2⟩ := (one_close hK RY b2 a1).1 h6y
        obtain ⟨k1, k2, m, n', σ', τ', g1, g2, g3, g4, g5, g6, g7, g8, g9, g10⟩ := one_make hK RY.good b2 a1 h6y
        have e25 : f_Rd_readOverTruth_25 RF K r (nI a) (f_Rd_take 41 σ2).1 (f_Rd_take 41 σ2).2 = (nI m, σ') := by
          rw [t3]
          show f_Rd_readOverTruth_25 RF K r (nI a) 1 (sF σ2 20 3 (nI (p2 + 1))) = _
          rw [f_Rd_readOverTruth_25, if_neg (by decide), g1]; rfl
        rw [e25]
        refine ⟨KK ?_, ?_⟩
        · rw [t3]
          exact ⟨fun z => absurd z (show ¬ (1 : Int32) = 0 by decide), fun _ => ⟨k1, trivial⟩⟩
        · have mv := mvM.bad (clS p2 b (ptL a b X2)) 0
          exact (hY (nI m, τ') (by rw [e40, q1, g2]) (k40 _ (q2 k2))).2 m n' σ' rfl g3 g6 g4 g5 ((mv.rw _).tr g7 (Nat.le_refl _)) g8 (mv.fm.tr g9) (fun c0 w1 w2 => (g10 c0 w1 w2).trans (mv.1 c0 (by omega)))
      · have e25 : f_Rd_readOverTruth_25 RF K r (nI a) (f_Rd_take 41 σ2).1 (f_Rd_take 41 σ2).2 = (-1, σ2) := by
          rw [t3]
          show f_Rd_readOverTruth_25 RF K r (nI a) 0 σ2 = _
          rw [f_Rd_readOverTruth_25, if_pos rfl]; rfl
        rw [e25]
        refine ⟨KK ?_, s1 t1 _ rfl (C3.zs (mvC.rf σ2))⟩
        rw [t3]
        exact ⟨fun _ => trivial, fun z => absurd rfl z⟩
    · have nt : f_Te_isTruth (nI a) σ2 = 0 := kt2.mpr h6
      rw [if_pos nt]
      refine ⟨K0 ⟨kt1, fun _ => trivial, fun z => absurd nt z⟩, ?_⟩
      by_cases t1 : ltr (ptL a b X2) nd p2 = 41
      · obtain ⟨hp4, RY, hY⟩ := s2 t1
        rw [v22, l7, v25] at hY
        have h6y : ¬ (clS p2 b (ptL a b X2)).1 6 a = 0 := by rw [cy 6 (by omega)]; exact h6
        obtain ⟨q1, q2⟩ := (one_close hK RY b2 a1).2 h6y
        have mv := mvM.bad (clS p2 b (ptL a b X2)) 1
        exact (hY (0, sF (clS p2 b (ptL a b X2)) 0 33 1) (by rw [e40, q2]) (k40 _ q1)).1 rfl (mv.rw _) mv.fm _ rfl (C3.zs (mvC.rf σ2))
      · exact s1 t1 _ rfl (C3.zs (mvC.rf σ2))
  · rw [f1] at K0 ⊢
    obtain ⟨m1, m2, m3, m4⟩ : True ∧ True ∧ True ∧ True := ⟨trivial, trivial, trivial, trivial⟩
    have hz : f_Te_isTruth (-1) σ2 = 0 ∧ k_Te_isTruth (-1) σ2 := by
      have hs : f_Te_sortOf (-1) σ2 = -1 := by
        have : f_Te_has (-1) σ2 = 0 := by
          show (if (-1 : Int32) < 0 then (0 : Int32) else _) = 0
          rw [if_pos (by decide)]
        show (if f_Te_has (-1) σ2 = 0 then (-1 : Int32) else _) = _
        rw [if_pos this]
      have kh : k_Te_sortOf (-1) σ2 := ⟨k_has _ _, fun _ => trivial, fun z => absurd (show f_Te_has (-1) σ2 = 0 by show (if (-1 : Int32) < 0 then (0 : Int32) else _) = 0; rw [if_pos (by decide)]) z⟩
      refine ⟨?_, kh, fun _ => ⟨rfl, trivial⟩, fun _ => ⟨rfl, trivial⟩⟩
      show (if f_Te_sortOf (-1) σ2 = 0 then (1 : Int32) else 0) = 0
      rw [hs, if_neg (by decide)]
    have e7 : f_Rd_readOverTruth_7 RF K r (-1, σ2).1 (-1, σ2).2 = (-1, σ2) := by
      show f_Rd_readOverTruth_7 RF K r (-1) σ2 = _
      rw [f_Rd_readOverTruth_7, if_pos hz.1]; rfl
    rw [e7]
    exact ⟨K0 ⟨hz.2, fun _ => trivial, fun z => absurd hz.1 z⟩, fl _ rfl zs⟩
end ONE
