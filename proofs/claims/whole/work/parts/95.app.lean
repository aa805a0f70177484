-- reading: a symbol with its parts
section APP
variable {n0 n p b nd fuel kk n1 p1 fuel1 kk1 a i : Nat} {σ0 τ0 σ X Y : St} {RF : Int32 → St → Int32 × St} {RK : Int32 → St → Prop}
theorem ap_close {c r : Int32} (h : RD n0 n p b nd σ Y) (hn : n ≤ 206) (ha : a < n) (hr : r = -1 ∨ ∃ d, d < n ∧ r = nI d) (c97 : ¬ c < 97) (c108 : ¬ 108 < c) (ei : c - 97 = nI i) (hi : i < 12) :
    ((Y.1 6 a = Y.1 2 i ∧ (r = -1 ∨ Y.1 6 r.toNatClampNeg = Y.1 3 i)) → f_Mo_closeBracket_40 c (nI a) r Y = f_Mo_found 0 (Y.1 1 i) (nI a) r (nI i) 0 0 (sF Y 0 33 0) ∧ (k_Mo_found 0 (Y.1 1 i) (nI a) r (nI i) 0 0 (sF Y 0 33 0) → k_Mo_closeBracket_40 c (nI a) r Y)) ∧
    (¬ (Y.1 6 a = Y.1 2 i ∧ (r = -1 ∨ Y.1 6 r.toNatClampNeg = Y.1 3 i)) → k_Mo_closeBracket_40 c (nI a) r Y ∧ f_Mo_closeBracket_40 c (nI a) r Y = (0, sF Y 0 33 1)) := by
  have h33 := h.2.2.2.2.1
  have hca : (nI a).toNatClampNeg = a := nI_clamp (by omega)
  have hci : (nI i).toNatClampNeg = i := nI_clamp (by omega)
  have hia : vp_in (nI a) 400 := by rw [in_iff, i_nI (by omega)]; omega
  have hii : vp_in (nI i) 12 := by rw [in_iff, i_nI (by omega)]; omega
  have n1 : ¬ (sF Y 0 33 1).1 0 33 = 0 := show ¬ (1 : Int32) = 0 by decide
  have z0 : (sF Y 0 33 0).1 0 33 = 0 := rfl
  have rneg : r < 0 ↔ r = -1 := by
    rcases hr with rfl | ⟨d, hd, rfl⟩
    · exact ⟨fun _ => rfl, fun _ => by decide⟩
    · exact ⟨fun z => absurd z (nI_pos (by omega)), fun z => absurd z (nI_ne_m1 (by omega))⟩
  have hir : ¬ r < 0 → vp_in r 400 := fun z => by
    rcases hr with rfl | ⟨d, hd, rfl⟩
    · exact absurd (by decide) z
    · rw [in_iff, i_nI (by omega)]; omega
  have e102 : f_Mo_closeBracket_102 (nI a) r (nI i) Y = (0, sF Y 0 33 1) := by
    show f_Mo_closeBracket_110 (nI a) r (nI i) (sF Y 0 33 1) = _
    rw [f_Mo_closeBracket_110, if_neg n1]; rfl
  have k102 : k_Mo_closeBracket_102 (nI a) r (nI i) Y := ⟨⟨rfl, rfl⟩, fun z => absurd z n1, fun _ => trivial⟩
  have e106 : f_Mo_closeBracket_106 (nI a) r (nI i) Y = f_Mo_found 0 (Y.1 1 i) (nI a) r (nI i) 0 0 (sF Y 0 33 0) := by
    show f_Mo_closeBracket_110 (nI a) r (nI i) (sF Y 0 33 0) = _
    rw [f_Mo_closeBracket_110, if_pos z0]
    show ((f_Mo_found 0 (Y.1 1 (nI i).toNatClampNeg) (nI a) r (nI i) 0 0 (sF Y 0 33 0)).1, (f_Mo_found 0 (Y.1 1 (nI i).toNatClampNeg) (nI a) r (nI i) 0 0 (sF Y 0 33 0)).2) = _
    rw [hci]
  have k106 : k_Mo_found 0 (Y.1 1 i) (nI a) r (nI i) 0 0 (sF Y 0 33 0) → k_Mo_closeBracket_106 (nI a) r (nI i) Y := fun w => by
    refine ⟨⟨rfl, rfl⟩, fun _ => ⟨hii, ?_, trivial⟩, fun z => absurd z0 z⟩
    show k_Mo_found 0 (Y.1 1 (nI i).toNatClampNeg) (nI a) r (nI i) 0 0 (sF Y 0 33 0)
    rw [hci]; exact w
  have e40 : f_Mo_closeBracket_40 c (nI a) r Y = if Y.1 6 a = Y.1 2 i then (if r = -1 then f_Mo_found 0 (Y.1 1 i) (nI a) r (nI i) 0 0 (sF Y 0 33 0) else (if Y.1 6 r.toNatClampNeg = Y.1 3 i then f_Mo_found 0 (Y.1 1 i) (nI a) r (nI i) 0 0 (sF Y 0 33 0) else (0, sF Y 0 33 1))) else (0, sF Y 0 33 1) := by
    rw [f_Mo_closeBracket_40, if_neg c97, if_neg c108, ei, f_Mo_closeBracket_58, if_pos h33, hca, hci, e102, e106]
    by_cases z : r = -1
    · rw [if_pos (rneg.mpr z), if_pos z]
    · rw [if_neg (fun w => z (rneg.mp w)), if_neg z]
  have k40 : ((Y.1 6 a = Y.1 2 i ∧ (r = -1 ∨ Y.1 6 r.toNatClampNeg = Y.1 3 i)) → k_Mo_found 0 (Y.1 1 i) (nI a) r (nI i) 0 0 (sF Y 0 33 0)) → k_Mo_closeBracket_40 c (nI a) r Y := fun w => by
    refine ⟨fun z => absurd z c97, fun _ => ⟨fun z => absurd z c108, fun _ => ?_⟩⟩
    rw [ei]
    refine ⟨fun _ => ⟨hia, hii, ?_⟩, fun z => absurd h33 z⟩
    rw [hca, hci]
    exact ⟨fun z1 => ⟨fun z2 => k106 (w ⟨z1, Or.inl (rneg.mp z2)⟩), fun z2 => ⟨hir z2, hii, fun z3 => k106 (w ⟨z1, Or.inr z3⟩), fun _ => k102⟩⟩, fun _ => k102⟩
  refine ⟨fun z => ⟨?_, fun w => k40 (fun _ => w)⟩, fun z => ⟨k40 (fun w => absurd w z), ?_⟩⟩
  · rw [e40, if_pos z.1]
    rcases z.2 with w | w
    · rw [if_pos w]
    · rw [if_pos w, ite_self]
  · rw [e40]
    by_cases z1 : Y.1 6 a = Y.1 2 i
    · rw [if_pos z1, if_neg (fun w => z ⟨z1, Or.inl w⟩), if_neg (fun w => z ⟨z1, Or.inr w⟩)]
    · rw [if_neg z1]
theorem ap_make {r : Int32} {ny : Nat} (h : RD n0 n p b nd σ Y) (hn : n ≤ 206) (ha : a < n) (hr : r = -1 ∨ ∃ d, d < n ∧ r = nI d) (hi : i < ny) (hny : ny ≤ 12) (hy : Y.1 0 3 = nI ny) (hw : sgW 5 (Y.1 1 i) (Y.1 2 i) (Y.1 3 i)) (h2 : ¬ Y.1 2 i = -1) (h3 : r = -1 ↔ Y.1 3 i = -1) :
    k_Te_make 0 (Y.1 1 i) (nI i) (nI a) r σ ∧ k_Mo_found 0 (Y.1 1 i) (nI a) r (nI i) 0 0 Y ∧ ∃ m n' σ' τ', f_Te_make 0 (Y.1 1 i) (nI i) (nI a) r σ = (nI m, σ') ∧ f_Mo_found 0 (Y.1 1 i) (nI a) r (nI i) 0 0 Y = (nI m, τ') ∧ m < n' ∧ n ≤ n' ∧ n' ≤ n + 1 ∧ RD n0 n' p b nd σ' τ' ∧ rwM n Y τ' ∧ fcR σ σ' ∧ fmR Y τ' ∧ ∀ c, 22 ≤ c → c ≤ 25 → τ'.1 c = Y.1 c := by
  have na : ¬ nI a = -1 := nI_ne_m1 (by omega)
  have hr2 : tmO r n := by
    rcases hr with rfl | ⟨d, hd, rfl⟩
    · exact Or.inl rfl
    · exact Or.inr ⟨d, hd, rfl⟩
  exact h.make (k := 0) (s := Y.1 1 i) (l := nI i) (a := nI a) (c := r) hn ⟨0, by omega, by decide +kernel⟩ (by decide) (by rw [i_nI (by omega)]; omega) hw.1 (Or.inr ⟨a, ha, rfl⟩) hr2 (fun z => absurd z na)
    (fun τ' r5 r6 r8 r9 r10 ag => by
      unfold kdW
      rw [r5, r6, r8, r9, r10]
      exact ⟨fun _ => by rw [i_nI (by omega)]; omega, fun z => absurd z (by decide), fun z => absurd z (by decide), fun z => absurd z (by decide), fun z => absurd z (by decide), fun z => absurd z (by decide), fun z => absurd z (by decide), fun z => absurd z (by decide), fun z => absurd z (by decide), fun z => absurd z (by decide)⟩)
    (fun ny' e' q' => by
      have : ny' = ny := by rw [hy] at e'; exact ((nI_inj (by omega) (by omega)).mp e').symm
      exact ⟨fun _ => ⟨i, by omega, rfl, ⟨fun z => absurd z na, fun z => absurd z h2⟩, h3, rfl⟩, fun z => absurd z (by decide)⟩)
/-- none has no sort -/
theorem none_C (σ : St) : f_Te_sortOf (-1) σ = -1 ∧ k_Te_sortOf (-1) σ := by
  have e : f_Te_has (-1) σ = 0 := by
    show (if (-1 : Int32) < 0 then (0 : Int32) else _) = 0
    rw [if_pos (by decide)]
  refine ⟨?_, k_has _ _, fun _ => trivial, fun z => absurd e z⟩
  show (if f_Te_has (-1) σ = 0 then (-1 : Int32) else _) = _
  rw [if_pos e]
/-- the end of a symbol's bracket, where the first part is of its sort -/
theorem ap_fin {c r : Int32} {ny F : Nat} (C : CX n0 n p b nd fuel kk σ0 τ0 n1 p1 (b + 1) (F + 1) kk1 σ X (f_Mo_readAll_126 (f_Mo_readAll_4 F) (nI kk1) X) (k_Mo_readAll_126 (k_Mo_readAll_4 F) (nI kk1) X)) (h2 : 2 * n ≤ 2 * n0 + p) (hk : kk ≤ p) (hf : fuel + kk = 1000) (c97 : ¬ c < 97) (c108 : ¬ 108 < c) (ei : c - 97 = nI i)
    (hi : i < ny) (hny : ny ≤ 12) (hy : X.1 0 3 = nI ny) (hw : sgW 5 (X.1 1 i) (X.1 2 i) (X.1 3 i)) (w2 : ¬ X.1 2 i = -1) (w3 : r = -1 ↔ X.1 3 i = -1) (ha : a < n1) (hr : r = -1 ∨ ∃ d, d < n1 ∧ r = nI d) (r22 : X.1 22 b = c) (r24 : X.1 24 b = nI a) (r25 : X.1 25 b = r) :
    (X.1 6 a = X.1 2 i → k_Rd_readApplied_65 RF RK (nI i) (X.1 3 i) (nI a) r σ ∧ ROUT n0 n p b nd fuel kk σ0 τ0 (f_Rd_readApplied_65 RF (nI i) (X.1 3 i) (nI a) r σ)) ∧ (¬ X.1 6 a = X.1 2 i → ∀ z : Int32 × St, z.1 = -1 → ZS n0 σ0 τ0 z.2 → ROUT n0 n p b nd fuel kk σ0 τ0 z) := by
  have b1 := C.bnd h2
  obtain ⟨s1, s2⟩ := C.shut hk hf
  rw [r22, r24, r25] at s2
  obtain ⟨kt, ht⟩ := C.2.1.take 41 (by decide)
  have cy : ∀ c0, ¬ c0 = 0 → (clS p1 b X).1 c0 = X.1 c0 := fun c0 q => by
    show pu (pu (pu X.1 0 _) 0 _) 0 _ c0 = _
    rw [pu_at, if_neg q, pu_at, if_neg q, pu_at, if_neg q]
  have cy3 : (clS p1 b X).1 0 3 = X.1 0 3 := rfl
  -- where the close fails
  have badc : ltr X nd p1 = 41 → ¬ (X.1 6 a = X.1 2 i ∧ (r = -1 ∨ X.1 6 r.toNatClampNeg = X.1 3 i)) → ∀ z : Int32 × St, z.1 = -1 → ZS n0 σ0 τ0 z.2 → ROUT n0 n p b nd fuel kk σ0 τ0 z := fun t1 hb z z1 z2 => by
    obtain ⟨hp4, RY, hY⟩ := s2 t1
    obtain ⟨q1, q2⟩ := (ap_close RY b1 ha hr c97 c108 ei (by omega)).2 (by rw [cy 6 (by omega), cy 2 (by omega), cy 3 (by omega)]; exact hb)
    have mv := mvM.bad (clS p1 b X) 1
    exact (hY (0, sF (clS p1 b X) 0 33 1) q2 q1).1 rfl (mv.rw _) mv.fm z z1 z2
  refine ⟨fun h6 => ?_, fun h6 z z1 z2 => ?_⟩
  · -- the second part's sort
    have hsr : k_Te_sortOf r σ ∧ (f_Te_sortOf r σ = X.1 3 i ↔ (r = -1 ∨ X.1 6 r.toNatClampNeg = X.1 3 i)) := by
      rcases hr with rfl | ⟨d, hd, rfl⟩
      · obtain ⟨e1, e2⟩ := none_C σ
        exact ⟨e2, ⟨fun _ => Or.inl rfl, fun _ => by rw [e1]; exact (w3.mp rfl).symm⟩⟩
      · obtain ⟨⟨-, e1⟩, -, e2⟩ := C.2.1.acc b1 hd
        have hcd : (nI d).toNatClampNeg = d := nI_clamp (by omega)
        rw [e1, hcd]
        exact ⟨e2, ⟨fun z => Or.inr z, fun z => z.resolve_left (nI_ne_m1 (by omega))⟩⟩
    have e65 : f_Rd_readApplied_65 RF (nI i) (X.1 3 i) (nI a) r σ = if f_Te_sortOf r σ = X.1 3 i then f_Rd_readApplied_85 RF (nI i) (nI a) r (f_Rd_take 41 σ).1 (f_Rd_take 41 σ).2 else (-1, σ) := rfl
    have K65 : (f_Te_sortOf r σ = X.1 3 i → k_Rd_readApplied_85 RF RK (nI i) (nI a) r (f_Rd_take 41 σ).1 (f_Rd_take 41 σ).2) → k_Rd_readApplied_65 RF RK (nI i) (X.1 3 i) (nI a) r σ := fun w => ⟨hsr.1, fun z => ⟨kt, w z⟩, fun _ => trivial⟩
    rw [e65]
    by_cases hs : f_Te_sortOf r σ = X.1 3 i
    · rw [if_pos hs]
      rcases ht with ⟨t1, t2, t3⟩ | ⟨t1, t3⟩
      · obtain ⟨hp4, RY, hY⟩ := s2 t1
        have hg : (clS p1 b X).1 6 a = (clS p1 b X).1 2 i ∧ (r = -1 ∨ (clS p1 b X).1 6 r.toNatClampNeg = (clS p1 b X).1 3 i) := by
          rw [cy 6 (by omega), cy 2 (by omega), cy 3 (by omega)]; exact ⟨h6, hsr.2.mp hs⟩
        obtain ⟨q1, q2⟩ := (ap_close RY b1 ha hr c97 c108 ei (by omega)).1 hg
        obtain ⟨k1, k2, m, n', σ', τ', g1, g2, g3, g4, g5, g6, g7, g8, g9, g10⟩ := ap_make (i := i) RY.good b1 ha hr hi hny hy (by
          show sgW 5 ((clS p1 b X).1 1 i) ((clS p1 b X).1 2 i) ((clS p1 b X).1 3 i)
          rw [cy 1 (by omega), cy 2 (by omega), cy 3 (by omega)]; exact hw) (by
          show ¬ (clS p1 b X).1 2 i = -1
          rw [cy 2 (by omega)]; exact w2) (by
          show r = -1 ↔ (clS p1 b X).1 3 i = -1
          rw [cy 3 (by omega)]; exact w3)
        have es1 : (sF (clS p1 b X) 0 33 0).1 1 i = X.1 1 i := by
          show (clS p1 b X).1 1 i = X.1 1 i
          rw [cy 1 (by omega)]
        obtain ⟨⟨ny', y1, y2, y3, y4, y5⟩, -, ks, -, -⟩ := sg_at (i := i) RY.2.1 (by omega)
        have ens : ny' = ny := by
          have y2 : X.1 0 3 = nI ny' := y2
          rw [hy] at y2; exact ((nI_inj (by omega) (by omega)).mp y2).symm
        have eS : f_Sg_sortOfSymbol (nI i) (sF σ 20 3 (nI (p1 + 1))) = X.1 1 i := (y5 (by omega)).2.1.trans (by rw [cy 1 (by omega)])
        rw [es1] at k1 k2 g1 g2
        rw [cy 1 (by omega)] at q1 q2
        have e85 : f_Rd_readApplied_85 RF (nI i) (nI a) r (f_Rd_take 41 σ).1 (f_Rd_take 41 σ).2 = (nI m, σ') := by
          rw [t3]
          show f_Rd_readApplied_85 RF (nI i) (nI a) r 1 (sF σ 20 3 (nI (p1 + 1))) = _
          rw [f_Rd_readApplied_85, if_neg (by decide), eS, g1]; rfl
        rw [e85]
        refine ⟨K65 (fun _ => ?_), ?_⟩
        · rw [t3]
          refine ⟨fun z => absurd z (show ¬ (1 : Int32) = 0 by decide), fun _ => ⟨ks, ?_, trivial⟩⟩
          rw [eS]; exact k1
        · have mv := mvM.bad (clS p1 b X) 0
          exact (hY (nI m, τ') (by rw [q1, g2]) (q2 k2)).2 m n' σ' rfl g3 g6 g4 g5 ((mv.rw _).tr g7 (Nat.le_refl _)) g8 (mv.fm.tr g9) (fun c0 w1 w2 => (g10 c0 w1 w2).trans (mv.1 c0 (by omega)))
      · have e85 : f_Rd_readApplied_85 RF (nI i) (nI a) r (f_Rd_take 41 σ).1 (f_Rd_take 41 σ).2 = (-1, σ) := by
          rw [t3]
          show f_Rd_readApplied_85 RF (nI i) (nI a) r 0 σ = _
          rw [f_Rd_readApplied_85, if_pos rfl]; rfl
        rw [e85]
        refine ⟨K65 (fun _ => ?_), s1 t1 _ rfl (C.zs (mvC.rf σ))⟩
        rw [t3]
        exact ⟨fun _ => trivial, fun z => absurd rfl z⟩
    · rw [if_neg hs]
      refine ⟨K65 (fun z => absurd z hs), ?_⟩
      by_cases t1 : ltr X nd p1 = 41
      · exact badc t1 (fun w => hs (hsr.2.mpr w.2)) _ rfl (C.zs (mvC.rf σ))
      · exact s1 t1 _ rfl (C.zs (mvC.rf σ))
  · by_cases t1 : ltr X nd p1 = 41
    · exact badc t1 (fun w => h6 w.1) z z1 z2
    · exact s1 t1 z z1 z2
theorem app_sim {c : Int32} {ny : Nat} (h : CX n0 n p b nd fuel kk σ0 τ0 n1 p1 (b + 1) fuel1 kk1 σ X (f_Mo_readAll_4 fuel1 (-1) (nI kk1) (f_Mo_blank X)) (k_Mo_blank X ∧ k_Mo_readAll_4 fuel1 (-1) (nI kk1) (f_Mo_blank X))) (IH : IHY n0 RF RK (b + 1)) (h2 : 2 * n ≤ 2 * n0 + p) (hk : kk ≤ p) (hf : fuel + kk = 1000)
    (c97 : ¬ c < 97) (c108 : ¬ 108 < c) (ei : c - 97 = nI i) (hi : i < ny) (hny : ny ≤ 12) (hy : X.1 0 3 = nI ny) (w2 : ¬ X.1 2 i = -1) (r22 : X.1 22 b = c) (r23 : X.1 23 b = 0) (r25 : X.1 25 b = -1) :
    k_Rd_readApplied RF RK (nI i) (nI (b + 1)) σ ∧ ROUT n0 n p b nd fuel kk σ0 τ0 (f_Rd_readApplied RF (nI i) (nI (b + 1)) σ) := by
  obtain ⟨⟨ny', y1, y2, y3, y4, y5⟩, k0, k1, k2, k3⟩ := sg_at (i := i) h.2.1.2.1 (by omega)
  have ens : ny' = ny := by rw [hy] at y2; exact ((nI_inj (by omega) (by omega)).mp y2).symm
  obtain ⟨-, -, eF, eS, hw⟩ := y5 (by omega)
  obtain ⟨sn1, sn2⟩ := sg_neg hw (Nat.le_refl 5)
  have c126 : ¬ c = 126 := fun z => c108 (by rw [z]; decide)
  have c33 : ¬ c = 33 := fun z => c97 (by rw [z]; decide)
  have hci : (nI i).toNatClampNeg = i := nI_clamp (by omega)
  have hii : vp_in (nI i) 12 := by rw [in_iff, i_nI (by omega)]; omega
  have s3p : (0 ≤ X.1 3 i) ↔ ¬ X.1 3 i = -1 := by
    rw [← sn2, Int32.le_iff_toInt_le, Int32.lt_iff_toInt_lt]; omega
  have tk : ∀ Z : St, Z.1 3 = X.1 3 → k_Mo_takesOne c Z ∧ (f_Mo_takesOne c Z = 0 ↔ ¬ X.1 3 i = -1) := fun Z hZ => by
    refine ⟨⟨fun z => absurd z c126, fun _ => ⟨fun z => absurd z c33, fun _ => ⟨fun z => absurd z c97, fun _ => ⟨fun z => absurd z c108, fun _ => ⟨by rw [ei]; exact hii, fun _ => ⟨rfl, trivial⟩, fun _ => ⟨rfl, trivial⟩⟩⟩⟩⟩⟩, ?_⟩
    rw [f_Mo_takesOne, if_neg c126, if_neg c33, if_neg c97, if_neg c108, ei, hci, hZ]
    by_cases z : 0 ≤ X.1 3 i
    · rw [if_pos z]; exact ⟨fun _ => s3p.mp z, fun _ => rfl⟩
    · rw [if_neg z]; exact ⟨fun w => absurd w (by decide : ¬ (1 : Int32) = 0), fun w => absurd (s3p.mpr w) z⟩
  obtain ⟨kp, hp⟩ := h.part IH h2 hk hf (by omega)
  have e0 : f_Rd_readApplied RF (nI i) (nI (b + 1)) σ = f_Rd_readApplied_33 RF (nI i) (nI (b + 1)) (X.1 2 i) (X.1 3 i) (f_Rd_readPart RF (nI (b + 1)) σ).1 (f_Rd_readPart RF (nI (b + 1)) σ).2 := by
    show f_Rd_readApplied_19 RF (nI i) (nI (b + 1)) (f_Sg_firstOfSymbol (nI i) σ) (f_Sg_secondOfSymbol (nI i) σ) σ = _
    rw [eF, eS, f_Rd_readApplied_19, if_neg w2]; rfl
  have K0 : k_Rd_readApplied_33 RF RK (nI i) (nI (b + 1)) (X.1 2 i) (X.1 3 i) (f_Rd_readPart RF (nI (b + 1)) σ).1 (f_Rd_readPart RF (nI (b + 1)) σ).2 → k_Rd_readApplied RF RK (nI i) (nI (b + 1)) σ := fun w => by
    refine ⟨k2, k3, ?_⟩
    rw [eF, eS]
    exact ⟨fun z => absurd z w2, fun _ => ⟨kp, w⟩⟩
  rw [e0]
  rcases hp with ⟨a, n2, p2, fuel2, kk2, σ2, X2, f1, a1, a2, a3, C2, a4, a5, a6⟩ | ⟨σ2, f1, zs, fl⟩
  · have b2 := C2.bnd h2
    have x22 : X2.1 22 b = c := by rw [a5 22 (by omega) (by omega) b (by omega)]; exact r22
    have x23 : X2.1 23 b = 0 := by rw [a5 23 (by omega) (by omega) b (by omega)]; exact r23
    have x25 : X2.1 25 b = -1 := by rw [a5 25 (by omega) (by omega) b (by omega)]; exact r25
    have m1 : X2.1 1 = X.1 1 := a6.1 1 (by omega)
    have m2 : X2.1 2 = X.1 2 := a6.1 2 (by omega)
    have m3 : X2.1 3 = X.1 3 := a6.1 3 (by omega)
    have m03 : X2.1 0 3 = nI ny := (a6.2.1 3 (by omega) (by omega) (by omega) (by omega)).trans hy
    obtain ⟨l1, l2, l3, l4, l5, l6, l7, l8⟩ := C2.2.1.pL (m := a)
    have p1' : (ptL a b X2).1 1 = X.1 1 := (l2.1 1 (by omega)).trans m1
    have p2' : (ptL a b X2).1 2 = X.1 2 := (l2.1 2 (by omega)).trans m2
    have p3' : (ptL a b X2).1 3 = X.1 3 := (l2.1 3 (by omega)).trans m3
    have p03 : (ptL a b X2).1 0 3 = nI ny := (l2.2.1 3 (by omega) (by omega) (by omega) (by omega)).trans m03
    obtain ⟨tk1, tk2⟩ := tk (ptL a b X2) p3'
    have L0 := C2.left (m := a) (by omega) hk hf a3 x23 (by rw [x22]; exact tk1)
    rw [x22] at L0
    obtain ⟨⟨-, es⟩, -, ks⟩ := l1.acc b2 a1
    rw [f1] at K0 ⊢
    have e33 : f_Rd_readApplied_33 RF (nI i) (nI (b + 1)) (X.1 2 i) (X.1 3 i) (nI a, σ2).1 (nI a, σ2).2 = if (ptL a b X2).1 6 a = X.1 2 i then (if X.1 3 i = -1 then f_Rd_readApplied_65 RF (nI i) (X.1 3 i) (nI a) (-1) σ2 else f_Rd_readApplied_65 RF (nI i) (X.1 3 i) (nI a) (f_Rd_readPart RF (nI (b + 1)) σ2).1 (f_Rd_readPart RF (nI (b + 1)) σ2).2) else (-1, σ2) := by
      show f_Rd_readApplied_33 RF (nI i) (nI (b + 1)) (X.1 2 i) (X.1 3 i) (nI a) σ2 = _
      rw [f_Rd_readApplied_33, es]; rfl
    have K33 : ((ptL a b X2).1 6 a = X.1 2 i → (X.1 3 i = -1 → k_Rd_readApplied_65 RF RK (nI i) (X.1 3 i) (nI a) (-1) σ2) ∧ (¬ X.1 3 i = -1 → k_Rd_readPart RF RK (nI (b + 1)) σ2 ∧ k_Rd_readApplied_65 RF RK (nI i) (X.1 3 i) (nI a) (f_Rd_readPart RF (nI (b + 1)) σ2).1 (f_Rd_readPart RF (nI (b + 1)) σ2).2)) → k_Rd_readApplied RF RK (nI i) (nI (b + 1)) σ := fun w => K0 (by
      refine ⟨ks, fun z => ?_, fun _ => trivial⟩
      rw [es] at z
      exact ⟨(w z).1, (w z).2⟩)
    rw [e33]
    by_cases h3 : X.1 3 i = -1
    · -- one part
      obtain ⟨F3, C3⟩ := L0.2 (fun z => tk2.mp z h3)
      have fin := ap_fin (RF := RF) (RK := RK) (a := a) (r := -1) C3 h2 hk hf c97 c108 ei hi hny p03 (by rw [p1', p2', p3']; exact hw) (by rw [p2']; exact w2) (by rw [p3']; exact ⟨fun _ => h3, fun _ => rfl⟩) a1 (Or.inl rfl) (by rw [l5]; exact x22) l7 (by rw [l8]; exact x25)
      rw [p2', p3'] at fin
      by_cases h6 : (ptL a b X2).1 6 a = X.1 2 i
      · obtain ⟨g1, g2⟩ := fin.1 h6
        rw [if_pos h6, if_pos h3]
        exact ⟨K33 (fun _ => ⟨fun _ => g1, fun z => absurd h3 z⟩), g2⟩
      · rw [if_neg h6]
        exact ⟨K33 (fun z => absurd z h6), fin.2 h6 _ rfl (C3.zs (mvC.rf σ2))⟩
    · -- two parts
      obtain ⟨F3, C3⟩ := L0.1 (tk2.mpr h3)
      obtain ⟨kp2, hp2⟩ := C3.part IH h2 hk hf (by omega)
      rcases hp2 with ⟨d, n4, p4, fuel4, kk4, σ4, X4, f2, d1, d2, d3, C4, d4, d5, d6⟩ | ⟨σ4, f2, zs, fl⟩
      · have b4 := C4.bnd h2
        have y23 : X4.1 23 b = 1 := by rw [d5 23 (by omega) (by omega) b (by omega)]; exact l6
        have y24 : X4.1 24 b = nI a := by rw [d5 24 (by omega) (by omega) b (by omega)]; exact l7
        have y22 : X4.1 22 b = c := by rw [d5 22 (by omega) (by omega) b (by omega), l5]; exact x22
        obtain ⟨F5, C5⟩ := C4.right (by omega) hk hf y23
        obtain ⟨r1, r2, r3, r4, r5, r6, r7, r8⟩ := C4.2.1.pR (m := d)
        have v1 : (ptR d b X4).1 1 = X.1 1 := ((r2.1 1 (by omega)).trans (d6.1 1 (by omega))).trans p1'
        have v2 : (ptR d b X4).1 2 = X.1 2 := ((r2.1 2 (by omega)).trans (d6.1 2 (by omega))).trans p2'
        have v3 : (ptR d b X4).1 3 = X.1 3 := ((r2.1 3 (by omega)).trans (d6.1 3 (by omega))).trans p3'
        have v03 : (ptR d b X4).1 0 3 = nI ny := ((r2.2.1 3 (by omega) (by omega) (by omega) (by omega)).trans (d6.2.1 3 (by omega) (by omega) (by omega) (by omega))).trans p03
        have v6 : (ptR d b X4).1 6 a = (ptL a b X2).1 6 a := (r4 n4 6 (by omega) (by omega) a (by omega)).trans (d4 6 (by omega) (by omega) a (by omega))
        have fin := ap_fin (RF := RF) (RK := RK) (a := a) (r := nI d) C5 h2 hk hf c97 c108 ei hi hny v03 (by rw [v1, v2, v3]; exact hw) (by rw [v2]; exact w2) (by rw [v3]; exact ⟨fun z => absurd z (nI_ne_m1 (by omega)), fun z => absurd z h3⟩) (by omega) (Or.inr ⟨d, d1, rfl⟩) (by rw [r5]; exact y22) (by rw [r7]; exact y24) r8
        rw [v2, v3, v6] at fin
        by_cases h6 : (ptL a b X2).1 6 a = X.1 2 i
        · obtain ⟨g1, g2⟩ := fin.1 h6
          rw [if_pos h6, if_neg h3, f2]
          refine ⟨K33 (fun _ => ⟨fun z => absurd z h3, fun _ => ⟨kp2, ?_⟩⟩), g2⟩
          rw [f2]; exact g1
        · rw [if_neg h6]
          exact ⟨K33 (fun z => absurd z h6), fin.2 h6 _ rfl (C3.zs (mvC.rf σ2))⟩
      · by_cases h6 : (ptL a b X2).1 6 a = X.1 2 i
        · rw [if_pos h6, if_neg h3, f2]
          obtain ⟨n1', n2'⟩ := none_C σ4
          have ne : ¬ f_Te_sortOf (-1) σ4 = X.1 3 i := fun z => h3 (z.symm.trans n1')
          have e65 : f_Rd_readApplied_65 RF (nI i) (X.1 3 i) (nI a) (-1, σ4).1 (-1, σ4).2 = (-1, σ4) := by
            show f_Rd_readApplied_65 RF (nI i) (X.1 3 i) (nI a) (-1) σ4 = _
            rw [f_Rd_readApplied_65, if_neg ne]; rfl
          rw [e65]
          refine ⟨K33 (fun _ => ⟨fun z => absurd z h3, fun _ => ⟨kp2, ?_⟩⟩), fl _ rfl zs⟩
          rw [f2]
          exact ⟨n2', fun z => absurd z ne, fun _ => trivial⟩
        · rw [if_neg h6]
          exact ⟨K33 (fun z => absurd z h6), fl _ rfl (C3.zs (mvC.rf σ2))⟩
  · rw [f1] at K0 ⊢
    obtain ⟨n1', n2'⟩ := none_C σ2
    have ne : ¬ f_Te_sortOf (-1) σ2 = X.1 2 i := fun z => w2 (z.symm.trans n1')
    have e33 : f_Rd_readApplied_33 RF (nI i) (nI (b + 1)) (X.1 2 i) (X.1 3 i) (-1, σ2).1 (-1, σ2).2 = (-1, σ2) := by
      show f_Rd_readApplied_33 RF (nI i) (nI (b + 1)) (X.1 2 i) (X.1 3 i) (-1) σ2 = _
      rw [f_Rd_readApplied_33, if_neg ne]
    rw [e33]
    exact ⟨K0 ⟨n2', fun z => absurd z ne, fun _ => trivial⟩, fl _ rfl zs⟩
end APP
