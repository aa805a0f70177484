-- term
section TRM
variable {n q c k f : Nat} {σ τ : St}
theorem RS.cong3 {σ' τ' : St} (h : RS n q c k f σ τ) (e1 : ∀ x, x < 6 ∨ 20 < x → σ'.1 x = σ.1 x) (e2 : ∀ x, (1 ≤ x ∧ x < 5) ∨ (14 ≤ x ∧ x < 20) → τ'.1 x = τ.1 x) (e3 : ∀ j, j = 1 ∨ j = 2 ∨ j = 3 ∨ j = 19 ∨ j = 24 ∨ j = 25 → τ'.1 0 j = τ.1 0 j) (h3 : rwM n τ τ') (hd : DF σ' τ') : RS n q c k f σ' τ' := by
  obtain ⟨hG, hF, hC, hP, hL⟩ := h
  refine ⟨hG.cong (fun c q1 q2 => e1 c (by omega)) (fun c q1 q2 => e2 c (by omega)) (fun j q1 q2 => e3 j (by omega)), hd, ?_, ?_, ?_⟩
  · unfold SC at hC ⊢
    rw [e1 27 (by omega), e1 28 (by omega), e1 29 (by omega), e1 30 (by omega), e2 18 (by omega), e2 19 (by omega), e3 24 (by omega), e3 25 (by omega)]
    exact hC
  · obtain ⟨p1, p2, p3, p4⟩ := hP
    refine ⟨p1, by rw [e1 31 (by omega)]; exact p2, by rw [e3 19 (by omega)]; exact p3, fun i hi => ?_⟩
    obtain ⟨r1, r2, r3, z, r4, r5, r6, r7, r8⟩ := p4 i hi
    rw [e1 32 (by omega), e1 33 (by omega), e1 34 (by omega), e1 35 (by omega), e2 14 (by omega), e2 15 (by omega), e2 16 (by omega), e2 17 (by omega)]
    refine ⟨r1, r2, r3, z, r4, r5, r6, r7, fun j hj => ?_⟩
    obtain ⟨s1, t, s2, s3, s4⟩ := r8 j hj
    exact ⟨s1, t, s2, s3, by rw [h3 6 (by omega) (by omega) t s2]; exact s4⟩
  · unfold FL at hL ⊢
    rw [e1 0 (by omega), e3 1 (by omega)]
    exact hL
theorem RS.mono {m : Nat} (h : RS n q c k f σ τ) (hm : n ≤ m) : RS m q c k f σ τ := by
  obtain ⟨hG, hF, hC, ⟨p1, p2, p3, p4⟩, hL⟩ := h
  refine ⟨hG, hF, hC, ⟨p1, p2, p3, fun i hi => ?_⟩, hL⟩
  obtain ⟨r1, r2, r3, z, r4, r5, r6, r7, r8⟩ := p4 i hi
  refine ⟨r1, r2, r3, z, r4, r5, r6, r7, fun j hj => ?_⟩
  obtain ⟨s1, t, s2, s3, s4⟩ := r8 j hj
  exact ⟨s1, t, by omega, s3, s4⟩
theorem op_term (h : IV n q c k f σ τ) : k_CL_term σ ∧ k_Mo_term τ ∧ RES n τ (f_CL_term σ) (f_Mo_term τ) cd_term al5 := by
  have hn := h.1
  by_cases hf : f < 60
  · obtain ⟨e1, e2⟩ := (op_shut h).1 hf
    obtain ⟨hT, hR, -, -⟩ := h.begin
    obtain ⟨nd, d1, d2, d3, d4⟩ := hR.2.1
    let σ1 : St := sF σ 20 3 0
    let τ1 : St := sF (sF (sF (bg τ) 0 32 0) 0 33 0) 0 34 0
    have hRD : RD n n 0 0 nd σ1 τ1 := ⟨hT, hR.1, ⟨d1, d2, d3, d4⟩, ⟨Nat.zero_le nd, by show (0 : Int32) = nI 0; rw [nI_0], by show (0 : Int32) = nI 0; rw [nI_0]⟩, rfl, by omega, by show (0 : Int32) = nI 0; rw [nI_0]⟩
    obtain ⟨kR, hO⟩ := rd_any n 20 0 (by omega) (by omega) n 0 nd 1000 0 σ1 τ1 hRD (by omega) (by omega) rfl
    rw [nI_0] at kR hO
    generalize hz : F_Rd_readAny 20 0 σ1 = z at hO
    have eRd : f_Rd_read σ = (if z.2.1 20 3 = z.2.1 18 1 then z.1 else -1, z.2) := by
      show (if (F_Rd_readAny 20 0 σ1).2.1 20 3 = (F_Rd_readAny 20 0 σ1).2.1 18 1 then ((F_Rd_readAny 20 0 σ1).1, (F_Rd_readAny 20 0 σ1).2) else ((-1 : Int32), (F_Rd_readAny 20 0 σ1).2)) = _
      rw [hz]
      by_cases w : z.2.1 20 3 = z.2.1 18 1
      · rw [if_pos w, if_pos w]
      · rw [if_neg w, if_neg w]
    have kRd : k_Rd_read σ := ⟨kR, trivial, fun _ => trivial, fun _ => trivial⟩
    have eC : f_CL_term σ = f_CL_term_24 (if z.2.1 20 3 = z.2.1 18 1 then z.1 else -1) (sF z.2 18 1 0) := by
      show (if f_CL_isShut σ = 0 then f_CL_term_24 (f_Rd_read σ).1 (sF (f_Rd_read σ).2 18 1 0) else _) = _
      rw [if_pos e1, eRd]
    have KC : k_CL_term_24 (if z.2.1 20 3 = z.2.1 18 1 then z.1 else -1) (sF z.2 18 1 0) → k_CL_term σ := fun w => by
      refine ⟨k_shut σ, fun _ => ⟨kRd, ?_⟩, fun _ => trivial⟩
      rw [eRd]
      exact ⟨trivial, w⟩
    have eM : f_Mo_term τ = f_Mo_term_34 (f_Mo_readAll_4 1000 (-1) 0 τ1).1 (sF (f_Mo_readAll_4 1000 (-1) 0 τ1).2 0 30 0) := by
      show f_Mo_term_4 (f_Mo_begin τ).1 (f_Mo_begin τ).2 = _
      rw [e2, f_Mo_term_4, if_pos (show (0, bg τ).1 = (0 : Int32) from rfl)]; rfl
    have KM : k_Mo_readAll_4 1000 (-1) 0 τ1 → k_Mo_term_34 (f_Mo_readAll_4 1000 (-1) 0 τ1).1 (sF (f_Mo_readAll_4 1000 (-1) 0 τ1).2 0 30 0) → k_Mo_term τ := fun w1 w2 => by
      refine ⟨k_begin τ, ?_⟩
      rw [e2]
      exact ⟨fun _ => ⟨w1, w2⟩, fun z => absurd rfl z⟩
    -- how the frames lie at the end
    have dfw : ∀ (z2 t2 : St), DF (sF z2 18 1 0) (sF t2 0 30 0) := fun z2 t2 => ⟨0, by omega, by show (0 : Int32) = nI 0; rw [nI_0], by show (0 : Int32) = nI 0; rw [nI_0], fun j hj => absurd hj (Nat.not_lt_zero j)⟩
    have RSE : ∀ (z2 t2 : St), fcR σ1 z2 → fmR τ1 t2 → rwM n τ1 t2 → RS n q c k f (sF z2 18 1 0) (sF t2 0 30 0) := fun z2 t2 w1 w2 w3 => by
      have x1 : ∀ x, x < 6 ∨ 20 < x → (sF z2 18 1 0).1 x = σ.1 x := fun x hx => by
        have y1 : (sF z2 18 1 0).1 x = z2.1 x := by
          show pu z2.1 18 _ x = _
          rw [pu_at, if_neg (by omega)]
        have y2 : σ1.1 x = σ.1 x := by
          show pu σ.1 20 _ x = _
          rw [pu_at, if_neg (by omega)]
        rw [y1, w1.1 x (by omega) (by omega), y2]
      have x2 : ∀ x, (1 ≤ x ∧ x < 5) ∨ (14 ≤ x ∧ x < 20) → (sF t2 0 30 0).1 x = (bg τ).1 x := fun x hx => by
        have y1 : (sF t2 0 30 0).1 x = t2.1 x := by
          show pu t2.1 0 _ x = _
          rw [pu_at, if_neg (by omega)]
        have y2 : τ1.1 x = (bg τ).1 x := by
          show pu (pu (pu (bg τ).1 0 _) 0 _) 0 _ x = _
          rw [pu_at, if_neg (by omega), pu_at, if_neg (by omega), pu_at, if_neg (by omega)]
        rw [y1, w2.1 x (by omega), y2]
      have x3 : ∀ j, j = 1 ∨ j = 2 ∨ j = 3 ∨ j = 19 ∨ j = 24 ∨ j = 25 → (sF t2 0 30 0).1 0 j = (bg τ).1 0 j := fun j hj => by
        have y1 : (sF t2 0 30 0).1 0 j = t2.1 0 j := by
          show pu (t2.1 0) 30 _ j = _
          rw [pu_at, if_neg (by omega)]
        have y2 : τ1.1 0 j = (bg τ).1 0 j := by
          show pu (pu (pu ((bg τ).1 0) 32 _) 33 _) 34 _ j = _
          rw [pu_at, if_neg (by omega), pu_at, if_neg (by omega), pu_at, if_neg (by omega)]
        rw [y1, w2.2.1 j (by omega) (by omega) (by omega) (by omega), y2]
      refine hR.cong3 x1 x2 x3 (fun x q1 q2 j hj => ?_) (dfw z2 t2)
      have y1 : (sF t2 0 30 0).1 x = t2.1 x := by
        show pu t2.1 0 _ x = _
        rw [pu_at, if_neg (by omega)]
      have y2 : τ1.1 x = (bg τ).1 x := by
        show pu (pu (pu (bg τ).1 0 _) 0 _) 0 _ x = _
        rw [pu_at, if_neg (by omega), pu_at, if_neg (by omega), pu_at, if_neg (by omega)]
      rw [y1, w3 x q1 q2 j hj, y2]
    have rwE : ∀ t2 : St, rwM n τ1 t2 → rwM n τ (sF t2 0 30 0) := fun t2 w3 x q1 q2 j hj => by
      have y1 : (sF t2 0 30 0).1 x = t2.1 x := by
        show pu t2.1 0 _ x = _
        rw [pu_at, if_neg (by omega)]
      have y2 : τ1.1 x = (bg τ).1 x := by
        show pu (pu (pu (bg τ).1 0 _) 0 _) 0 _ x = _
        rw [pu_at, if_neg (by omega), pu_at, if_neg (by omega), pu_at, if_neg (by omega)]
      rw [y1, w3 x q1 q2 j hj, y2]
      exact rw_bg n τ x q1 q2 j hj
    -- both refuse the form
    have refuse : ∀ (t2 : St) (x : Int32), fcR σ1 z.2 → RR n z.2 τ1 → k_Mo_readAll_4 1000 (-1) 0 τ1 → f_Mo_readAll_4 1000 (-1) 0 τ1 = (x, t2) → t2.1 0 33 = 1 → rwM n τ1 t2 → fmR τ1 t2 → (if z.2.1 20 3 = z.2.1 18 1 then z.1 else -1) = -1 → k_CL_term σ ∧ k_Mo_term τ ∧ RES n τ (f_CL_term σ) (f_Mo_term τ) cd_term al5 := fun t2 x w1 w2 w3 w4 w5 w6 w7 w8 => by
      have n33 : ¬ (sF t2 0 30 0).1 0 33 = 0 := by
        show ¬ t2.1 0 33 = 0
        rw [w5]; decide
      rw [eC, eM, w4, w8]
      refine ⟨KC (by rw [w8]; exact ⟨fun _ => ⟨kthr2 _, fun _ _ => trivial⟩, fun z => absurd rfl z⟩), KM w3 (by rw [w4]; exact ⟨fun z => absurd z n33, fun _ => ⟨(fs_2_1074 _).1, trivial⟩⟩), ?_⟩
      have eC2 : f_CL_term_24 (-1) (sF z.2 18 1 0) = (.inr 2, un (sF z.2 18 1 0)) := by
        rw [f_CL_term_24, if_pos rfl]; rfl
      have eM2 : f_Mo_term_34 (x, t2).1 (sF (x, t2).2 0 30 0) = (0, fl 1 (sF t2 0 30 0)) := by
        show f_Mo_term_34 x (sF t2 0 30 0) = _
        rw [f_Mo_term_34, if_neg n33, (fs_2_1074 _).2]; rfl
      rw [eC2, eM2]
      have hRR : RR n z.2 t2 := w2.cong2 (by omega) w6 (fun c0 q1 q2 => w7.1 c0 (by omega)) (w7.2.1 3 (by omega) (by omega) (by omega) (by omega))
      have hRR2 : RR n (sF z.2 18 1 0) (sF t2 0 30 0) := hRR
      have e9 : (sF t2 0 30 0).1 0 9 = nI n := by
        show t2.1 0 9 = nI n
        rw [w7.2.1 9 (by omega) (by omega) (by omega) (by omega)]
        exact hT.2.2.2.2.2.2.1
      exact hRR2.res hn (RSE z.2 t2 w1 w7 w6) e9 (fun t ht => by
        rw [rwE t2 w6 7 (by omega) (by omega) t ht]; exact h.2.2.2.2.2.2.1 t ht) (rwE t2 w6) hf rfl (by decide) (Or.inl rfl)
    rcases hO with ⟨m, n', p', kk', fuel', t1, g1, g2, g3, g4, g5, g6, g7, g8, g9, g10, g11, g12, g13, g14⟩ | ⟨g1, g2, g3, g4, x, t2, g5, g6, g7, g8⟩
    · -- a term was read
      rw [nI_0] at g9 g10
      have hp := g3.2.2.2.1.1
      have h120 := g3.2.2.1.1
      obtain ⟨fuel', rfl⟩ : ∃ k, fuel' = k + 1 := ⟨fuel' - 1, by omega⟩
      have e33 := g3.2.2.2.2.1
      have e34 : t1.1 0 34 = nI 0 := g3.2.2.2.2.2.2
      have nm : ¬ nI m < 0 := nI_pos (by omega)
      have z34 : t1.1 0 34 ≤ 0 := by rw [e34, nI_0]; decide
      have epos : z.2.1 20 3 = z.2.1 18 1 ↔ p' = nd := by
        rw [g3.2.2.2.1.2.1, g3.2.2.1.2.1]; exact nI_inj (by omega) (by omega)
      have eat : t1.1 0 32 = t1.1 0 30 ↔ p' = nd := by
        rw [g3.2.2.2.1.2.2, g3.2.2.1.2.2.1]; exact nI_inj (by omega) (by omega)
      have n4 := ne400 (kk := kk') (by omega)
      have eRA : f_Mo_readAll_4 1000 (-1) 0 τ1 = if p' = nd then (nI m, sF t1 0 33 0) else (nI m, sF t1 0 33 1) := by
        rw [g9]
        show (if (400 : Int32) ≤ nI kk' then _ else (if t1.1 0 33 = 0 then (if nI m < 0 then _ else (if t1.1 0 34 ≤ 0 then f_Mo_readAll_190 (nI m) t1 else _)) else _)) = _
        rw [if_neg n4, if_pos e33, if_neg nm, if_pos z34, f_Mo_readAll_190, if_pos e33, if_neg nm]
        by_cases w : p' = nd
        · rw [if_pos (eat.mpr w), if_pos w]; rfl
        · rw [if_neg (fun w2 => w (eat.mp w2)), if_neg w]; rfl
      have kRA : k_Mo_readAll_4 1000 (-1) 0 τ1 := g10 ⟨fun z => absurd z n4, fun _ => ⟨fun _ => ⟨fun z => absurd z nm, fun _ => ⟨fun _ => ⟨fun _ => ⟨fun z => absurd z nm, fun _ => ⟨fun _ => ⟨⟨rfl, rfl⟩, trivial⟩, fun _ => ⟨⟨rfl, rfl⟩, trivial⟩⟩⟩, fun z => absurd e33 z⟩, fun z => absurd z34 z⟩⟩, fun z => absurd e33 z⟩⟩
      by_cases hpd : p' = nd
      · rw [if_pos hpd] at eRA
        have mvg := mvM.bad t1 0
        have wF : fmR τ1 (sF t1 0 33 0) := g13.tr mvg.fm
        have wW : rwM n τ1 (sF t1 0 33 0) := g11.tr (mvg.rw n) (Nat.le_refl _)
        have ez : (if z.2.1 20 3 = z.2.1 18 1 then z.1 else -1) = nI m := by rw [if_pos (epos.mpr hpd), g1]
        have hT' : TT n n' (sF z.2 18 1 0) (sF (sF t1 0 33 0) 0 30 0) := g3.1
        have hR' := RSE z.2 (sF t1 0 33 0) g12 wF wW
        have hd' : ∀ t, t < n → (sF (sF t1 0 33 0) 0 30 0).1 7 t ≤ 12 := fun t ht => by
          rw [rwE _ wW 7 (by omega) (by omega) t ht]; exact h.2.2.2.2.2.2.1 t ht
        have nm1 : ¬ nI m = -1 := nI_ne_m1 (by omega)
        have w33 : (sF (sF t1 0 33 0) 0 30 0).1 0 33 = 0 := rfl
        have e8 : (sF (sF t1 0 33 0) 0 30 0).1 0 8 = nI n' := hT'.2.2.1.2.1
        have e11 : (sF z.2 18 1 0).1 6 11 = nI n' := hT'.2.2.1.1
        have m1 : ((sF z.2 18 1 0).1 6 11 ≤ 100) ↔ n' ≤ 100 := by rw [e11]; exact nI_le_iff (b := 100) (by omega) (by omega)
        have m2 : ((sF (sF t1 0 33 0) 0 30 0).1 0 8 ≤ 100) ↔ n' ≤ 100 := by rw [e8]; exact nI_le_iff (b := 100) (by omega) (by omega)
        obtain ⟨td1, td2, td3⟩ := td_eq (τ := sF (sF t1 0 33 0) 0 30 0) (n := n') (n0 := n) (by omega) g4 e8 hT'.2.2.2.2.2.2.1
        have code : (sF (sF t1 0 33 0) 0 30 0).1 0 0 = 0 := by
          show t1.1 0 0 = 0
          rw [g13.2.1 0 (by omega) (by omega) (by omega) (by omega)]; rfl
        have many0 : f_Te_tooMany (sF z.2 18 1 0) = 0 ↔ n' ≤ 100 := by
          show (if (sF z.2 18 1 0).1 6 11 ≤ 100 then (0 : Int32) else 1) = 0 ↔ _
          by_cases w : (sF z.2 18 1 0).1 6 11 ≤ 100
          · rw [if_pos w]; exact ⟨fun _ => m1.mp w, fun _ => rfl⟩
          · rw [if_neg w]; exact ⟨fun w2 => absurd w2 (by decide), fun w2 => absurd (m1.mpr w2) w⟩
        have kdp : k_Te_tooDeep (sF z.2 18 1 0) := by
          refine ⟨?_, trivial⟩
          rcases hT'.2.2.2.2.2.2.2 with ⟨w, -⟩ | ⟨w, -⟩ <;> rw [w] <;> rfl
        have kmy : k_Te_tooMany (sF z.2 18 1 0) := ⟨fun _ => ⟨rfl, trivial⟩, fun _ => ⟨rfl, trivial⟩⟩
        have eC2 : f_CL_term_24 (nI m) (sF z.2 18 1 0) = if (sF z.2 18 1 0).1 6 13 = 0 then (if f_Te_tooMany (sF z.2 18 1 0) = 0 then (.inl (nI m), f_Te_keep (sF z.2 18 1 0)) else (.inr 4, un (sF z.2 18 1 0))) else (.inr 3, un (sF z.2 18 1 0)) := by
          rw [f_CL_term_24, if_neg nm1]; rfl
        have eM2 : f_Mo_term_34 (nI m, sF t1 0 33 0).1 (sF (nI m, sF t1 0 33 0).2 0 30 0) = if f_Mo_tooDeep (sF (sF t1 0 33 0) 0 30 0) = 0 then (if n' ≤ 100 then (nI m, sF (sF t1 0 33 0) 0 30 0) else (0, fl 3 (sF (sF t1 0 33 0) 0 30 0))) else (0, fl 2 (sF (sF t1 0 33 0) 0 30 0)) := by
          show f_Mo_term_34 (nI m) (sF (sF t1 0 33 0) 0 30 0) = _
          rw [f_Mo_term_34, if_pos w33, (fs_3_1074 _).2, (fs_4_1074 _).2]
          by_cases w : n' ≤ 100
          · rw [if_pos (m2.mpr w), if_pos w]; rfl
          · rw [if_neg (fun w2 => w (m2.mp w2)), if_neg w]; rfl
        have kC2 : k_CL_term σ := KC (by
          rw [ez]
          exact ⟨fun z => absurd z nm1, fun _ => ⟨kdp, fun _ => ⟨kmy, fun _ => ⟨trivial, trivial⟩, fun _ => ⟨kthr4 _, fun _ _ => trivial⟩⟩, fun _ => ⟨kthr3 _, fun _ _ => trivial⟩⟩⟩)
        have kM2 : k_Mo_term τ := KM kRA (by
          rw [eRA]
          exact ⟨fun _ => ⟨td1, fun _ => ⟨fun _ => trivial, fun _ => ⟨(fs_4_1074 _).1, trivial⟩⟩, fun _ => ⟨(fs_3_1074 _).1, trivial⟩⟩, fun z => absurd w33 z⟩)
        refine ⟨kC2, kM2, ?_⟩
        rw [eC, eM, eRA, ez, eC2, eM2]
        rcases hT'.2.2.2.2.2.2.2 with ⟨w1, w2⟩ | ⟨w1, t, w2, w3, w4⟩
        · rw [if_pos w1, if_pos (td3 (fun ⟨t, x1, x2, x3⟩ => x3 (w2 t x1 x2)))]
          by_cases hm : n' ≤ 100
          · rw [if_pos (many0.mpr hm), if_pos hm]
            obtain ⟨t0, t1', tM, tL, tK, t12, t9, tD⟩ := hT'
            refine ⟨⟨fun x hx => (by cases hx; exact ⟨code, rfl⟩), fun E hE => (by cases hE)⟩, fun E hE => (by cases hE), ⟨n', q, c, k, f, g4, hm, tM, tL, tK, e11, rfl, fun t ht => ?_, hR'.mono g4⟩, rwE _ wW⟩
            by_cases h9 : t < n
            · exact hd' t h9
            · exact w2 t (by omega) ht
          · rw [if_neg (fun w => hm (many0.mp w)), if_neg hm]
            exact res_ref hT' hR' hd' hf (rwE _ wW) rfl (by decide) (Or.inr (Or.inr rfl))
        · have nd1 : ¬ f_Mo_tooDeep (sF (sF t1 0 33 0) 0 30 0) = 0 := by rw [td2 ⟨t, w2, w3, w4⟩]; decide
          rw [if_neg (by rw [w1]; decide), if_neg nd1]
          exact res_ref hT' hR' hd' hf (rwE _ wW) rfl (by decide) (Or.inr (Or.inl rfl))
      · rw [if_neg hpd] at eRA
        have mvg := mvM.bad t1 1
        have hRR : RR n z.2 τ1 := g3.rr.cong2 (by omega) g11.sy (fun c0 q1 q2 => (g13.1 c0 (by omega)).symm) (g13.2.1 3 (by omega) (by omega) (by omega) (by omega)).symm
        exact refuse (sF t1 0 33 1) (nI m) g12 hRR kRA eRA rfl (g11.tr (mvg.rw n) (Nat.le_refl _)) (g13.tr mvg.fm) (if_neg (fun w => hpd (epos.mp w)))
    · rw [nI_0] at g4 g5
      exact refuse t2 x g2 g3 g4 g5 g6 g7 g8 (by rw [g1, ite_self])
  · obtain ⟨e1, e2⟩ := (op_shut h).2 hf
    have eC : f_CL_term σ = (.inl (-1), σ) := by
      show (if f_CL_isShut σ = 0 then _ else _) = _
      rw [if_neg e1]
    have eM : f_Mo_term τ = (-1, bg τ) := by
      show f_Mo_term_4 (f_Mo_begin τ).1 (f_Mo_begin τ).2 = _
      rw [e2]
      show (if (1 : Int32) = 0 then _ else _) = _
      rw [if_neg (by decide)]
    refine ⟨⟨k_shut σ, fun z => absurd z e1, fun _ => trivial⟩, ⟨k_begin τ, ?_⟩, ?_⟩
    · rw [e2]; exact ⟨fun z => absurd z (show ¬ (1 : Int32) = 0 by decide), fun _ => trivial⟩
    · rw [eC, eM]; exact res_shut h
end TRM
