-- a step is entered, or the call is refused
theorem LN.cong {σ σ' τ τ' : St} {n : Nat} (h : LN n σ τ) (e1 : σ'.1 15 = σ.1 15) (e2 : ∀ c, 5 ≤ c → c ≤ 13 → τ'.1 c = τ.1 c) : LN n σ' τ' := by
  unfold LN at *
  rw [e1, e2 5 (by omega) (by omega), e2 8 (by omega) (by omega), e2 9 (by omega) (by omega), e2 11 (by omega) (by omega), e2 12 (by omega) (by omega)]
  exact h
theorem KD.cong {τ τ' : St} {n : Nat} (h : KD n τ) (e2 : ∀ c, 5 ≤ c → c ≤ 13 → τ'.1 c = τ.1 c) (e3 : ∀ c, 1 ≤ c → c < 5 → τ'.1 c = τ.1 c) (e4 : τ'.1 0 3 = τ.1 0 3) : KD n τ' := by
  refine ⟨?_, h.2.cong (fun c q1 q2 j _ => by rw [e2 c q1 q2]) e3 e4⟩
  have h := h.1
  unfold kdW at *
  rw [e2 5 (by omega) (by omega), e2 6 (by omega) (by omega), e2 8 (by omega) (by omega), e2 9 (by omega) (by omega), e2 10 (by omega) (by omega)]
  exact h
theorem enter_sim {n0 n r q c k f s : Nat} {asm nm c3 c4 : Int32} {σ τ : St} (hT : TR n0 n r σ τ) (hR : RS n0 q c k f σ τ) (hn : n ≤ 207) (hd0 : ∀ t, t < n0 → τ.1 7 t ≤ 12) (hs : s ≤ q) (ha : asm = 0 ∨ (asm = 1 ∧ 1 ≤ r)) (htr : ∀ j, j < r → ∃ t, t < n ∧ τ.1 20 j = nI t ∧ τ.1 6 t = 0)
    (g3 : (∃ t, n0 ≤ t ∧ t < n ∧ ¬ τ.1 7 t ≤ 12) → k_Mo_fails 3 nm τ ∧ f_Mo_fails 3 nm τ = (0, fl c3 τ)) (g4 : k_Mo_fails 4 nm τ ∧ f_Mo_fails 4 nm τ = (0, fl c4 τ)) :
    k_CL_enterRow (nI s) asm σ ∧ k_Mo_enter (nI s) nm τ ∧
    ((f_CL_enterRow (nI s) asm σ = (.inr 3, un σ) ∧ f_Mo_enter (nI s) nm τ = (0, fl c3 τ) ∧ ∃ t, n0 ≤ t ∧ t < n ∧ ¬ τ.1 7 t ≤ 12) ∨
     (f_CL_enterRow (nI s) asm σ = (.inr 4, un σ) ∧ f_Mo_enter (nI s) nm τ = (0, fl c4 τ)) ∨
     ∃ σ' τ', f_CL_enterRow (nI s) asm σ = (.inl (nI k), σ') ∧ f_Mo_enter (nI s) nm τ = (nI k, τ') ∧ k < 60 ∧ n ≤ 100 ∧ τ'.1 0 0 = τ.1 0 0 ∧ (∀ c, 5 ≤ c → c ≤ 13 → τ'.1 c = τ.1 c) ∧ τ'.1 17 k = 0 ∧ (∀ c, 17 < c → c < 31 → σ'.1 c = σ.1 c) ∧
       ∀ τ'' : St, (∀ c, ¬ c = 17 → τ''.1 c = τ'.1 c) → (∀ j, ¬ j = k → τ''.1 17 j = τ'.1 17 j) → τ''.1 17 k = asm → IV n q c (k + 1) f σ' τ'') := by
  obtain ⟨⟨h1, h2, hM, hL, hK, e12, e9, hD⟩, hW⟩ := hT
  obtain ⟨hG, hF, hC, hP, hfl⟩ := hR
  obtain ⟨w1, w2, w3, w4⟩ := hW
  obtain ⟨p1, p2, p3, p4⟩ := hP
  obtain ⟨t1, t2, t3⟩ := td_eq (by omega) h2 hM.2.1 e9
  have kdeep : k_Te_tooDeep σ := by
    refine ⟨?_, trivial⟩
    rcases hD with ⟨d1, -⟩ | ⟨d1, -⟩ <;> rw [d1] <;> rfl
  have kmany : k_Te_tooMany σ := ⟨fun _ => ⟨rfl, trivial⟩, fun _ => ⟨rfl, trivial⟩⟩
  have kfull : ∀ X : St, k_St_isFull X := fun X => ⟨fun _ => ⟨rfl, trivial⟩, fun _ => ⟨rfl, trivial⟩⟩
  have m1 : (σ.1 6 11 ≤ 100) ↔ n ≤ 100 := by rw [hM.1]; exact nI_le_iff (b := 100) (by omega) (by omega)
  have m2 : ((100 : Int32) < τ.1 0 8) ↔ 100 < n := by rw [hM.2.1]; exact nI_lt_iff (a := 100) (by omega) (by omega)
  have r1 : ((8 : Int32) < σ.1 25 1) ↔ 8 < r := by rw [w2]; exact nI_lt_iff (a := 8) (by omega) (by omega)
  have r2 : ((8 : Int32) < τ.1 0 28) ↔ 8 < r := by rw [w3]; exact nI_lt_iff (a := 8) (by omega) (by omega)
  have s1 : (σ.1 31 4 < 60) ↔ k < 60 := by rw [p2]; exact nI_lt_iff (b := 60) (by omega) (by omega)
  have s2 : (τ.1 0 19 = 60) ↔ k = 60 := by rw [p3]; exact nI_inj (b := 60) (by omega) (by omega)
  have many_eq : f_Te_tooMany σ = if σ.1 6 11 ≤ 100 then 0 else 1 := rfl
  have full_eq : ∀ X : St, f_St_isFull X = if X.1 31 4 < 60 then 0 else 1 := fun X => rfl
  have mn0 : f_Te_tooMany σ = 0 ↔ n ≤ 100 := by
    rw [many_eq]
    by_cases h : σ.1 6 11 ≤ 100
    · rw [if_pos h]; exact ⟨fun _ => m1.mp h, fun _ => rfl⟩
    · rw [if_neg h]; exact ⟨fun h9 => absurd h9 (by decide), fun h9 => absurd (m1.mpr h9) h⟩
  have fu0 : f_St_isFull σ = 0 ↔ k < 60 := by
    rw [full_eq]
    by_cases h : σ.1 31 4 < 60
    · rw [if_pos h]; exact ⟨fun _ => s1.mp h, fun _ => rfl⟩
    · rw [if_neg h]; exact ⟨fun h9 => absurd h9 (by decide), fun h9 => absurd (s1.mpr h9) h⟩
  have k47 : k_CL_enterRow_47 σ := ⟨kthr4 σ, fun _ _ => trivial⟩
  have k41 : k_Mo_enter_41 nm τ := ⟨g4.1, trivial⟩
  have e47 : f_CL_enterRow_47 σ = (.inr 4, un σ) := rfl
  have e41 : f_Mo_enter_41 nm τ = (0, fl c4 τ) := by
    show ((f_Mo_fails 4 nm τ).1, (f_Mo_fails 4 nm τ).2) = _
    rw [g4.2]
  have eC : f_CL_enterRow (nI s) asm σ = if σ.1 6 13 = 0 then (if f_Te_tooMany σ = 0 then (if 8 < σ.1 25 1 then f_CL_enterRow_47 σ else (if f_St_isFull σ = 0 then f_CL_enterRow_59 (nI s) asm (f_Te_keep σ) else f_CL_enterRow_47 σ)) else f_CL_enterRow_47 σ) else (.inr 3, un σ) := rfl
  have eM : f_Mo_enter (nI s) nm τ = if f_Mo_tooDeep τ = 0 then (if 100 < τ.1 0 8 then f_Mo_enter_41 nm τ else (if 8 < τ.1 0 28 then f_Mo_enter_41 nm τ else (if τ.1 0 19 = 60 then f_Mo_enter_41 nm τ else f_Mo_enter_50 1000 (nI s) 0 τ))) else ((f_Mo_fails 3 nm τ).1, (f_Mo_fails 3 nm τ).2) := rfl
  -- what must be known of the good road
  have good : n ≤ 100 → r ≤ 8 → k < 60 → k_CL_enterRow_59 (nI s) asm (f_Te_keep σ) ∧ k_Mo_enter_50 1000 (nI s) 0 τ ∧ ∃ σ' τ', f_CL_enterRow_59 (nI s) asm (f_Te_keep σ) = (.inl (nI k), σ') ∧ f_Mo_enter_50 1000 (nI s) 0 τ = (nI k, τ') ∧ τ'.1 0 0 = τ.1 0 0 ∧ (∀ c, 5 ≤ c → c ≤ 13 → τ'.1 c = τ.1 c) ∧ τ'.1 17 k = 0 ∧ (∀ c, 17 < c → c < 31 → σ'.1 c = σ.1 c) ∧
      (((∀ t, n0 ≤ t → t < n → τ.1 7 t ≤ 12)) → ∀ τ'' : St, (∀ c, ¬ c = 17 → τ''.1 c = τ'.1 c) → (∀ j, ¬ j = k → τ''.1 17 j = τ'.1 17 j) → τ''.1 17 k = asm → IV n q c (k + 1) f σ' τ'') := by
    intro hn1 hr8 hk60
    let σk : St := f_Te_keep σ
    obtain ⟨a1, σ', a2, a3, a4, a5, a6, a7, a8, a9⟩ := cp_C (s := nI s) (a := asm) hr8 hk60 r 0 1000 σk (by omega) (by omega) w2
    obtain ⟨b1, τ', b2, b3, b4, b5, b6, b7, b8, b9⟩ := cp_M (s := nI s) hr8 hk60 r 0 1000 τ (by omega) (by omega) w3 p3
    rw [nI_0] at a1 a2 b1 b2
    have hfk : f_St_isFull σk = 0 := fu0.mpr hk60
    have esz : (if (8 : Int32) < f_Ro_size σk then 8 else f_Ro_size σk) = nI r := by
      show (if (8 : Int32) < σ.1 25 1 then 8 else σ.1 25 1) = nI r
      rw [if_neg (fun h9 => by have := r1.mp h9; omega), w2]
    have eadd : f_St_add (nI s) asm σk = (nI k, σ') := by
      show (if f_St_isFull σk = 0 then f_St_add_29 1000 (nI s) asm (σ.1 31 4) (if (8 : Int32) < f_Ro_size σk then 8 else f_Ro_size σk) 0 σk else _) = _
      rw [if_pos hfk, esz, p2]; exact a2
    have kadd : k_St_add (nI s) asm σk := by
      refine ⟨kfull σk, fun _ => ⟨trivial, ?_⟩, fun h9 => absurd hfk h9⟩
      show k_St_add_29 1000 (nI s) asm (σ.1 31 4) (if (8 : Int32) < f_Ro_size σk then 8 else f_Ro_size σk) 0 σk
      rw [esz, p2]; exact a1
    have ez : ∀ c, 5 ≤ c → c ≤ 13 → τ'.1 c = τ.1 c := fun c q1 q2 => b4 c (by omega)
    refine ⟨⟨kadd, trivial⟩, b1, σ', τ', ?_, b2, by rw [b5]; rfl, ez, by rw [b9 k, if_pos rfl], fun c q1 q2 => (a4 c (by omega)).trans (by show pu (pu σ.1 6 _) 6 _ c = _; rw [pu_at, if_neg (by omega), pu_at, if_neg (by omega)]), ?_⟩
    · show (.inl (f_St_add (nI s) asm σk).1, (f_St_add (nI s) asm σk).2) = ((.inl (nI k), σ') : XR)
      rw [eadd]
    · intro hdn τ'' v1 v2 v3
      have zC : ∀ c, c < 31 → σ'.1 c = σk.1 c := fun c q1 => a4 c (by omega)
      have zM : ∀ c, 5 ≤ c → c ≤ 13 → τ''.1 c = τ.1 c := fun c q1 q2 => (v1 c (by omega)).trans (ez c q1 q2)
      have z0 : ∀ j, ¬ j = 19 → τ''.1 0 j = τ.1 0 j := fun j hj => by
        rw [v1 0 (by omega), b5, pu_at, if_neg hj]
      have hMk : TM n σk τ := hM
      have hLk : LN n σk τ := hL
      have hGk : SG σk τ := hG
      have hFk : DF σk τ := hF
      have hCk : SC q c σk τ := hC
      refine ⟨hn1, hMk.cong (fun c q1 q2 => zC c (by omega)) (by rw [a3]) (z0 8 (by omega)) zM, hLk.cong (zC 15 (by omega)) zM, hK.cong zM (fun c q1 q2 => (v1 c (by omega)).trans (b4 c (by omega))) (z0 3 (by omega)), ?_, ?_, fun t ht => ?_, ?_, ?_, ?_, ?_, ?_⟩
      · rw [zC 6 (by omega)]; exact hM.1
      · rw [zC 6 (by omega)]; rfl
      · rw [zM 7 (by omega) (by omega)]
        by_cases h9 : t < n0
        · exact hd0 t h9
        · exact hdn t (by omega) ht
      · exact hGk.cong (fun c q1 q2 => zC c (by omega)) (fun c q1 q2 => (v1 c (by omega)).trans (b4 c (by omega))) (fun j q1 q2 => z0 j (by omega))
      · exact hFk.cong (by rw [zC 18 (by omega)]) (zC 19 (by omega)) (z0 30 (by omega)) ((v1 21 (by omega)).trans (b4 21 (by omega)))
      · unfold SC at hCk ⊢
        rw [zC 27 (by omega), zC 28 (by omega), zC 29 (by omega), zC 30 (by omega), v1 18 (by omega), v1 19 (by omega), b4 18 (by omega), b4 19 (by omega), z0 24 (by omega), z0 25 (by omega)]
        exact hCk
      · refine ⟨by omega, ?_, ?_, fun i hi => ?_⟩
        · rw [a5, pu_at, if_pos rfl]
          show σ.1 31 4 + 1 = _
          rw [p2, nI_succ]
        · rw [v1 0 (by omega), b5, pu_at, if_pos rfl]
        · by_cases e : i = k
          · subst e
            rw [a8 i, if_pos rfl, a9 i, if_pos rfl, a7 i, if_pos rfl, v1 16 (by omega), b8 i, if_pos rfl, v1 14 (by omega), b7 i, if_pos rfl, v3]
            have hb : vp_nar .boolean asm = asm := by
              rcases ha with rfl | ⟨rfl, -⟩ <;> decide +kernel
            refine ⟨rfl, ⟨s, hs, rfl⟩, hb, r, hr8, rfl, rfl, ha, fun j hj => ?_⟩
            obtain ⟨t, q1, q2, q3⟩ := htr j hj
            rw [a6, if_pos (by omega), v1 15 (by omega), b6, if_pos (by omega), show 8 * i + j - 8 * i = j by omega]
            exact ⟨w4 j hj, t, q1, q2, by rw [zM 6 (by omega) (by omega)]; exact q3⟩
          · obtain ⟨x1, x2, x3, z, x4, x5, x6, x7, x8⟩ := p4 i (by omega)
            rw [a8 i, if_neg e, a9 i, if_neg e, a7 i, if_neg e, v1 16 (by omega), b8 i, if_neg e, v1 14 (by omega), b7 i, if_neg e, v2 i e, b9 i, if_neg e]
            refine ⟨x1, x2, x3, z, x4, x5, x6, x7, fun j hj => ?_⟩
            obtain ⟨y1, t, y2, y3, y4⟩ := x8 j hj
            rw [a6, if_neg (by omega), v1 15 (by omega), b6, if_neg (by omega)]
            exact ⟨y1, t, by omega, y3, by rw [zM 6 (by omega) (by omega)]; exact y4⟩
      · unfold FL at hfl ⊢
        rw [zC 0 (by omega), z0 1 (by omega)]
        exact hfl
  -- the conditions of the roads
  have kC : k_CL_enterRow (nI s) asm σ := by
    refine ⟨kdeep, fun _ => ⟨kmany, fun q1 => ⟨trivial, fun _ => k47, fun q2 => ⟨kfull σ, fun q3 => ⟨trivial, ?_⟩, fun _ => k47⟩⟩, fun _ => k47⟩, fun _ => ⟨kthr3 σ, fun _ _ => trivial⟩⟩
    have a2 : r ≤ 8 := by
      have h9 : ¬ 8 < r := fun h => q2 (r1.mpr h)
      omega
    exact (good (mn0.mp q1) a2 (fu0.mp q3)).1
  have kM : k_Mo_enter (nI s) nm τ := by
    refine ⟨t1, fun _ => ⟨fun _ => k41, fun q1 => ⟨fun _ => k41, fun q2 => ⟨fun _ => k41, fun q3 => ?_⟩⟩⟩, fun q0 => ⟨(g3 (Classical.byContradiction fun h9 => q0 (t3 h9))).1, trivial⟩⟩
    have a1 : n ≤ 100 := by
      have h9 : ¬ 100 < n := fun h => q1 (m2.mpr h)
      omega
    have a2 : r ≤ 8 := by
      have h9 : ¬ 8 < r := fun h => q2 (r2.mpr h)
      omega
    have a3 : k < 60 := by
      have h9 : ¬ k = 60 := fun h => q3 (s2.mpr h)
      omega
    exact (good a1 a2 a3).2.1
  refine ⟨kC, kM, ?_⟩
  rw [eC, eM]
  rcases hD with ⟨d1, d2⟩ | ⟨d1, t, d2, d3, d4⟩
  · have td0 : f_Mo_tooDeep τ = 0 := t3 (fun ⟨t, q1, q2, q3⟩ => q3 (d2 t q1 q2))
    rw [if_pos d1, if_pos td0]
    by_cases hn1 : n ≤ 100
    · rw [if_pos (mn0.mpr hn1), if_neg (show ¬ (100 : Int32) < τ.1 0 8 from fun h9 => by have := m2.mp h9; omega)]
      by_cases hr8 : r ≤ 8
      · rw [if_neg (show ¬ (8 : Int32) < σ.1 25 1 from fun h9 => by have := r1.mp h9; omega), if_neg (show ¬ (8 : Int32) < τ.1 0 28 from fun h9 => by have := r2.mp h9; omega)]
        by_cases hk : k < 60
        · rw [if_pos (fu0.mpr hk), if_neg (show ¬ τ.1 0 19 = 60 from fun h9 => by have := s2.mp h9; omega)]
          obtain ⟨-, -, σ', τ', f1, f2, f3, f4, f5, f6, f7⟩ := good hn1 hr8 hk
          exact Or.inr (Or.inr ⟨σ', τ', f1, f2, hk, hn1, f3, f4, f5, f6, f7 d2⟩)
        · rw [if_neg (show ¬ f_St_isFull σ = 0 from fun h9 => hk (fu0.mp h9)), if_pos (show τ.1 0 19 = 60 from s2.mpr (by omega))]
          exact Or.inr (Or.inl ⟨e47, e41⟩)
      · rw [if_pos (show (8 : Int32) < σ.1 25 1 from r1.mpr (by omega)), if_pos (show (8 : Int32) < τ.1 0 28 from r2.mpr (by omega))]
        exact Or.inr (Or.inl ⟨e47, e41⟩)
    · rw [if_neg (show ¬ f_Te_tooMany σ = 0 from fun h9 => hn1 (mn0.mp h9)), if_pos (show (100 : Int32) < τ.1 0 8 from m2.mpr (by omega))]
      exact Or.inr (Or.inl ⟨e47, e41⟩)
  · have td1 : f_Mo_tooDeep τ = 1 := t2 ⟨t, d2, d3, d4⟩
    rw [if_neg (show ¬ σ.1 6 13 = 0 by rw [d1]; decide), if_neg (show ¬ f_Mo_tooDeep τ = 0 by rw [td1]; decide)]
    exact Or.inl ⟨rfl, by rw [(g3 ⟨t, d2, d3, d4⟩).2], t, d2, d3, d4⟩
