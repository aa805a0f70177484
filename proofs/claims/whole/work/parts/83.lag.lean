-- a row as a list; one side's joins behind the other's
def jl (a : Int32) (L : List Int32) : List Int32 := if a ∈ L then L else L ++ [a]
theorem jl_len (a : Int32) (L : List Int32) : (jl a L).length ≤ L.length + 1 ∧ L.length ≤ (jl a L).length := by
  unfold jl
  by_cases h : a ∈ L
  · rw [if_pos h]; omega
  · rw [if_neg h, List.length_append]
    show L.length + 1 ≤ _ ∧ _ ≤ L.length + 1
    omega
theorem jl_mem {a b : Int32} {L : List Int32} (h : b ∈ jl a L) : b = a ∨ b ∈ L := by
  unfold jl at h
  by_cases h2 : a ∈ L
  · rw [if_pos h2] at h; exact Or.inr h
  · rw [if_neg h2] at h
    rcases List.mem_append.mp h with h | h
    · exact Or.inr h
    · exact Or.inl (List.mem_singleton.mp h)
def rowF (F : Nat → Int32) (x : Int32) (L : List Int32) : Prop := x = nI L.length ∧ ∀ j (h : j < L.length), F j = L[j]
theorem rowF.hit {F : Nat → Int32} {x a : Int32} {L : List Int32} (h : rowF F x L) {m : Nat} (hm : m < L.length) (e : F m = a) : jl a L = L := by
  have h1 : a ∈ L := by
    rw [← e, h.2 m hm]; exact List.getElem_mem hm
  unfold jl
  rw [if_pos h1]
theorem rowF.miss {F : Nat → Int32} {x a : Int32} {L : List Int32} (h : rowF F x L) (hl : L.length < 2147483647) (hn : ∀ j, j < L.length → ¬ F j = a) : rowF (upd F (nI L.length).toNatClampNeg a) (nI L.length + 1) (jl a L) := by
  have h1 : ¬ a ∈ L := fun z => by
    obtain ⟨i, hi, e⟩ := List.mem_iff_getElem.mp z
    exact hn i hi (by rw [h.2 i hi]; exact e)
  have e : jl a L = L ++ [a] := by unfold jl; rw [if_neg h1]
  rw [e]
  have el : (L ++ [a]).length = L.length + 1 := by rw [List.length_append]; rfl
  refine ⟨by rw [el, nI_succ], fun j hj => ?_⟩
  rw [upd_at, nI_clamp (by omega)]
  by_cases e2 : j = L.length
  · subst e2
    rw [if_pos rfl, List.getElem_append_right (Nat.le_refl _)]
    simp
  · rw [if_neg e2, h.2 j (by omega), List.getElem_append_left]
theorem jC {σ : St} {a : Int32} {L : List Int32} (h : rowF (σ.1 26) (σ.1 25 1) L) (hl : L.length < 68) (ha : ¬ a = -1) :
    k_Ro_join a σ ∧ rowF ((f_Ro_join a σ).1 26) ((f_Ro_join a σ).1 25 1) (jl a L) ∧ (∀ c, ¬ c = 25 → ¬ c = 26 → (f_Ro_join a σ).1 c = σ.1 c) ∧ (f_Ro_join a σ).2 = σ.2 := by
  have h1 := h.1
  have c1 : σ.1 25 1 < 68 := by rw [h1]; exact (nI_lt_iff (b := 68) (by omega) (by omega)).mpr hl
  have eC : f_Ro_join a σ = f_Ro_join_20 1000 a (nI 0) σ := by
    show (if a = -1 then σ else (if σ.1 25 1 < 68 then f_Ro_join_20 1000 a 0 σ else σ)) = _
    rw [if_neg ha, if_pos c1, nI_0]
  have kC : k_Ro_join_20 1000 a (nI 0) σ → k_Ro_join a σ := fun h => ⟨fun h9 => absurd h9 ha, fun _ => ⟨fun _ => by rw [nI_0] at h; exact h, fun h9 => absurd c1 h9⟩⟩
  rcases first_of (fun j => σ.1 26 j = a) L.length with ⟨m, hm, g1, g2⟩ | hno
  · obtain ⟨k1, k2⟩ := rj_hit hl h1 hm g1 (fun i hi => g2 i hi) m 0 1000 (by omega) (by omega)
    rw [eC, k2, h.hit hm g1]
    exact ⟨kC k1, h, fun _ _ _ => rfl, rfl⟩
  · obtain ⟨k1, k2⟩ := rj_miss hl h1 hno L.length 0 1000 (by omega) (by omega)
    rw [eC, k2]
    refine ⟨kC k1, h.miss (by omega) hno, fun c q1 q2 => ?_, rfl⟩
    show pu (pu σ.1 26 _) 25 _ c = _
    rw [pu_at, if_neg q1, pu_at, if_neg q2]
theorem jM {τ : St} {a : Int32} {L : List Int32} (h : rowF (τ.1 20) (τ.1 0 28) L) (hl : L.length < 68) :
    k_Mo_join a τ ∧ rowF ((f_Mo_join a τ).1 20) ((f_Mo_join a τ).1 0 28) (jl a L) ∧ (∀ c, ¬ c = 0 → ¬ c = 20 → (f_Mo_join a τ).1 c = τ.1 c) ∧ (∀ j, ¬ j = 28 → (f_Mo_join a τ).1 0 j = τ.1 0 j) ∧ (f_Mo_join a τ).2 = τ.2 := by
  have h1 := h.1
  have eM : f_Mo_join a τ = f_Mo_join_4 1000 a 0 (nI 0) τ := by rw [nI_0]; rfl
  have kM : k_Mo_join_4 1000 a 0 (nI 0) τ → k_Mo_join a τ := fun h => by rw [nI_0] at h; exact h
  obtain ⟨m1, m2, m3⟩ := mj_all (a := a) (by omega) h1 L.length 0 1000 0 (by omega) (by omega) (Or.inr ⟨rfl, fun j hj => absurd hj (Nat.not_lt_zero j)⟩)
  rcases first_of (fun j => τ.1 20 j = a) L.length with ⟨m, hm, g1, g2⟩ | hno
  · rw [eM, m2 ⟨m, hm, g1⟩, h.hit hm g1]
    exact ⟨kM m1, h, fun _ _ _ => rfl, fun _ _ => rfl, rfl⟩
  · rw [eM, m3 hno]
    refine ⟨kM m1, h.miss (by omega) hno, fun c q1 q2 => ?_, fun j q1 => ?_, rfl⟩
    · show pu (pu τ.1 20 _) 0 _ c = _
      rw [pu_at, if_neg q1, pu_at, if_neg q2]
    · show pu (τ.1 0) 28 _ j = _
      rw [pu_at, if_neg q1]
section LGS
variable {n0 n q c k f p : Nat} {τb σ τ σ' τ' : St} {L1 L2 : List Int32}
theorem TT.congC (h : TT n0 n σ τ) (e1 : ∀ c, ¬ c = 25 → ¬ c = 26 → σ'.1 c = σ.1 c) (e2 : σ'.2 = σ.2) : TT n0 n σ' τ := by
  obtain ⟨h1, h2, hM, hL, hK, e12, e9, hD⟩ := h
  refine ⟨h1, h2, hM.cong (fun c q1 q2 => e1 c (by omega) (by omega)) (by rw [e2]) rfl (fun _ _ _ => rfl), hL.cong (e1 15 (by omega) (by omega)) (fun _ _ _ => rfl), hK, by rw [e1 6 (by omega) (by omega)]; exact e12, e9, ?_⟩
  unfold DP at hD ⊢
  rw [e1 6 (by omega) (by omega)]; exact hD
theorem TT.congM (h : TT n0 n σ τ) (e1 : ∀ c, ¬ c = 0 → ¬ c = 20 → τ'.1 c = τ.1 c) (e2 : ∀ j, ¬ j = 28 → τ'.1 0 j = τ.1 0 j) : TT n0 n σ τ' := by
  obtain ⟨h1, h2, hM, hL, hK, e12, e9, hD⟩ := h
  refine ⟨h1, h2, hM.cong (fun _ _ _ => rfl) rfl (e2 8 (by omega)) (fun c q1 q2 => e1 c (by omega) (by omega)), hL.cong rfl (fun c q1 q2 => e1 c (by omega) (by omega)), hK.cong (fun c q1 q2 => e1 c (by omega) (by omega)) (fun c q1 q2 => e1 c (by omega) (by omega)) (e2 3 (by omega)), e12, by rw [e2 9 (by omega)]; exact e9, ?_⟩
  unfold DP at hD ⊢
  rw [e1 7 (by omega) (by omega)]; exact hD
theorem TT.opp0 {t : Nat} (h : TT n0 n σ τ) (hn : n ≤ 206) (ht : tru τ n t) :
    k_Te_opposite (nI t) σ ∧ k_Mo_opposite (nI t) τ ∧ ∃ m n' σ' τ', f_Te_opposite (nI t) σ = (nI m, σ') ∧ f_Mo_opposite (nI t) τ = (nI m, τ') ∧ tru τ' n' m ∧ n ≤ n' ∧ n' ≤ n + 1 ∧ TT n0 n' σ' τ' ∧ rwM n τ τ' ∧
      (∀ c, c < 6 ∨ 17 < c → σ'.1 c = σ.1 c) ∧ σ'.1 6 12 = σ.1 6 12 ∧ (∀ c, 13 < c ∨ (1 ≤ c ∧ c < 5) → τ'.1 c = τ.1 c) ∧ τ'.2 = τ.2 ∧ ∀ j, ¬ j = 8 → τ'.1 0 j = τ.1 0 j := by
  obtain ⟨ht1, ht2⟩ := ht
  have h0 := h
  obtain ⟨h1, h2, hT, hL, hK, e12, e9, hD⟩ := h
  have hcl : (nI t).toNatClampNeg = t := nI_clamp (by omega)
  obtain ⟨hE, hW⟩ := hT.2.2 t ht1
  have hin : vp_in (nI t) 400 := by rw [in_iff, i_nI (by omega)]; omega
  have ek : f_Te_kindOf (nI t) σ = τ.1 5 t := (acc_nI hT.1 (by omega) ht1 (σ.1 7) (-1)).trans hE.1
  have ef : f_Te_firstOf (nI t) σ = τ.1 8 t := (acc_nI hT.1 (by omega) ht1 (σ.1 10) (-1)).trans hE.2.2.2.1
  have ka := k_acc hT.1 (by omega) (nI t)
  by_cases h7 : τ.1 5 t = 7
  · have c1 : f_Te_kindOf (nI t) σ = 7 := ek.trans h7
    obtain ⟨a1, a2, a3, a4, a5⟩ := (hK.1 t ht1).2.2.2.2.2.2.1 h7
    obtain ⟨i, hi, ei⟩ := hW.1.resolve_left a1
    have si : τ.1 6 i = 0 := by
      have := a5
      unfold pO at this
      rw [if_neg a1, ei, nI_clamp (by omega)] at this
      exact this
    have c2 : τ.1 5 (nI t).toNatClampNeg = 7 := by rw [hcl]; exact h7
    refine ⟨⟨ka, fun _ => ⟨ka, trivial⟩, fun h9 => absurd c1 h9⟩, ⟨hin, fun _ => ⟨hin, trivial⟩, fun h9 => absurd c2 h9⟩, i, n, σ, τ, ?_, ?_, ⟨by omega, si⟩, Nat.le_refl n, Nat.le_succ n, h0, fun _ _ _ _ _ => rfl, fun _ _ => rfl, rfl, fun _ _ => rfl, rfl, fun _ _ => rfl⟩
    · show (if f_Te_kindOf (nI t) σ = 7 then (f_Te_firstOf (nI t) σ, σ) else _) = _
      rw [if_pos c1, ef, ei]
    · show (if τ.1 5 (nI t).toNatClampNeg = 7 then (τ.1 8 (nI t).toNatClampNeg, τ) else _) = _
      rw [if_pos c2, hcl, ei]
  · have c1 : ¬ f_Te_kindOf (nI t) σ = 7 := fun h9 => h7 (ek.symm.trans h9)
    have c2 : ¬ τ.1 5 (nI t).toNatClampNeg = 7 := by rw [hcl]; exact h7
    obtain ⟨k1, k2, m, n', q1, q2, q3, q4, q5, q6, q7, q8, q9, q10, q11, q12, q13, q14⟩ := h0.make (k := 7) (s := 0) (l := -1) (a := nI t) (b := -1) hn ⟨7, by omega, by decide +kernel⟩ (by decide) (by decide) ⟨0, by omega, by decide +kernel⟩ (Or.inr ⟨t, ht1, rfl⟩) (Or.inl rfl) (fun h9 => absurd h9 (nI_ne_m1 (by omega)))
      (fun τ' r5 r6 r8 r9 r10 ag => by
        unfold kdW
        rw [r5, r6, r8, r9, r10]
        have na : ¬ nI t = -1 := nI_ne_m1 (by omega)
        have pa : pO (τ'.1 6) (nI t) = 0 := by unfold pO; rw [if_neg na, hcl, ag 6 (by omega) (by omega) t ht1]; exact ht2
        exact ⟨fun h9 => absurd h9 (by decide), fun h9 => absurd h9 (by decide), fun h9 => absurd h9 (by decide), fun h9 => absurd h9 (by decide), fun h9 => absurd h9 (by decide), fun h9 => absurd h9 (by decide), fun _ => ⟨na, rfl, rfl, rfl, pa⟩, fun h9 => absurd h9 (by decide), fun h9 => absurd h9 (by decide), fun h9 => absurd h9 (by decide)⟩) (fun _ _ _ => ⟨fun z => absurd z (by decide), fun z => absurd z (by decide)⟩)
    have sm : (f_Mo_found 7 0 (nI t) (-1) (-1) 0 0 τ).2.1 6 m = 0 := ((q6.2.2.2.2.1.1 m q1).2.2.2.2.2.2.1 q7.1).2.2.2.1
    have f1 : f_Te_make 7 0 (-1) (nI t) (-1) σ = (nI m, (f_Te_make 7 0 (-1) (nI t) (-1) σ).2) := by rw [← q4]
    have f2 : f_Mo_found 7 0 (nI t) (-1) (-1) 0 0 τ = (nI m, (f_Mo_found 7 0 (nI t) (-1) (-1) 0 0 τ).2) := by rw [← q5]
    refine ⟨⟨ka, fun h9 => absurd h9 c1, fun _ => ⟨k1, trivial⟩⟩, ⟨hin, fun h9 => absurd h9 c2, fun _ => ⟨⟨fun h9 => absurd h9 (by decide), fun _ => ⟨fun h9 => absurd h9 (by decide), fun _ => ⟨k2, trivial⟩⟩⟩, trivial⟩⟩, m, n', _, _, ?_, ?_, ⟨q1, sm⟩, q2, q3, q6, q8, q9, q11, q12, q13, q14⟩
    · show (if f_Te_kindOf (nI t) σ = 7 then _ else ((f_Te_make 7 0 (-1) (nI t) (-1) σ).1, (f_Te_make 7 0 (-1) (nI t) (-1) σ).2)) = _
      rw [if_neg c1, q4]
    · show (if τ.1 5 (nI t).toNatClampNeg = 7 then _ else ((f_Mo_made 7 (nI t) (-1) τ).1, (f_Mo_made 7 (nI t) (-1) τ).2)) = _
      have e0 : f_Mo_made 7 (nI t) (-1) τ = f_Mo_found 7 0 (nI t) (-1) (-1) 0 0 τ := by
        show (if (7 : Int32) = 3 then _ else (if (7 : Int32) = 4 then _ else ((f_Mo_found 7 0 (nI t) (-1) (-1) 0 0 τ).1, (f_Mo_found 7 0 (nI t) (-1) (-1) 0 0 τ).2))) = _
        rw [if_neg (by decide), if_neg (by decide)]
      rw [if_neg c2, e0, q5]
/-- within a call, the class's row may lag behind the reference's -/
def LG (n0 n q c k f p : Nat) (τb σ τ : St) (L1 L2 : List Int32) : Prop := TT n0 n σ τ ∧ RS n0 q c k f σ τ ∧ rwM n0 τb τ ∧ τ.1 0 0 = 0 ∧ (∀ t, t < n0 → τ.1 7 t ≤ 12) ∧ rowF (σ.1 26) (σ.1 25 1) L1 ∧ rowF (τ.1 20) (τ.1 0 28) L2 ∧ (L1.length ≤ p ∧ L2.length ≤ p) ∧ ∀ a, a ∈ L2 → ∃ t, t < n ∧ a = nI t ∧ τ.1 6 t = 0
theorem LG.start (h : IV n q c k f σ τ) : LG n n q c k f 0 τ (sF σ 25 1 0) (bg τ) [] [] := by
  obtain ⟨-, -, ⟨b1, -⟩, b2⟩ := h.begin
  exact ⟨b1, b2, rw_bg n τ, rfl, h.2.2.2.2.2.2.1, ⟨by show (0 : Int32) = nI 0; rw [nI_0], fun j hj => absurd hj (Nat.not_lt_zero j)⟩, ⟨by show (0 : Int32) = nI 0; rw [nI_0], fun j hj => absurd hj (Nat.not_lt_zero j)⟩, ⟨Nat.le_refl 0, Nat.le_refl 0⟩, fun a ha => by cases ha⟩
theorem LG.asY {t : Nat} (h : LG n0 n q c k f p τb σ τ L1 L2) (hp : p < 60) (hn : n ≤ 206) (ht : tru τ n t) : k_Mo_joinAs (nI t) 1 τ ∧ ∃ τ', f_Mo_joinAs (nI t) 1 τ = τ' ∧ (∀ x, tru τ n x → tru τ' n x) ∧ LG n0 n q c k f (p + 1) τb σ τ' L1 (jl (nI t) L2) := by
  obtain ⟨g1, g2, g3, g4, g5, g6, g7, ⟨g8, g9⟩, g10⟩ := h
  obtain ⟨b1, b2, b3, b4, b5⟩ := jM (a := nI t) g7 (by omega)
  have e0 : f_Mo_joinAs (nI t) 1 τ = f_Mo_join (nI t) τ := by
    show (if (1 : Int32) = 0 then _ else f_Mo_join (nI t) τ) = _
    rw [if_neg (by decide)]
  have hl := jl_len (nI t) L2
  have rw0 : ∀ m, rwM m τ (f_Mo_join (nI t) τ) := fun m c0 q1 q2 j hj => by rw [b3 c0 (by omega) (by omega)]
  refine ⟨⟨fun z => absurd z (by decide), fun _ => ⟨b1, trivial⟩⟩, f_Mo_join (nI t) τ, e0, fun x hx => ⟨hx.1, by rw [b3 6 (by omega) (by omega)]; exact hx.2⟩, g1.congM b3 b4, g2.cong (frC.rf σ) ⟨fun c0 hc => b3 c0 (by omega) (by omega), fun j _ q2 => b4 j q2, b5⟩ (rw0 n0), g3.tr (rw0 n0) (Nat.le_refl _), by rw [b4 0 (by omega)]; exact g4, fun x hx => by rw [b3 7 (by omega) (by omega)]; exact g5 x hx, g6, b2, ⟨by omega, by omega⟩, fun a ha => ?_⟩
  rcases jl_mem ha with rfl | ha
  · exact ⟨t, ht.1, rfl, by rw [b3 6 (by omega) (by omega)]; exact ht.2⟩
  · obtain ⟨x, x1, x2, x3⟩ := g10 a ha
    exact ⟨x, x1, x2, by rw [b3 6 (by omega) (by omega)]; exact x3⟩
theorem LG.asN {t : Nat} (h : LG n0 n q c k f p τb σ τ L1 L2) (hp : p < 60) (hn : n ≤ 205) (ht : tru τ n t) : k_Te_opposite (nI t) σ ∧ k_Mo_joinAs (nI t) 0 τ ∧ ∃ m n' σ' τ', f_Te_opposite (nI t) σ = (nI m, σ') ∧ f_Mo_joinAs (nI t) 0 τ = τ' ∧ n ≤ n' ∧ n' ≤ n + 1 ∧ (∀ x, tru τ n x → tru τ' n' x) ∧ tru τ' n' m ∧ LG n0 n' q c k f (p + 1) τb σ' τ' L1 (jl (nI m) L2) := by
  obtain ⟨g1, g2, g3, g4, g5, g6, g7, ⟨g8, g9⟩, g10⟩ := h
  obtain ⟨k1, k2, m, n', σ1, τ1, f1, f2, a1, a2, a3, a4, a5, a6, a7, a8, a9, a10⟩ := g1.opp0 (by omega) ht
  have h0 := g1.2.1
  have L0 : LG n0 n' q c k f p τb σ1 τ1 L1 L2 := by
    refine ⟨a4, g2.cong ⟨fun c0 hc => a6 c0 (by omega), a7⟩ ⟨fun c0 hc => a8 c0 (by omega), fun j q1 _ => a10 j q1, a9⟩ (fun c0 q1 q2 j hj => a5 c0 q1 q2 j (by omega)), g3.tr a5 h0, by rw [a10 0 (by omega)]; exact g4, fun x hx => by rw [a5 7 (by omega) (by omega) x (by omega)]; exact g5 x hx, by rw [a6 26 (by omega), a6 25 (by omega)]; exact g6, by rw [a8 20 (by omega), a10 28 (by omega)]; exact g7, ⟨g8, g9⟩, fun a ha => ?_⟩
    obtain ⟨x, x1, x2, x3⟩ := g10 a ha
    exact ⟨x, by omega, x2, by rw [a5 6 (by omega) (by omega) x x1]; exact x3⟩
  obtain ⟨b1, τ2, b2, b3, b4⟩ := L0.asY hp (by omega) a1
  have e1 : f_Mo_joinAs (nI m) 1 τ1 = f_Mo_join (nI m) τ1 := by
    show (if (1 : Int32) = 0 then _ else f_Mo_join (nI m) τ1) = _
    rw [if_neg (by decide)]
  refine ⟨k1, ⟨fun _ => ⟨k2, by rw [f2]; exact b1.2 (by decide)⟩, fun z => absurd rfl z⟩, m, n', σ1, τ2, f1, ?_, a2, a3, fun x hx => b3 x ⟨by have := hx.1; omega, by rw [a5 6 (by omega) (by omega) x hx.1]; exact hx.2⟩, b3 m a1, b4⟩
  show (if (0 : Int32) = 0 then f_Mo_join (f_Mo_opposite (nI t) τ).1 (f_Mo_opposite (nI t) τ).2 else _) = _
  rw [if_pos rfl, f2, ← b2, e1]
/-- the class catches up by one join -/
theorem LG.jc {t : Nat} (h : LG n0 n q c k f p τb σ τ L1 L2) (hp : p < 60) (ht : t < 400) : k_Ro_join (nI t) σ ∧ LG n0 n q c k f (p + 1) τb (f_Ro_join (nI t) σ) τ (jl (nI t) L1) L2 := by
  obtain ⟨g1, g2, g3, g4, g5, g6, g7, ⟨g8, g9⟩, g10⟩ := h
  obtain ⟨b1, b2, b3, b4⟩ := jC (a := nI t) g6 (by omega) (nI_ne_m1 (by omega))
  have hl := jl_len (nI t) L1
  exact ⟨b1, g1.congC b3 b4, g2.cong ⟨fun c0 hc => b3 c0 (by omega) (by omega), by rw [b3 6 (by omega) (by omega)]⟩ (frM.rf τ) (fun _ _ _ _ _ => rfl), g3, g4, g5, b2, g7, ⟨by omega, by omega⟩, g10⟩
theorem LG.pk (h : LG n0 n q c k f p τb σ τ L1 L1) (hp : p ≤ 60) : PK n0 n L1.length q c k f τb σ τ := by
  obtain ⟨g1, g2, g3, g4, g5, g6, g7, ⟨g8, g9⟩, g10⟩ := h
  refine ⟨⟨g1, by omega, g6.1, g7.1, fun j hj => (g6.2 j hj).trans (g7.2 j hj).symm⟩, g2, g3, g4, g5, fun j hj => ?_⟩
  rw [g7.2 j hj]
  obtain ⟨t, t1, t2, t3⟩ := g10 _ (List.getElem_mem hj)
  exact ⟨t, t1, t2, t3⟩
theorem LG.fin3 {m1 m2 m3 : Nat} (h : LG n0 n q c k f p τb σ τ [] (jl (nI m3) (jl (nI m2) (jl (nI m1) [])))) (hp : p ≤ 3) (h1 : m1 < 400) (h2 : m2 < 400) (h3 : m3 < 400) : k_CL_joinThree (nI m1) (nI m2) (nI m3) σ ∧ ∃ r' σ', f_CL_joinThree (nI m1) (nI m2) (nI m3) σ = (1, σ') ∧ r' ≤ 3 ∧ PK n0 n r' q c k f τb σ' τ := by
  obtain ⟨a1, a2⟩ := h.jc (by omega) h1
  obtain ⟨b1, b2⟩ := a2.jc (by omega) h2
  obtain ⟨c1, c2⟩ := b2.jc (by omega) h3
  refine ⟨⟨a1, b1, c1, trivial⟩, _, _, rfl, ?_, c2.pk (by omega)⟩
  have l1 := jl_len (nI m3) (jl (nI m2) (jl (nI m1) []))
  have l2 := jl_len (nI m2) (jl (nI m1) [])
  have l3 := jl_len (nI m1) []
  have l4 : ([] : List Int32).length = 0 := rfl
  omega
theorem LG.fin2 {m1 m2 : Nat} (h : LG n0 n q c k f p τb σ τ [] (jl (nI m2) (jl (nI m1) []))) (hp : p ≤ 3) (h1 : m1 < 400) (h2 : m2 < 400) : k_CL_joinThree (nI m1) (nI m2) (-1) σ ∧ ∃ r' σ', f_CL_joinThree (nI m1) (nI m2) (-1) σ = (1, σ') ∧ r' ≤ 3 ∧ PK n0 n r' q c k f τb σ' τ := by
  obtain ⟨a1, a2⟩ := h.jc (by omega) h1
  obtain ⟨b1, b2⟩ := a2.jc (by omega) h2
  refine ⟨⟨a1, b1, ⟨fun _ => trivial, fun z => absurd rfl z⟩, trivial⟩, _, f_Ro_join (nI m2) (f_Ro_join (nI m1) σ), ?_, ?_, b2.pk (by omega)⟩
  · show (1, (if (-1 : Int32) = -1 then f_Ro_join (nI m2) (f_Ro_join (nI m1) σ) else _)) = _
    rw [if_pos rfl]
  · have l2 := jl_len (nI m2) (jl (nI m1) [])
    have l3 := jl_len (nI m1) []
    have l4 : ([] : List Int32).length = 0 := rfl
    omega
end LGS
