-- opposites, equations, the row, within a call
/-- what a call leaves of the class's state beside terms and row -/
def frC (σ σ' : St) : Prop := (∀ c, c < 6 ∨ (17 < c ∧ ¬ c = 25 ∧ ¬ c = 26) → σ'.1 c = σ.1 c) ∧ σ'.1 6 12 = σ.1 6 12
def frM (τ τ' : St) : Prop := (∀ c, (1 ≤ c ∧ c < 5) ∨ (13 < c ∧ ¬ c = 20) → τ'.1 c = τ.1 c) ∧ (∀ j, ¬ j = 8 → ¬ j = 28 → τ'.1 0 j = τ.1 0 j) ∧ τ'.2 = τ.2
theorem frC.rf (σ : St) : frC σ σ := ⟨fun _ _ => rfl, rfl⟩
theorem frM.rf (τ : St) : frM τ τ := ⟨fun _ _ => rfl, fun _ _ _ => rfl, rfl⟩
theorem frC.tr {a b c : St} (h1 : frC a b) (h2 : frC b c) : frC a c := ⟨fun k hk => (h2.1 k hk).trans (h1.1 k hk), h2.2.trans h1.2⟩
theorem frM.tr {a b c : St} (h1 : frM a b) (h2 : frM b c) : frM a c := ⟨fun k hk => (h2.1 k hk).trans (h1.1 k hk), fun j q1 q2 => (h2.2.1 j q1 q2).trans (h1.2.1 j q1 q2), h2.2.2.trans h1.2.2⟩
/-- terms and row within a call -/
def TR (n0 n r : Nat) (σ τ : St) : Prop := TT n0 n σ τ ∧ RW r σ τ
/-- rows before n are as they were -/
def rwM (n : Nat) (τ τ' : St) : Prop := ∀ c, 5 ≤ c → c ≤ 13 → ∀ j, j < n → τ'.1 c j = τ.1 c j
theorem TR.make {σ τ : St} {n0 n r : Nat} {k s l a b : Int32} (h : TR n0 n r σ τ) (hn : n ≤ 206) (hk : ∃ i, i ≤ 10 ∧ k = nI i) (hk2 : ¬ k = 2) (hl : -1 ≤ l.toInt ∧ l.toInt ≤ 11) (hs : ∃ i, i < 5 ∧ s = nI i) (ha : tmO a n) (hb : tmO b n) (hab : a = -1 → b = -1)
    (hkd : ∀ τ' : St, τ'.1 5 n = k → τ'.1 6 n = s → τ'.1 8 n = a → τ'.1 9 n = b → τ'.1 10 n = l → (∀ c, 5 ≤ c → c ≤ 13 → ∀ j, j < n → τ'.1 c j = τ.1 c j) → kdW τ' n) (hsy : ∀ ny, τ.1 0 3 = nI ny → ny ≤ 12 → syW ny τ k s a b l) :
    k_Te_make k s l a b σ ∧ k_Mo_found k s a b l 0 0 τ ∧ ∃ m n' σ' τ', f_Te_make k s l a b σ = (nI m, σ') ∧ f_Mo_found k s a b l 0 0 τ = (nI m, τ') ∧ m < n' ∧ n ≤ n' ∧ n' ≤ n + 1 ∧ TR n0 n' r σ' τ' ∧ fdM τ' k a b l 0 0 m ∧ rwM n τ τ' ∧ frC σ σ' ∧ frM τ τ' ∧ τ'.1 20 = τ.1 20 := by
  obtain ⟨hT, hR⟩ := h
  obtain ⟨k1, k2, m, n', q1, q2, q3, q4, q5, q6, q7, q8, q9, q10, q11, q12, q13, q14⟩ := hT.make hn hk hk2 hl hs ha hb hab hkd hsy
  refine ⟨k1, k2, m, n', (f_Te_make k s l a b σ).2, (f_Mo_found k s a b l 0 0 τ).2, ?_, ?_, q1, q2, q3, ⟨q6, ?_⟩, q7, q8, ⟨fun c hc => q9 c (by omega), q11⟩, ⟨fun c hc => q12 c (by omega), fun j j1 _ => q14 j j1, q13⟩, q12 20 (by omega)⟩
  · rw [← q4]
  · rw [← q5]
  · obtain ⟨r1, r2, r3, r4⟩ := hR
    refine ⟨r1, ?_, ?_, ?_⟩
    · rw [q9 25 (by omega)]; exact r2
    · rw [q14 28 (by omega)]; exact r3
    · rw [q9 26 (by omega), q12 20 (by omega)]; exact r4
/-- a term that is a truth -/
def tru (τ : St) (n t : Nat) : Prop := t < n ∧ τ.1 6 t = 0
theorem acc_nI {σ : St} {n t : Nat} (hc : σ.1 6 11 = nI n) (hn : n ≤ 208) (ht : t < n) (f : Nat → Int32) (d : Int32) : (if f_Te_has (nI t) σ = 0 then d else f (nI t).toNatClampNeg) = f t := by
  rw [acc_eq hc hn (Or.inr ⟨t, ht, rfl⟩) f d, if_neg (nI_ne_m1 (by omega)), nI_clamp (by omega)]
theorem TT.opposite {σ τ : St} {n0 n r t : Nat} (h : TR n0 n r σ τ) (hn : n ≤ 206) (ht : tru τ n t) :
    k_Te_opposite (nI t) σ ∧ k_Mo_opposite (nI t) τ ∧ ∃ m n' σ' τ', f_Te_opposite (nI t) σ = (nI m, σ') ∧ f_Mo_opposite (nI t) τ = (nI m, τ') ∧ tru τ' n' m ∧ n ≤ n' ∧ n' ≤ n + 1 ∧ TR n0 n' r σ' τ' ∧ rwM n τ τ' ∧ frC σ σ' ∧ frM τ τ' ∧ τ'.1 20 = τ.1 20 := by
  obtain ⟨ht1, ht2⟩ := ht
  obtain ⟨⟨h1, h2, hT, hL, hK, e12, e9, hD⟩, hR⟩ := h
  have hcl : (nI t).toNatClampNeg = t := nI_clamp (by omega)
  obtain ⟨hE, hW⟩ := hT.2.2 t ht1
  have hin : vp_in (nI t) 400 := by rw [in_iff, i_nI (by omega)]; omega
  have ek : f_Te_kindOf (nI t) σ = τ.1 5 t := (acc_nI hT.1 (by omega) ht1 (σ.1 7) (-1)).trans hE.1
  have ef : f_Te_firstOf (nI t) σ = τ.1 8 t := (acc_nI hT.1 (by omega) ht1 (σ.1 10) (-1)).trans hE.2.2.2.1
  have ka := k_acc hT.1 (by omega) (nI t)
  by_cases h7 : τ.1 5 t = 7
  · have c1 : f_Te_kindOf (nI t) σ = 7 := ek.trans h7
    obtain ⟨a1, a2, a3, a4, a5⟩ := (hK.1 t ht1).2.2.2.2.2.2.1 h7
    obtain ⟨i, hi, ei⟩ := hW.1.resolve_left a1
    have si : τ.1 6 i = 0 := by
      have := a5
      unfold pO at this
      rw [if_neg a1, ei, nI_clamp (by omega)] at this
      exact this
    have c2 : τ.1 5 (nI t).toNatClampNeg = 7 := by rw [hcl]; exact h7
    refine ⟨⟨ka, fun _ => ⟨ka, trivial⟩, fun h9 => absurd c1 h9⟩, ⟨hin, fun _ => ⟨hin, trivial⟩, fun h9 => absurd c2 h9⟩, i, n, σ, τ, ?_, ?_, ⟨by omega, si⟩, Nat.le_refl n, Nat.le_succ n, ⟨⟨h1, h2, hT, hL, hK, e12, e9, hD⟩, hR⟩, fun _ _ _ _ _ => rfl, frC.rf σ, frM.rf τ, rfl⟩
    · show (if f_Te_kindOf (nI t) σ = 7 then (f_Te_firstOf (nI t) σ, σ) else _) = _
      rw [if_pos c1, ef, ei]
    · show (if τ.1 5 (nI t).toNatClampNeg = 7 then (τ.1 8 (nI t).toNatClampNeg, τ) else _) = _
      rw [if_pos c2, hcl, ei]
  · have c1 : ¬ f_Te_kindOf (nI t) σ = 7 := fun h9 => h7 (ek.symm.trans h9)
    have c2 : ¬ τ.1 5 (nI t).toNatClampNeg = 7 := by rw [hcl]; exact h7
    obtain ⟨k1, k2, m, n', σ', τ', f1, f2, q1, q2, q3, q4, q5, q6, q7, q8, q9⟩ := TR.make (k := 7) (s := 0) (l := -1) (a := nI t) (b := -1) ⟨⟨h1, h2, hT, hL, hK, e12, e9, hD⟩, hR⟩ hn ⟨7, by omega, by decide +kernel⟩ (by decide) (by decide) ⟨0, by omega, by decide +kernel⟩ (Or.inr ⟨t, ht1, rfl⟩) (Or.inl rfl) (fun h9 => absurd h9 (nI_ne_m1 (by omega)))
      (fun τ' r5 r6 r8 r9 r10 ag => by
        unfold kdW
        rw [r5, r6, r8, r9, r10]
        have na : ¬ nI t = -1 := nI_ne_m1 (by omega)
        have pa : pO (τ'.1 6) (nI t) = 0 := by unfold pO; rw [if_neg na, hcl, ag 6 (by omega) (by omega) t ht1]; exact ht2
        exact ⟨fun h9 => absurd h9 (by decide), fun h9 => absurd h9 (by decide), fun h9 => absurd h9 (by decide), fun h9 => absurd h9 (by decide), fun h9 => absurd h9 (by decide), fun h9 => absurd h9 (by decide), fun _ => ⟨na, rfl, rfl, rfl, pa⟩, fun h9 => absurd h9 (by decide), fun h9 => absurd h9 (by decide), fun h9 => absurd h9 (by decide)⟩) (fun _ _ _ => ⟨fun z => absurd z (by decide), fun z => absurd z (by decide)⟩)
    have sm : τ'.1 6 m = 0 := ((q4.1.2.2.2.2.1.1 m q1).2.2.2.2.2.2.1 q5.1).2.2.2.1
    refine ⟨⟨ka, fun h9 => absurd h9 c1, fun _ => ⟨k1, trivial⟩⟩, ⟨hin, fun h9 => absurd h9 c2, fun _ => ⟨⟨fun h9 => absurd h9 (by decide), fun _ => ⟨fun h9 => absurd h9 (by decide), fun _ => ⟨k2, trivial⟩⟩⟩, trivial⟩⟩, m, n', σ', τ', ?_, ?_, ⟨q1, sm⟩, q2, q3, q4, q6, q7, q8, q9⟩
    · show (if f_Te_kindOf (nI t) σ = 7 then _ else ((f_Te_make 7 0 (-1) (nI t) (-1) σ).1, (f_Te_make 7 0 (-1) (nI t) (-1) σ).2)) = _
      rw [if_neg c1, f1]
    · show (if τ.1 5 (nI t).toNatClampNeg = 7 then _ else ((f_Mo_made 7 (nI t) (-1) τ).1, (f_Mo_made 7 (nI t) (-1) τ).2)) = _
      have e0 : f_Mo_made 7 (nI t) (-1) τ = f_Mo_found 7 0 (nI t) (-1) (-1) 0 0 τ := by
        show (if (7 : Int32) = 3 then _ else (if (7 : Int32) = 4 then _ else ((f_Mo_found 7 0 (nI t) (-1) (-1) 0 0 τ).1, (f_Mo_found 7 0 (nI t) (-1) (-1) 0 0 τ).2))) = _
        rw [if_neg (by decide), if_neg (by decide)]
      rw [if_neg c2, e0, f2]
theorem TT.equation {σ τ : St} {n0 n r p q : Nat} (h : TR n0 n r σ τ) (hn : n ≤ 206) (hp : p < n) (hq : q < n) (hs : τ.1 6 p = τ.1 6 q) :
    k_Te_equation (nI p) (nI q) σ ∧ k_Mo_made 5 (nI p) (nI q) τ ∧ ∃ m n' σ' τ', f_Te_equation (nI p) (nI q) σ = (nI m, σ') ∧ f_Mo_made 5 (nI p) (nI q) τ = (nI m, τ') ∧ tru τ' n' m ∧ n ≤ n' ∧ n' ≤ n + 1 ∧ TR n0 n' r σ' τ' ∧ rwM n τ τ' ∧ frC σ σ' ∧ frM τ τ' ∧ τ'.1 20 = τ.1 20 := by
  have np : ¬ nI p = -1 := nI_ne_m1 (by omega)
  have nq : ¬ nI q = -1 := nI_ne_m1 (by omega)
  obtain ⟨k1, k2, m, n', σ', τ', f1, f2, q1, q2, q3, q4, q5, q6, q7, q8, q9⟩ := TR.make (k := 5) (s := 0) (l := -1) (a := nI p) (b := nI q) h hn ⟨5, by omega, by decide +kernel⟩ (by decide) (by decide) ⟨0, by omega, by decide +kernel⟩ (Or.inr ⟨p, hp, rfl⟩) (Or.inr ⟨q, hq, rfl⟩) (fun h9 => absurd h9 np)
    (fun τ' r5 r6 r8 r9 r10 ag => by
      unfold kdW
      rw [r5, r6, r8, r9, r10]
      have pa : pO (τ'.1 6) (nI p) = pO (τ'.1 6) (nI q) := by
        unfold pO
        rw [if_neg np, if_neg nq, nI_clamp (by omega), nI_clamp (by omega), ag 6 (by omega) (by omega) p hp, ag 6 (by omega) (by omega) q hq]
        exact hs
      exact ⟨fun h9 => absurd h9 (by decide), fun h9 => absurd h9 (by decide), fun h9 => absurd h9 (by decide), fun h9 => absurd h9 (by decide), fun _ => ⟨np, nq, rfl, rfl, pa⟩, fun h9 => absurd h9 (by decide), fun h9 => absurd h9 (by decide), fun h9 => absurd h9 (by decide), fun h9 => absurd h9 (by decide), fun h9 => absurd h9 (by decide)⟩) (fun _ _ _ => ⟨fun z => absurd z (by decide), fun z => absurd z (by decide)⟩)
  have sm : τ'.1 6 m = 0 := ((q4.1.2.2.2.2.1.1 m q1).2.2.2.2.1 q5.1).2.2.2.1
  refine ⟨⟨k1, trivial⟩, ⟨fun h9 => absurd h9 (by decide), fun _ => ⟨fun h9 => absurd h9 (by decide), fun _ => ⟨k2, trivial⟩⟩⟩, m, n', σ', τ', ?_, ?_, ⟨q1, sm⟩, q2, q3, q4, q6, q7, q8, q9⟩
  · show ((f_Te_make 5 0 (-1) (nI p) (nI q) σ).1, (f_Te_make 5 0 (-1) (nI p) (nI q) σ).2) = _
    rw [f1]
  · show (if (5 : Int32) = 3 then _ else (if (5 : Int32) = 4 then _ else ((f_Mo_found 5 0 (nI p) (nI q) (-1) 0 0 τ).1, (f_Mo_found 5 0 (nI p) (nI q) (-1) 0 0 τ).2))) = _
    rw [if_neg (by decide), if_neg (by decide), f2]
theorem TR.join {σ τ : St} {n0 n r : Nat} {a : Int32} (h : TR n0 n r σ τ) (hr : r < 68) (ha : ¬ a = -1) :
    k_Ro_join a σ ∧ k_Mo_join a τ ∧ ∃ r', r ≤ r' ∧ r' ≤ r + 1 ∧ TR n0 n r' (f_Ro_join a σ) (f_Mo_join a τ) ∧ frC σ (f_Ro_join a σ) ∧ frM τ (f_Mo_join a τ) ∧ (∀ c, 5 ≤ c → c ≤ 13 → (f_Mo_join a τ).1 c = τ.1 c) ∧ (∀ j, j < r' → (f_Mo_join a τ).1 20 j = a ∨ (j < r ∧ (f_Mo_join a τ).1 20 j = τ.1 20 j)) := by
  obtain ⟨hT, hR⟩ := h
  obtain ⟨k1, k2, hc⟩ := join_sim hR hr ha
  refine ⟨k1, k2, ?_⟩
  rcases hc with ⟨f1, f2, -⟩ | ⟨f1, f2, hR'⟩
  · rw [f1, f2]
    exact ⟨r, Nat.le_refl r, Nat.le_succ r, ⟨hT, hR⟩, frC.rf σ, frM.rf τ, fun _ _ _ => rfl, fun j hj => Or.inr ⟨hj, rfl⟩⟩
  · rw [f1, f2] at hR' ⊢
    have hcl : (nI r).toNatClampNeg = r := nI_clamp (by omega)
    have aC : ∀ c, ¬ c = 25 → ¬ c = 26 → (sF (sA σ 26 (nI r) a) 25 1 (nI r + 1)).1 c = σ.1 c := fun c q1 q2 => by
      show pu (pu σ.1 26 _) 25 _ c = _
      rw [pu_at, if_neg q1, pu_at, if_neg q2]
    have aM : ∀ c, ¬ c = 0 → ¬ c = 20 → (sF (sA τ 20 (nI r) a) 0 28 (nI r + 1)).1 c = τ.1 c := fun c q1 q2 => by
      show pu (pu τ.1 20 _) 0 _ c = _
      rw [pu_at, if_neg q1, pu_at, if_neg q2]
    have aM0 : ∀ j, ¬ j = 28 → (sF (sA τ 20 (nI r) a) 0 28 (nI r + 1)).1 0 j = τ.1 0 j := fun j q1 => by
      show pu (τ.1 0) 28 _ j = _
      rw [pu_at, if_neg q1]
    obtain ⟨h1, h2, hTM, hL, hK, e12, e9, hD⟩ := hT
    refine ⟨r + 1, Nat.le_succ r, Nat.le_refl _, ⟨⟨h1, h2, hTM.cong (fun c q1 q2 => aC c (by omega) (by omega)) rfl (aM0 8 (by omega)) (fun c q1 q2 => aM c (by omega) (by omega)), hL, hK, e12, e9, hD⟩, hR'⟩, ⟨fun c hc => aC c (by omega) (by omega), rfl⟩, ⟨fun c hc => aM c (by omega) (by omega), fun j _ q2 => aM0 j q2, rfl⟩, fun c q1 q2 => aM c (by omega) (by omega), fun j hj => ?_⟩
    show upd (τ.1 20) (nI r).toNatClampNeg a j = a ∨ (j < r ∧ upd (τ.1 20) (nI r).toNatClampNeg a j = τ.1 20 j)
    rw [upd_at, hcl]
    by_cases e : j = r
    · rw [if_pos e]; exact Or.inl rfl
    · rw [if_neg e]; exact Or.inr ⟨by omega, rfl⟩
