-- the invariant between calls, and how a call ends
/-- the scopes on the way out of k -/
def chn (A : Nat → Int32) : Nat → Nat → List Nat
  | 0, _ => []
  | f + 1, k => if k = 0 then [] else k :: chn A f (A k).toNatClampNeg
def SC (q c : Nat) (σ τ : St) : Prop := q ≤ 20 ∧ c ≤ q ∧ σ.1 27 3 = nI (q + 1) ∧ τ.1 0 24 = nI q ∧ σ.1 27 4 = nI c ∧ τ.1 0 25 = nI c ∧ σ.1 29 0 = 0 ∧ (σ.1 30 0 = 0 ∧ ∀ j, q < j → σ.1 30 j = 0 ∧ τ.1 19 j = 0) ∧
  (∀ k, 1 ≤ k → k ≤ q → σ.1 28 k = τ.1 18 k ∧ σ.1 30 k = τ.1 19 k ∧ (τ.1 19 k = 0 ∨ τ.1 19 k = 1) ∧ ∃ a d, a < k ∧ τ.1 18 k = nI a ∧ d ≤ a ∧ σ.1 29 a = nI d ∧ σ.1 29 k = nI (d + 1)) ∧
  ∀ k, 1 ≤ k → k ≤ q → (τ.1 19 k = 0 ↔ k ∈ chn (τ.1 18) 21 c)
def SP (n q k : Nat) (σ τ : St) : Prop := k ≤ 60 ∧ σ.1 31 4 = nI k ∧ τ.1 0 19 = nI k ∧ ∀ i, i < k → σ.1 34 i = τ.1 16 i ∧ (∃ s, s ≤ q ∧ τ.1 16 i = nI s) ∧ σ.1 35 i = τ.1 17 i ∧ ∃ z, z ≤ 8 ∧ σ.1 33 i = nI z ∧ τ.1 14 i = nI z ∧ (τ.1 17 i = 0 ∨ (τ.1 17 i = 1 ∧ 1 ≤ z)) ∧
  ∀ j, j < z → σ.1 32 (8 * i + j) = τ.1 15 (8 * i + j) ∧ ∃ t, t < n ∧ τ.1 15 (8 * i + j) = nI t ∧ τ.1 6 t = 0
def FL (f : Nat) (σ τ : St) : Prop := f ≤ 60 ∧ σ.1 0 10 = nI f ∧ τ.1 0 1 = nI f
/-- all beside terms and row -/
def RS (n q c k f : Nat) (σ τ : St) : Prop := SG σ τ ∧ DF σ τ ∧ SC q c σ τ ∧ SP n q k σ τ ∧ FL f σ τ
theorem RS.cong {σ σ' τ τ' : St} {n q c k f : Nat} (h : RS n q c k f σ τ) (h1 : frC σ σ') (h2 : frM τ τ') (h3 : rwM n τ τ') : RS n q c k f σ' τ' := by
  obtain ⟨hG, hF, hC, hP, hL⟩ := h
  refine ⟨hG.cong (fun c q1 q2 => h1.1 c (by omega)) (fun c q1 q2 => h2.1 c (by omega)) (fun j q1 q2 => h2.2.1 j (by omega) (by omega)), hF.cong (by rw [h1.1 18 (by omega)]) (h1.1 19 (by omega)) (h2.2.1 30 (by omega) (by omega)) (h2.1 21 (by omega)), ?_, ?_, ?_⟩
  · unfold SC at hC ⊢
    rw [h1.1 27 (by omega), h1.1 28 (by omega), h1.1 29 (by omega), h1.1 30 (by omega), h2.1 18 (by omega), h2.1 19 (by omega), h2.2.1 24 (by omega) (by omega), h2.2.1 25 (by omega) (by omega)]
    exact hC
  · obtain ⟨p1, p2, p3, p4⟩ := hP
    refine ⟨p1, by rw [h1.1 31 (by omega)]; exact p2, by rw [h2.2.1 19 (by omega) (by omega)]; exact p3, fun i hi => ?_⟩
    obtain ⟨r1, r2, r3, z, r4, r5, r6, r7, r8⟩ := p4 i hi
    rw [h1.1 32 (by omega), h1.1 33 (by omega), h1.1 34 (by omega), h1.1 35 (by omega), h2.1 14 (by omega), h2.1 15 (by omega), h2.1 16 (by omega), h2.1 17 (by omega)]
    refine ⟨r1, r2, r3, z, r4, r5, r6, r7, fun j hj => ?_⟩
    obtain ⟨s1, t, s2, s3, s4⟩ := r8 j hj
    exact ⟨s1, t, s2, s3, by rw [h3 6 (by omega) (by omega) t s2]; exact s4⟩
  · unfold FL at hL ⊢
    rw [h1.1 0 (by omega), h2.2.1 1 (by omega) (by omega)]
    exact hL
/-- the invariant but for the balance -/
def IV (n q c k f : Nat) (σ τ : St) : Prop := n ≤ 100 ∧ TM n σ τ ∧ LN n σ τ ∧ KD n τ ∧ σ.1 6 12 = nI n ∧ σ.1 6 13 = 0 ∧ (∀ t, t < n → τ.1 7 t ≤ 12) ∧ RS n q c k f σ τ
/-- a call begins -/
theorem IV.begin {n q c k f : Nat} {σ τ : St} (h : IV n q c k f σ τ) : TT n n σ (bg τ) ∧ RS n q c k f σ (bg τ) ∧ TR n n 0 (sF σ 25 1 0) (bg τ) ∧ RS n q c k f (sF σ 25 1 0) (bg τ) := by
  obtain ⟨h1, hT, hL, hK, h2, h3, h4, hR⟩ := h
  have e9 : (bg τ).1 0 9 = nI n := hT.2.1
  have hT1 : TT n n σ (bg τ) := ⟨h1, Nat.le_refl n, hT, hL, hK, h2, e9, Or.inl ⟨h3, fun t q1 q2 => absurd q1 (by omega)⟩⟩
  refine ⟨hT1, hR, ⟨⟨h1, Nat.le_refl n, hT, hL, hK, h2, e9, Or.inl ⟨h3, fun t q1 q2 => absurd q1 (by omega)⟩⟩, by omega, by rw [nI_0]; rfl, by rw [nI_0]; rfl, fun j hj => absurd hj (Nat.not_lt_zero j)⟩, hR⟩
/-- a refused call: the terms on trial are gone -/
theorem IV.refuse {n0 n q c k f : Nat} {σ τ : St} (hT : TT n0 n σ τ) (hR : RS n0 q c k f σ τ) (hd : ∀ t, t < n0 → τ.1 7 t ≤ 12) (hf : f < 60) (x : Int32) : IV n0 q c k (f + 1) (un σ) (fl x τ) := by
  obtain ⟨h1, h2, hM, hL, hK, e12, e9, -⟩ := hT
  obtain ⟨r1, r2, r3, r4, r5, r6, r7⟩ := hR
  refine ⟨h1, ⟨e12, e9, fun t ht => hM.2.2 t (by omega)⟩, fun t ht => hL t (by omega), ⟨fun t ht => hK.1 t (by omega), hK.2.le (by omega)⟩, e12, rfl, hd, r1, r2, r3, r4, by omega, ?_, ?_⟩
  · show σ.1 0 10 + 1 = _
    rw [r6, nI_succ]
  · show τ.1 0 1 + 1 = _
    rw [r7, nI_succ]
