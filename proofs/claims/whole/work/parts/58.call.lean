-- the state within a call: what both sides have done so far
theorem TM.cong {σ σ' τ τ' : St} {n : Nat} (h : TM n σ τ) (h1 : ∀ c, 6 ≤ c → c ≤ 16 → σ'.1 c = σ.1 c) (h2 : σ'.2 17 = σ.2 17) (h3 : τ'.1 0 8 = τ.1 0 8) (h4 : ∀ c, 5 ≤ c → c ≤ 13 → τ'.1 c = τ.1 c) : TM n σ' τ' := by
  unfold TM tmE tmW kyR at *
  rw [h1 6 (by omega) (by omega), h1 7 (by omega) (by omega), h1 8 (by omega) (by omega), h1 9 (by omega) (by omega), h1 10 (by omega) (by omega), h1 11 (by omega) (by omega), h1 12 (by omega) (by omega), h1 13 (by omega) (by omega), h1 14 (by omega) (by omega), h1 16 (by omega) (by omega), h2, h3, h4 5 (by omega) (by omega), h4 6 (by omega) (by omega), h4 7 (by omega) (by omega), h4 8 (by omega) (by omega), h4 9 (by omega) (by omega), h4 10 (by omega) (by omega), h4 11 (by omega) (by omega), h4 12 (by omega) (by omega), h4 13 (by omega) (by omega)]
  exact h
theorem dig_any (σ σ' : St) : ∀ (n : Nat) (x y : Int32), f_Wr_digitsOf_7 n x y σ = f_Wr_digitsOf_7 n x y σ' := by
  intro n
  induction n with
  | zero => intro x y; rfl
  | succ n ih =>
    intro x y
    show (if y ≤ 0 then x else (if 10 ≤ x then x else f_Wr_digitsOf_7 n (x + 1) (y / 10) σ)) = (if y ≤ 0 then x else (if 10 ≤ x then x else f_Wr_digitsOf_7 n (x + 1) (y / 10) σ'))
    rw [ih]
theorem digits_any (σ σ' : St) (x : Int32) : f_Wr_digitsOf x σ = f_Wr_digitsOf x σ' := dig_any σ σ' 1000 1 (x / 10)
theorem lenC_any (σ σ' : St) (p q : Int32) : f_Wr_lengthOfConstant p q σ = f_Wr_lengthOfConstant p q σ' := by
  unfold f_Wr_lengthOfConstant f_Wr_lengthOfConstant_9 f_Wr_lengthOfConstant_18 f_Wr_lengthOfConstant_35
  rw [digits_any σ σ', digits_any σ σ' q]
/-- how long the texts are -/
def LN (n : Nat) (σ τ : St) : Prop := ∀ t, t < n → (¬ τ.1 5 t = 2 → σ.1 15 t = lnW (σ.1 15) (τ.1 5 t) (τ.1 8 t) (τ.1 9 t)) ∧ (τ.1 5 t = 2 → ∀ σ' : St, σ.1 15 t = f_Wr_lengthOfConstant (τ.1 11 t) (τ.1 12 t) σ')
theorem lnW_cong {f g : Nat → Int32} {k a b : Int32} {t n : Nat} (ha : tmO a t) (hb : tmO b t) (ht : t ≤ n) (hn : n < 2147483648) (h : ∀ j, j < n → g j = f j) : lnW g k a b = lnW f k a b := by
  unfold lnW; rw [pO_cong ha ht hn h, pO_cong hb ht hn h]
/-- what each kind of row is of -/
def kdW (τ : St) (t : Nat) : Prop :=
  (τ.1 5 t = 0 → 0 ≤ (τ.1 10 t).toInt) ∧
  (τ.1 5 t = 1 → τ.1 8 t = -1 ∧ 0 ≤ (τ.1 10 t).toInt ∧ (τ.1 10 t).toInt ≤ 2) ∧
  (τ.1 5 t = 3 → ¬ τ.1 8 t = -1 ∧ ¬ τ.1 9 t = -1 ∧ τ.1 10 t = -1 ∧ τ.1 6 t = 1 ∧ pO (τ.1 6) (τ.1 8 t) = 1 ∧ pO (τ.1 6) (τ.1 9 t) = 1) ∧
  (τ.1 5 t = 4 → ¬ τ.1 8 t = -1 ∧ ¬ τ.1 9 t = -1 ∧ τ.1 10 t = -1 ∧ τ.1 6 t = 1 ∧ pO (τ.1 5) (τ.1 8 t) = 2 ∧ pO (τ.1 6) (τ.1 9 t) = 1) ∧
  (τ.1 5 t = 5 → ¬ τ.1 8 t = -1 ∧ ¬ τ.1 9 t = -1 ∧ τ.1 10 t = -1 ∧ τ.1 6 t = 0 ∧ pO (τ.1 6) (τ.1 8 t) = pO (τ.1 6) (τ.1 9 t)) ∧
  (τ.1 5 t = 6 → ¬ τ.1 8 t = -1 ∧ ¬ τ.1 9 t = -1 ∧ τ.1 10 t = -1 ∧ τ.1 6 t = 0 ∧ pO (τ.1 6) (τ.1 8 t) = 1 ∧ pO (τ.1 6) (τ.1 9 t) = 1) ∧
  (τ.1 5 t = 7 → ¬ τ.1 8 t = -1 ∧ τ.1 9 t = -1 ∧ τ.1 10 t = -1 ∧ τ.1 6 t = 0 ∧ pO (τ.1 6) (τ.1 8 t) = 0) ∧
  (τ.1 5 t = 8 → ¬ τ.1 8 t = -1 ∧ ¬ τ.1 9 t = -1 ∧ τ.1 10 t = -1 ∧ τ.1 6 t = 0 ∧ pO (τ.1 6) (τ.1 8 t) = 0 ∧ pO (τ.1 6) (τ.1 9 t) = 0) ∧
  (τ.1 5 t = 9 → ¬ τ.1 8 t = -1 ∧ ¬ τ.1 9 t = -1 ∧ τ.1 10 t = -1 ∧ τ.1 6 t = 0 ∧ pO (τ.1 6) (τ.1 8 t) = 0 ∧ pO (τ.1 6) (τ.1 9 t) = 0) ∧
  (τ.1 5 t = 10 → ¬ τ.1 8 t = -1 ∧ τ.1 9 t = -1 ∧ 0 ≤ (τ.1 10 t).toInt ∧ (τ.1 10 t).toInt ≤ 2 ∧ τ.1 6 t = 0 ∧ pO (τ.1 6) (τ.1 8 t) = 0)
/-- a symbol's row has the parts that its symbol asks for, a variable's the variable's sort -/
def syW (ny : Nat) (τ : St) (k s a b l : Int32) : Prop := (k = 0 → ∃ i, i < ny ∧ l = nI i ∧ (a = -1 ↔ τ.1 2 i = -1) ∧ (b = -1 ↔ τ.1 3 i = -1) ∧ s = τ.1 1 i) ∧ (k = 1 → s = τ.1 4 l.toNatClampNeg)
def SY (n : Nat) (τ : St) : Prop := ∃ ny, ny ≤ 12 ∧ τ.1 0 3 = nI ny ∧ ∀ t, t < n → syW ny τ (τ.1 5 t) (τ.1 6 t) (τ.1 8 t) (τ.1 9 t) (τ.1 10 t)
theorem SY.le {n m : Nat} {τ : St} (h : SY n τ) (hm : m ≤ n) : SY m τ := by
  obtain ⟨ny, h1, h2, h3⟩ := h
  exact ⟨ny, h1, h2, fun t ht => h3 t (by omega)⟩
theorem SY.cong {n : Nat} {τ τ' : St} (h : SY n τ) (e : ∀ c, 5 ≤ c → c ≤ 13 → ∀ j, j < n → τ'.1 c j = τ.1 c j) (e2 : ∀ c, 1 ≤ c → c < 5 → τ'.1 c = τ.1 c) (e3 : τ'.1 0 3 = τ.1 0 3) : SY n τ' := by
  obtain ⟨ny, h1, h2, h3⟩ := h
  refine ⟨ny, h1, e3.trans h2, fun t ht => ?_⟩
  unfold syW
  rw [e 5 (by omega) (by omega) t ht, e 6 (by omega) (by omega) t ht, e 8 (by omega) (by omega) t ht, e 9 (by omega) (by omega) t ht, e 10 (by omega) (by omega) t ht, e2 1 (by omega) (by omega), e2 2 (by omega) (by omega), e2 3 (by omega) (by omega), e2 4 (by omega) (by omega)]
  exact h3 t ht
def KD (n : Nat) (τ : St) : Prop := (∀ t, t < n → kdW τ t) ∧ SY n τ
theorem kdW.cong {τ τ' : St} {t n : Nat} (ht : t < n) (hn : n < 2147483648) (ha : tmO (τ.1 8 t) t) (hb : tmO (τ.1 9 t) t) (h : kdW τ t) (e : ∀ c, 5 ≤ c → c ≤ 13 → ∀ j, j < n → τ'.1 c j = τ.1 c j) : kdW τ' t := by
  unfold kdW at *
  rw [e 5 (by omega) (by omega) t ht, e 6 (by omega) (by omega) t ht, e 8 (by omega) (by omega) t ht, e 9 (by omega) (by omega) t ht, e 10 (by omega) (by omega) t ht,
    pO_cong ha (Nat.le_of_lt ht) hn (e 6 (by omega) (by omega)), pO_cong hb (Nat.le_of_lt ht) hn (e 6 (by omega) (by omega)), pO_cong ha (Nat.le_of_lt ht) hn (e 5 (by omega) (by omega))]
  exact h
/-- the trial's terms: which of them is too deep -/
def DP (n0 n : Nat) (σ τ : St) : Prop := (σ.1 6 13 = 0 ∧ ∀ t, n0 ≤ t → t < n → τ.1 7 t ≤ 12) ∨ (σ.1 6 13 = 1 ∧ ∃ t, n0 ≤ t ∧ t < n ∧ ¬ τ.1 7 t ≤ 12)
/-- n0 terms that are kept, n with those on trial -/
def TT (n0 n : Nat) (σ τ : St) : Prop := n0 ≤ 100 ∧ n0 ≤ n ∧ TM n σ τ ∧ LN n σ τ ∧ KD n τ ∧ σ.1 6 12 = nI n0 ∧ τ.1 0 9 = nI n0 ∧ DP n0 n σ τ
/-- one more term that isn't a constant: the same number on both sides -/
theorem TT.make {σ τ : St} {n0 n : Nat} {k s l a b : Int32} (h : TT n0 n σ τ) (hn : n ≤ 206) (hk : ∃ i, i ≤ 10 ∧ k = nI i) (hk2 : ¬ k = 2) (hl : -1 ≤ l.toInt ∧ l.toInt ≤ 11) (hs : ∃ i, i < 5 ∧ s = nI i) (ha : tmO a n) (hb : tmO b n) (hab : a = -1 → b = -1)
    (hkd : ∀ τ' : St, τ'.1 5 n = k → τ'.1 6 n = s → τ'.1 8 n = a → τ'.1 9 n = b → τ'.1 10 n = l → (∀ c, 5 ≤ c → c ≤ 13 → ∀ j, j < n → τ'.1 c j = τ.1 c j) → kdW τ' n) (hsy : ∀ ny, τ.1 0 3 = nI ny → ny ≤ 12 → syW ny τ k s a b l) :
    k_Te_make k s l a b σ ∧ k_Mo_found k s a b l 0 0 τ ∧ ∃ m n', m < n' ∧ n ≤ n' ∧ n' ≤ n + 1 ∧ (f_Te_make k s l a b σ).1 = nI m ∧ (f_Mo_found k s a b l 0 0 τ).1 = nI m ∧ TT n0 n' (f_Te_make k s l a b σ).2 (f_Mo_found k s a b l 0 0 τ).2 ∧
      fdM (f_Mo_found k s a b l 0 0 τ).2 k a b l 0 0 m ∧ (∀ c, 5 ≤ c → c ≤ 13 → ∀ j, j < n → (f_Mo_found k s a b l 0 0 τ).2.1 c j = τ.1 c j) ∧
      (∀ c, c < 6 ∨ 17 < c → (f_Te_make k s l a b σ).2.1 c = σ.1 c) ∧ (∀ c, ¬ c = 17 → (f_Te_make k s l a b σ).2.2 c = σ.2 c) ∧ (f_Te_make k s l a b σ).2.1 6 12 = σ.1 6 12 ∧
      (∀ c, 13 < c ∨ (1 ≤ c ∧ c < 5) → (f_Mo_found k s a b l 0 0 τ).2.1 c = τ.1 c) ∧ (f_Mo_found k s a b l 0 0 τ).2.2 = τ.2 ∧ ∀ j, ¬ j = 8 → (f_Mo_found k s a b l 0 0 τ).2.1 0 j = τ.1 0 j := by
  obtain ⟨h1, h2, hT, hL, hK, e12, e9, hD⟩ := h
  have hkr : 0 ≤ k.toInt ∧ k.toInt ≤ 10 := by
    obtain ⟨i, q1, q2⟩ := hk
    rw [q2, i_nI (by omega)]; omega
  obtain ⟨k1, k2, hc⟩ := mk_sim (s := s) hT hn hkr hk2 hl ha hb hab
  refine ⟨k1, k2, ?_⟩
  rcases hc with ⟨m, hm, hM, f1, f2⟩ | ⟨f1, f2⟩
  · rw [f1, f2]
    exact ⟨m, n, hm, Nat.le_refl n, Nat.le_succ n, rfl, rfl, ⟨h1, h2, hT, hL, hK, e12, e9, hD⟩, hM, fun _ _ _ _ _ => rfl, fun _ _ => rfl, fun _ _ => rfl, rfl, fun _ _ => rfl, rfl, fun _ _ => rfl⟩
  · rw [f1, f2]
    have hcl : (nI n).toNatClampNeg = n := nI_clamp (by omega)
    have up : ∀ (f : Nat → Int32) (v : Int32), upd f (nI n).toNatClampNeg v n = v := fun f v => by rw [upd_at, hcl, if_pos rfl]
    have agM : ∀ c, 5 ≤ c → c ≤ 13 → ∀ j, j < n → (mNew τ n k s a b l 0 0 (dpW (τ.1 7) a b) (frW (τ.1 13) k l a b)).1 c j = τ.1 c j := fun c q1 q2 j hj => mNew_at (by omega) c q1 q2 j (by omega)
    have agC := cNew_at (σ := σ) (n := n) (key := ky k l a b) (k := k) (s := s) (l := l) (a := a) (b := b) (dp := dpW (σ.1 14) a b) (ln := lnW (σ.1 15) k a b) (fr := frW (σ.1 16) k l a b) (dv := if σ.1 6 13 = 0 then (if dpW (σ.1 14) a b ≤ 12 then 0 else 1) else 1) (by omega)
    have eD : dpW (σ.1 14) a b = dpW (τ.1 7) a b := dpW_cong ha hb (Nat.le_refl n) (by omega) (fun j hj => (hT.2.2 j hj).1.2.2.2.2.2.1)
    have hT' := hT.new (by omega) hk hk2 hl hs ha hb hab (if σ.1 6 13 = 0 then (if dpW (σ.1 14) a b ≤ 12 then 0 else 1) else 1) (lnW (σ.1 15) k a b)
    refine ⟨n, n + 1, by omega, by omega, by omega, rfl, rfl, ⟨h1, by omega, hT', ?_, ?_, e12, e9, ?_⟩, ⟨up _ _, up _ _, up _ _, up _ _, up _ _, up _ _⟩, agM, fun c hc => ?_, fun c hc => ?_, rfl, fun c hc => ?_, rfl, fun j hj => ?_⟩
    · -- lengths
      intro t ht
      by_cases e : t = n
      · subst e
        have r5 : (mNew τ t k s a b l 0 0 (dpW (τ.1 7) a b) (frW (τ.1 13) k l a b)).1 5 t = k := up _ _
        have r8 : (mNew τ t k s a b l 0 0 (dpW (τ.1 7) a b) (frW (τ.1 13) k l a b)).1 8 t = a := up _ _
        have r9 : (mNew τ t k s a b l 0 0 (dpW (τ.1 7) a b) (frW (τ.1 13) k l a b)).1 9 t = b := up _ _
        refine ⟨fun _ => ?_, fun h9 => absurd (r5.symm.trans h9) hk2⟩
        rw [r5, r8, r9, lnW_cong ha hb (Nat.le_refl t) (by omega) (fun j hj => agC.1 15 (by omega) (by omega) j (by omega))]
        exact up _ _
      · have ht' : t < n := by omega
        obtain ⟨q1, q2⟩ := hL t ht'
        have hW := (hT.2.2 t ht').2
        rw [agM 5 (by omega) (by omega) t ht', agM 8 (by omega) (by omega) t ht', agM 9 (by omega) (by omega) t ht', agM 11 (by omega) (by omega) t ht', agM 12 (by omega) (by omega) t ht', agC.1 15 (by omega) (by omega) t e,
          lnW_cong hW.1 hW.2.1 (Nat.le_of_lt ht') (by omega) (fun j hj => agC.1 15 (by omega) (by omega) j (by omega))]
        exact ⟨q1, q2⟩
    · -- kinds
      refine ⟨fun t ht => ?_, ?_⟩
      · by_cases e : t = n
        · rw [e]
          exact hkd _ (up _ _) (up _ _) (up _ _) (up _ _) (up _ _) agM
        · have ht' : t < n := by omega
          have hW := (hT.2.2 t ht').2
          exact (hK.1 t ht').cong ht' (by omega) hW.1 hW.2.1 agM
      · obtain ⟨ny, y1, y2, y3⟩ := hK.2
        refine ⟨ny, y1, y2, fun t ht => ?_⟩
        by_cases e : t = n
        · have w := hsy ny y2 y1
          have r5 : (mNew τ n k s a b l 0 0 (dpW (τ.1 7) a b) (frW (τ.1 13) k l a b)).1 5 n = k := up _ _
          have r6 : (mNew τ n k s a b l 0 0 (dpW (τ.1 7) a b) (frW (τ.1 13) k l a b)).1 6 n = s := up _ _
          have r8 : (mNew τ n k s a b l 0 0 (dpW (τ.1 7) a b) (frW (τ.1 13) k l a b)).1 8 n = a := up _ _
          have r9 : (mNew τ n k s a b l 0 0 (dpW (τ.1 7) a b) (frW (τ.1 13) k l a b)).1 9 n = b := up _ _
          have r10 : (mNew τ n k s a b l 0 0 (dpW (τ.1 7) a b) (frW (τ.1 13) k l a b)).1 10 n = l := up _ _
          rw [e, r5, r6, r8, r9, r10]; exact w
        · have ht' : t < n := by omega
          rw [agM 5 (by omega) (by omega) t ht', agM 6 (by omega) (by omega) t ht', agM 8 (by omega) (by omega) t ht', agM 9 (by omega) (by omega) t ht', agM 10 (by omega) (by omega) t ht']
          exact y3 t ht'
    · -- depth
      have r7 : (mNew τ n k s a b l 0 0 (dpW (τ.1 7) a b) (frW (τ.1 13) k l a b)).1 7 n = dpW (τ.1 7) a b := up _ _
      have r13 : (cNew σ n (ky k l a b) k s l a b (dpW (σ.1 14) a b) (lnW (σ.1 15) k a b) (frW (σ.1 16) k l a b) (if σ.1 6 13 = 0 then (if dpW (σ.1 14) a b ≤ 12 then 0 else 1) else 1)).1 6 13 = (if σ.1 6 13 = 0 then (if dpW (σ.1 14) a b ≤ 12 then 0 else 1) else 1) := rfl
      unfold DP
      rw [r13, eD]
      rcases hD with ⟨d1, d2⟩ | ⟨d1, t, d2, d3, d4⟩
      · rw [if_pos d1]
        by_cases h9 : dpW (τ.1 7) a b ≤ 12
        · rw [if_pos h9]
          refine Or.inl ⟨rfl, fun t q1 q2 => ?_⟩
          by_cases e : t = n
          · rw [e, r7]; exact h9
          · rw [agM 7 (by omega) (by omega) t (by omega)]; exact d2 t q1 (by omega)
        · rw [if_neg h9]
          exact Or.inr ⟨rfl, n, h2, by omega, by rw [r7]; exact h9⟩
      · rw [if_neg (by rw [d1]; decide)]
        exact Or.inr ⟨rfl, t, d2, by omega, by rw [agM 7 (by omega) (by omega) t d3]; exact d4⟩
    · funext j
      unfold cNew
      have q6 : ¬ c = 6 := by omega
      have q7 : ¬ c = 7 := by omega
      have q8 : ¬ c = 8 := by omega
      have q9 : ¬ c = 9 := by omega
      have q10 : ¬ c = 10 := by omega
      have q11 : ¬ c = 11 := by omega
      have q14 : ¬ c = 14 := by omega
      have q15 : ¬ c = 15 := by omega
      have q16 : ¬ c = 16 := by omega
      simp only [sF1c, sA1c, sL1, q6, q7, q8, q9, q10, q11, q14, q15, q16, false_and, if_false]
    · show pu σ.2 17 _ c = _
      rw [pu_at, if_neg hc]
    · funext j
      unfold mNew
      have q0 : ¬ c = 0 := by omega
      have q5 : ¬ c = 5 := by omega
      have q6 : ¬ c = 6 := by omega
      have q7 : ¬ c = 7 := by omega
      have q8 : ¬ c = 8 := by omega
      have q9 : ¬ c = 9 := by omega
      have q10 : ¬ c = 10 := by omega
      have q11 : ¬ c = 11 := by omega
      have q12 : ¬ c = 12 := by omega
      have q13 : ¬ c = 13 := by omega
      simp only [sF1c, sA1c, q0, q5, q6, q7, q8, q9, q10, q11, q12, q13, false_and, if_false]
    · show pu (τ.1 0) 8 _ j = _
      rw [pu_at, if_neg hj]
