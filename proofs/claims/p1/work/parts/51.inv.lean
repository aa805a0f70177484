-- the invariant between the class's state and the reference's, part by part
def sgW (ns : Nat) (s f g : Int32) : Prop := (∃ a, a < ns ∧ s = nI a) ∧ (f = -1 ∨ ∃ a, a < ns ∧ f = nI a) ∧ (g = -1 ∨ ∃ a, a < ns ∧ g = nI a) ∧ (f = -1 → g = -1)
/-- sorts, symbols, variables -/
def SG (σ τ : St) : Prop := ∃ ns ny : Nat, 2 ≤ ns ∧ ns ≤ 5 ∧ ny ≤ 12 ∧ σ.1 1 4 = nI ns ∧ τ.1 0 2 = nI ns ∧ σ.1 1 5 = nI ny ∧ τ.1 0 3 = nI ny ∧ (∀ j, j < ny → σ.1 2 j = τ.1 1 j ∧ σ.1 3 j = τ.1 2 j ∧ σ.1 4 j = τ.1 3 j ∧ sgW ns (τ.1 1 j) (τ.1 2 j) (τ.1 3 j)) ∧ ∀ j, j < 3 → σ.1 5 j = τ.1 4 j ∧ ∃ a, a < ns ∧ τ.1 4 j = nI a
theorem SG.cong {σ σ' τ τ' : St} (h : SG σ τ) (h1 : ∀ c, 1 ≤ c → c < 6 → σ'.1 c = σ.1 c) (h2 : ∀ c, 1 ≤ c → c < 5 → τ'.1 c = τ.1 c) (h3 : ∀ j, 2 ≤ j → j < 4 → τ'.1 0 j = τ.1 0 j) : SG σ' τ' := by
  unfold SG at h ⊢
  rw [h1 1 (by omega) (by omega), h1 2 (by omega) (by omega), h1 3 (by omega) (by omega), h1 4 (by omega) (by omega), h1 5 (by omega) (by omega), h2 1 (by omega) (by omega), h2 2 (by omega) (by omega), h2 3 (by omega) (by omega), h2 4 (by omega) (by omega), h3 2 (by omega) (by omega), h3 3 (by omega) (by omega)]
  exact h
/-- the draft -/
def DF (σ τ : St) : Prop := ∃ nd : Nat, nd ≤ 120 ∧ σ.1 18 1 = nI nd ∧ τ.1 0 30 = nI nd ∧ ∀ j, j < nd → σ.1 19 j = τ.1 21 j ∧ 32 ≤ (τ.1 21 j).toInt ∧ (τ.1 21 j).toInt ≤ 126
theorem DF.cong {σ σ' τ τ' : St} (h : DF σ τ) (h1 : σ'.1 18 1 = σ.1 18 1) (h2 : σ'.1 19 = σ.1 19) (h3 : τ'.1 0 30 = τ.1 0 30) (h4 : τ'.1 21 = τ.1 21) : DF σ' τ' := by
  unfold DF at h ⊢
  rw [h1, h2, h3, h4]
  exact h
/-- a byte of a long, as both sides cut it out -/
theorem by_eq (y : Int64) : (y.toInt32 &&& 255).toInt = (y &&& 255).toInt ∧ 0 ≤ (y &&& 255).toInt ∧ (y &&& 255).toInt ≤ 255 ∧ (y &&& 255).toInt32 = y.toInt32 &&& 255 := by
  have h1 : (y &&& 255).toBitVec.toNat = y.toBitVec.toNat % 256 := by
    rw [Int64.toBitVec_and, BitVec.toNat_and]
    exact Nat.and_two_pow_sub_one_eq_mod _ 8
  have h2 : (y.toInt32 &&& 255).toBitVec.toNat = y.toBitVec.toNat % 256 := by
    rw [Int32.toBitVec_and, BitVec.toNat_and, Int64.toBitVec_toInt32]
    have h9 : BitVec.signExtend 32 y.toBitVec = BitVec.setWidth 32 y.toBitVec := by
      first | exact BitVec.signExtend_eq_setWidth_of_le _ (by decide) | exact BitVec.signExtend_eq_setWidth_of_le (by decide) | exact BitVec.signExtend_eq_setWidth_of_lt _ (by decide) | simp [BitVec.signExtend_eq_setWidth_of_le]
    rw [h9, BitVec.toNat_setWidth]
    rw [show ((255 : Int32).toBitVec.toNat) = 2 ^ 8 - 1 from rfl, Nat.and_two_pow_sub_one_eq_mod]
    omega
  have h3 : (y &&& 255).toInt = ((y.toBitVec.toNat % 256 : Nat) : Int) := by
    show (y &&& 255).toBitVec.toInt = _
    rw [BitVec.toInt_eq_toNat_of_lt (by rw [h1]; omega), h1]
  have h4 : (y.toInt32 &&& 255).toInt = ((y.toBitVec.toNat % 256 : Nat) : Int) := by
    show (y.toInt32 &&& 255).toBitVec.toInt = _
    rw [BitVec.toInt_eq_toNat_of_lt (by rw [h2]; omega), h2]
  refine ⟨by rw [h3, h4], by omega, by omega, ?_⟩
  apply Int32.toInt_inj.mp
  rw [h4, Int64.toInt_toInt32, h3, Int.bmod_def]
  omega
abbrev bY (s : Int64) (k : Int32) : Int64 := (s.toUInt64 >>> ((8 * k).toInt64.toUInt64 &&& Int64.toUInt64 63)).toInt64
theorem cb_eq (s : Int64) (k : Int32) (σ : St) : f_Dr_byteOf s k σ = (bY s k).toInt32 &&& 255 := rfl
theorem char_eq {v : Int32} (h0 : 0 ≤ v.toInt) (h1 : v.toInt ≤ 255) : vp_nar .char ((v.toUInt32 % 65536).toInt32) = v := by
  have e : (v.toUInt32 % 65536).toInt32 = v := by
    apply Int32.toInt_inj.mp
    have hv : v.toInt = (v.toBitVec.toNat : Int) := by
      show v.toBitVec.toInt = _
      have := BitVec.toInt_eq_toNat_cond v.toBitVec
      have h2 : v.toInt = v.toBitVec.toInt := rfl
      split at this <;> omega
    have h3 : (v.toUInt32 % 65536).toInt32.toBitVec.toNat = v.toBitVec.toNat := by
      show (v.toUInt32 % 65536).toBitVec.toNat = _
      show (v.toUInt32 % 65536).toNat = _
      rw [UInt32.toNat_mod]
      show v.toBitVec.toNat % 65536 = _
      omega
    show (v.toUInt32 % 65536).toInt32.toBitVec.toInt = _
    rw [BitVec.toInt_eq_toNat_of_lt (by rw [h3]; omega), h3, hv]
  rw [pk_vc, e]
/-- what a relation of the two ends of a boolean call says -/
def DR (σ τ : St) (z w : Int32 × St) : Prop := z.1 = w.1 ∧ (z.1 = 0 ∨ z.1 = 1) ∧ DF z.2 w.2 ∧ z.2.2 = σ.2 ∧ w.2.2 = τ.2 ∧ (∀ c, c ≠ 18 → c ≠ 19 → z.2.1 c = σ.1 c) ∧ (∀ c, c ≠ 0 → c ≠ 21 → w.2.1 c = τ.1 c) ∧ ∀ j, j ≠ 30 → w.2.1 0 j = τ.1 0 j
theorem dr_same {σ τ : St} (h : DF σ τ) : DR σ τ (0, σ) (0, τ) := ⟨rfl, Or.inl rfl, h, rfl, rfl, fun _ _ _ => rfl, fun _ _ _ => rfl, fun _ _ => rfl⟩
/-- the loops that copy: i letters, from the j-th on -/
theorem dr_copy (s : Int64) {i nd : Nat} (hi : i ≤ 8) (hn : nd + i ≤ 120) (hb : ∀ k, k < i → 32 ≤ (bY s (nI k) &&& 255).toInt ∧ (bY s (nI k) &&& 255).toInt ≤ 126) :
    ∀ (m j n n' : Nat) (σ τ : St), j + m = i → m < n → m < n' → σ.1 18 1 = nI nd → τ.1 0 30 = nI nd → (∀ k, k < nd + j → σ.1 19 k = τ.1 21 k ∧ 32 ≤ (τ.1 21 k).toInt ∧ (τ.1 21 k).toInt ≤ 126) →
      k_Dr_append_74 n s (nI i) (nI j) σ ∧ k_Mo_draft_104 n' s (nI i) (nI j) τ ∧ DR σ τ (f_Dr_append_74 n s (nI i) (nI j) σ) (f_Mo_draft_104 n' s (nI i) (nI j) τ) := by
  intro m
  induction m with
  | zero =>
    intro j n n' σ τ hj h1 h2 e1 e2 hl
    obtain ⟨n, rfl⟩ : ∃ k, n = k + 1 := ⟨n - 1, by omega⟩
    obtain ⟨n', rfl⟩ : ∃ k, n' = k + 1 := ⟨n' - 1, by omega⟩
    have hle : nI i ≤ nI j := (nI_le_iff (by omega) (by omega)).mpr (by omega)
    have f1 : f_Dr_append_74 (n + 1) s (nI i) (nI j) σ = (1, sF σ 18 1 (nI nd + nI i)) := by
      show (if nI i ≤ nI j then _ else _) = _
      rw [if_pos hle, e1]; rfl
    have f2 : f_Mo_draft_104 (n' + 1) s (nI i) (nI j) τ = (1, sF τ 0 30 (nI nd + nI i)) := by
      show (if nI i ≤ nI j then _ else _) = _
      rw [if_pos hle, e2]; rfl
    refine ⟨⟨fun _ => trivial, fun h => absurd hle h⟩, ⟨fun _ => trivial, fun h => absurd hle h⟩, ?_⟩
    rw [f1, f2]
    refine ⟨rfl, Or.inr rfl, ⟨nd + i, hn, ?_, ?_, ?_⟩, rfl, rfl, fun c h1 h2 => ?_, fun c h1 h2 => ?_, fun j h1 => ?_⟩
    · rw [← nI_plus]; rfl
    · rw [← nI_plus]; rfl
    · intro k hk
      have := hl k (by omega)
      exact this
    · show pu σ.1 18 _ c = _
      rw [pu_at, if_neg h1]
    · show pu τ.1 0 _ c = _
      rw [pu_at, if_neg h1]
    · show pu (τ.1 0) 30 _ j = _
      rw [pu_at, if_neg h1]
  | succ m ih =>
    intro j n n' σ τ hj h1 h2 e1 e2 hl
    obtain ⟨n, rfl⟩ : ∃ k, n = k + 1 := ⟨n - 1, by omega⟩
    obtain ⟨n', rfl⟩ : ∃ k, n' = k + 1 := ⟨n' - 1, by omega⟩
    have hle : ¬ nI i ≤ nI j := fun h => by have := (nI_le_iff (by omega) (by omega)).mp h; omega
    have hy := by_eq (bY s (nI j))
    have hg := hb j (by omega)
    have ec : (nI nd + nI j).toNatClampNeg = nd + j := by rw [nI_plus]; exact nI_clamp (by omega)
    have ev : vp_nar .char (((f_Dr_byteOf s (nI j) σ).toUInt32 % 65536).toInt32) = (bY s (nI j)).toInt32 &&& 255 := by
      rw [cb_eq]; exact char_eq (by omega) (by omega)
    let σ1 := sA σ 19 (nI nd + nI j) ((bY s (nI j)).toInt32 &&& 255)
    let τ1 := sA τ 21 (nI nd + nI j) ((bY s (nI j) &&& 255).toInt32)
    have f1 : f_Dr_append_74 (n + 1) s (nI i) (nI j) σ = f_Dr_append_74 n s (nI i) (nI (j + 1)) σ1 := by
      show (if nI i ≤ nI j then _ else f_Dr_append_74 n s (nI i) (nI j + 1) (sA σ 19 (σ.1 18 1 + nI j) (vp_nar .char (((f_Dr_byteOf s (nI j) σ).toUInt32 % 65536).toInt32)))) = _
      rw [if_neg hle, e1, ev, nI_succ]
    have f2 : f_Mo_draft_104 (n' + 1) s (nI i) (nI j) τ = f_Mo_draft_104 n' s (nI i) (nI (j + 1)) τ1 := by
      show (if nI i ≤ nI j then _ else f_Mo_draft_104 n' s (nI i) (nI j + 1) (sA τ 21 (τ.1 0 30 + nI j) ((bY s (nI j) &&& 255).toInt32))) = _
      rw [if_neg hle, e2, nI_succ]
    have hl1 : ∀ k, k < nd + (j + 1) → σ1.1 19 k = τ1.1 21 k ∧ 32 ≤ (τ1.1 21 k).toInt ∧ (τ1.1 21 k).toInt ≤ 126 := by
      intro k hk
      have a1 : σ1.1 19 k = if k = nd + j then (bY s (nI j)).toInt32 &&& 255 else σ.1 19 k := by
        show (sA σ 19 (nI nd + nI j) _).1 19 k = _
        rw [sA1, if_pos rfl, ec]
      have a2 : τ1.1 21 k = if k = nd + j then (bY s (nI j) &&& 255).toInt32 else τ.1 21 k := by
        show (sA τ 21 (nI nd + nI j) _).1 21 k = _
        rw [sA1, if_pos rfl, ec]
      rw [a1, a2]
      by_cases hk2 : k = nd + j
      · rw [if_pos hk2, if_pos hk2, hy.2.2.2]
        exact ⟨rfl, by omega, by omega⟩
      · rw [if_neg hk2, if_neg hk2]
        exact hl k (by omega)
    obtain ⟨g1, g2, g3⟩ := ih (j + 1) n n' σ1 τ1 (by omega) (by omega) (by omega) e1 e2 hl1
    have hin : vp_in (nI nd + nI j) 120 := by
      rw [nI_plus, in_iff, i_nI (by omega)]; omega
    refine ⟨⟨fun h => absurd h hle, fun _ => ⟨trivial, ?_, ?_⟩⟩, ⟨fun h => absurd h hle, fun _ => ⟨?_, ?_⟩⟩, ?_⟩
    · rw [e1]; exact hin
    · show k_Dr_append_74 n s (nI i) (nI j + 1) (sA σ 19 (σ.1 18 1 + nI j) _)
      rw [e1, ev, ← nI_succ]; exact g1
    · rw [e2]; exact hin
    · show k_Mo_draft_104 n' s (nI i) (nI j + 1) (sA τ 21 (τ.1 0 30 + nI j) _)
      rw [e2, ← nI_succ]; exact g2
    · rw [f1, f2]
      obtain ⟨q1, q2, q3, q4, q5, q6, q7, q8⟩ := g3
      refine ⟨q1, q2, q3, q4, q5, fun c h1 h2 => ?_, fun c h1 h2 => ?_, fun c h1 => q8 c h1⟩
      · rw [q6 c h1 h2]
        show pu σ.1 19 _ c = _
        rw [pu_at, if_neg h2]
      · rw [q7 c h1 h2]
        show pu τ.1 21 _ c = _
        rw [pu_at, if_neg h2]
theorem dr_zero (s : Int64) : ∀ (m i n' : Nat) (τ : St), i + m = 8 → m < n' → k_Mo_draft_10 n' s (nI i) 0 τ ∧ f_Mo_draft_10 n' s (nI i) 0 τ = (0, τ) := by
  have h79 : ∀ (x3 : Int32) (τ : St), k_Mo_draft_79 s x3 0 τ ∧ f_Mo_draft_79 s x3 0 τ = (0, τ) := by
    intro x3 τ
    refine ⟨⟨fun _ => trivial, fun _ => ⟨fun _ => trivial, fun h => absurd rfl h⟩⟩, ?_⟩
    show (if x3 = 0 then ((0 : Int32), τ) else (if (0 : Int32) = 0 then ((0 : Int32), τ) else _)) = _
    by_cases h : x3 = 0
    · rw [if_pos h]
    · rw [if_neg h, if_pos rfl]
  intro m
  induction m with
  | zero =>
    intro i n' τ hi h2
    obtain ⟨n', rfl⟩ : ∃ k, n' = k + 1 := ⟨n' - 1, by omega⟩
    have h8 : (8 : Int32) ≤ nI i := by rw [show i = 8 by omega]; decide
    refine ⟨⟨fun _ => (h79 _ τ).1, fun h => absurd h8 h⟩, ?_⟩
    show (if (8 : Int32) ≤ nI i then _ else _) = _
    rw [if_pos h8]; exact (h79 _ τ).2
  | succ m ih =>
    intro i n' τ hi h2
    obtain ⟨n', rfl⟩ : ∃ k, n' = k + 1 := ⟨n' - 1, by omega⟩
    have h8 : ¬ (8 : Int32) ≤ nI i := fun h => by
      have := (nI_le_iff (a := 8) (by omega) (by omega)).mp h; omega
    obtain ⟨g1, g2⟩ := ih (i + 1) n' τ (by omega) (by omega)
    rw [nI_succ] at g1 g2
    by_cases hz : lg_cmp (bY s (nI i) &&& 255) 0 = 0
    · refine ⟨⟨fun h => absurd h h8, fun _ => ⟨fun _ => (h79 _ τ).1, fun h => absurd hz h⟩⟩, ?_⟩
      show (if (8 : Int32) ≤ nI i then _ else (if lg_cmp (bY s (nI i) &&& 255) 0 = 0 then _ else _)) = _
      rw [if_neg h8, if_pos hz]; exact (h79 _ τ).2
    · refine ⟨⟨fun h => absurd h h8, fun _ => ⟨fun h => absurd h hz, fun _ => ⟨fun _ => g1, fun h => absurd rfl h⟩⟩⟩, ?_⟩
      show (if (8 : Int32) ≤ nI i then _ else (if lg_cmp (bY s (nI i) &&& 255) 0 = 0 then _ else (if (0 : Int32) = 0 then f_Mo_draft_10 n' s (nI i + 1) 0 τ else _))) = _
      rw [if_neg h8, if_neg hz, if_pos rfl]; exact g2
theorem dr_fin (s : Int64) {i : Nat} {σ τ : St} (hi : i ≤ 8) (hd : DF σ τ) (hb : ∀ k, k < i → 32 ≤ (bY s (nI k) &&& 255).toInt ∧ (bY s (nI k) &&& 255).toInt ≤ 126) :
    k_Dr_append_54 s (nI i) σ ∧ k_Mo_draft_79 s (nI i) 1 τ ∧ DR σ τ (f_Dr_append_54 s (nI i) σ) (f_Mo_draft_79 s (nI i) 1 τ) := by
  obtain ⟨nd, d1, d2, d3, d4⟩ := hd
  have hd : DF σ τ := ⟨nd, d1, d2, d3, d4⟩
  by_cases h0 : nI i = 0
  · refine ⟨⟨fun _ => trivial, fun h => absurd h0 h⟩, ⟨fun _ => trivial, fun h => absurd h0 h⟩, ?_⟩
    show DR σ τ (if nI i = 0 then ((0 : Int32), σ) else _) (if nI i = 0 then ((0 : Int32), τ) else _)
    rw [if_pos h0, if_pos h0]; exact dr_same hd
  · by_cases h1 : nd + i ≤ 120
    · have c1 : σ.1 18 1 + nI i ≤ 120 := by
        rw [d2, nI_plus]; exact (nI_le_iff (b := 120) (by omega) (by omega)).mpr h1
      have c2 : τ.1 0 30 + nI i ≤ 120 := by
        rw [d3, nI_plus]; exact (nI_le_iff (b := 120) (by omega) (by omega)).mpr h1
      obtain ⟨g1, g2, g3⟩ := dr_copy s hi h1 hb i 0 1000 1000 σ τ (by omega) (by omega) (by omega) d2 d3 d4
      rw [nI_0] at g1 g2 g3
      refine ⟨⟨fun h => absurd h h0, fun _ => ⟨fun _ => g1, fun h => absurd c1 h⟩⟩, ⟨fun h => absurd h h0, fun _ => ⟨fun h => absurd h (by decide), fun _ => ⟨fun _ => g2, fun h => absurd c2 h⟩⟩⟩, ?_⟩
      show DR σ τ (if nI i = 0 then _ else (if σ.1 18 1 + nI i ≤ 120 then f_Dr_append_74 1000 s (nI i) 0 σ else _)) (if nI i = 0 then _ else (if (1 : Int32) = 0 then _ else (if τ.1 0 30 + nI i ≤ 120 then f_Mo_draft_104 1000 s (nI i) 0 τ else _)))
      rw [if_neg h0, if_neg h0, if_neg (show ¬ (1 : Int32) = 0 by decide), if_pos c1, if_pos c2]
      exact g3
    · have c1 : ¬ σ.1 18 1 + nI i ≤ 120 := fun h => by
        rw [d2, nI_plus] at h; exact h1 ((nI_le_iff (b := 120) (by omega) (by omega)).mp h)
      have c2 : ¬ τ.1 0 30 + nI i ≤ 120 := fun h => by
        rw [d3, nI_plus] at h; exact h1 ((nI_le_iff (b := 120) (by omega) (by omega)).mp h)
      refine ⟨⟨fun h => absurd h h0, fun _ => ⟨fun h => absurd h c1, fun _ => trivial⟩⟩, ⟨fun h => absurd h h0, fun _ => ⟨fun h => absurd h (by decide), fun _ => ⟨fun h => absurd h c2, fun _ => trivial⟩⟩⟩, ?_⟩
      show DR σ τ (if nI i = 0 then _ else (if σ.1 18 1 + nI i ≤ 120 then _ else ((0 : Int32), σ))) (if nI i = 0 then _ else (if (1 : Int32) = 0 then _ else (if τ.1 0 30 + nI i ≤ 120 then _ else ((0 : Int32), τ))))
      rw [if_neg h0, if_neg h0, if_neg (show ¬ (1 : Int32) = 0 by decide), if_neg c1, if_neg c2]
      exact dr_same hd
theorem dr_count (s : Int64) {σ τ : St} (hd : DF σ τ) : ∀ (m i n n' : Nat), i + m = 8 → m < n → m < n' → (∀ k, k < i → 32 ≤ (bY s (nI k) &&& 255).toInt ∧ (bY s (nI k) &&& 255).toInt ≤ 126) →
    k_Dr_append_5 n s (nI i) (nI i) σ ∧ k_Mo_draft_10 n' s (nI i) 1 τ ∧ DR σ τ (f_Dr_append_5 n s (nI i) (nI i) σ) (f_Mo_draft_10 n' s (nI i) 1 τ) := by
  intro m
  induction m with
  | zero =>
    intro i n n' hi h1 h2 hb
    obtain ⟨n, rfl⟩ : ∃ k, n = k + 1 := ⟨n - 1, by omega⟩
    obtain ⟨n', rfl⟩ : ∃ k, n' = k + 1 := ⟨n' - 1, by omega⟩
    have h8 : (8 : Int32) ≤ nI i := by rw [show i = 8 by omega]; decide
    obtain ⟨g1, g2, g3⟩ := dr_fin s (i := i) (by omega) hd hb
    refine ⟨⟨fun _ => g1, fun h => absurd h8 h⟩, ⟨fun _ => g2, fun h => absurd h8 h⟩, ?_⟩
    show DR σ τ (if (8 : Int32) ≤ nI i then f_Dr_append_54 s (nI i) σ else _) (if (8 : Int32) ≤ nI i then f_Mo_draft_79 s (nI i) 1 τ else _)
    rw [if_pos h8, if_pos h8]; exact g3
  | succ m ih =>
    intro i n n' hi h1 h2 hb
    obtain ⟨n, rfl⟩ : ∃ k, n = k + 1 := ⟨n - 1, by omega⟩
    obtain ⟨n', rfl⟩ : ∃ k, n' = k + 1 := ⟨n' - 1, by omega⟩
    have h8 : ¬ (8 : Int32) ≤ nI i := fun h => by
      have := (nI_le_iff (a := 8) (by omega) (by omega)).mp h; omega
    have hy := by_eq (bY s (nI i))
    have y0 : (f_Dr_byteOf s (nI i) σ = 0) ↔ lg_cmp (bY s (nI i) &&& 255) 0 = 0 := by
      rw [lg_cmp_eq, cb_eq, ← Int32.toInt_inj, ← Int64.toInt_inj, hy.1]; rfl
    have y1 : (f_Dr_byteOf s (nI i) σ < 32) ↔ lg_cmp (bY s (nI i) &&& 255) 32 < 0 := by
      rw [lg_cmp_lt, cb_eq, Int32.lt_iff_toInt_lt, Int64.lt_iff_toInt_lt, hy.1]; rfl
    have y2 : (f_Dr_byteOf s (nI i) σ ≤ 126) ↔ ¬ 0 < lg_cmp (bY s (nI i) &&& 255) 126 := by
      rw [lg_cmp_gt, cb_eq, Int32.le_iff_toInt_le, Int64.lt_iff_toInt_lt, hy.1]
      show _ ≤ (126 : Int) ↔ ¬ (126 : Int) < _
      omega
    by_cases c0 : f_Dr_byteOf s (nI i) σ = 0
    · obtain ⟨g1, g2, g3⟩ := dr_fin s (i := i) (by omega) hd hb
      have c0' := y0.mp c0
      refine ⟨⟨fun h => absurd h h8, fun _ => ⟨trivial, fun _ => g1, fun h => absurd c0 h⟩⟩, ⟨fun h => absurd h h8, fun _ => ⟨fun _ => g2, fun h => absurd c0' h⟩⟩, ?_⟩
      show DR σ τ (if (8 : Int32) ≤ nI i then _ else (if f_Dr_byteOf s (nI i) σ = 0 then f_Dr_append_54 s (nI i) σ else _)) (if (8 : Int32) ≤ nI i then _ else (if lg_cmp (bY s (nI i) &&& 255) 0 = 0 then f_Mo_draft_79 s (nI i) 1 τ else _))
      rw [if_neg h8, if_neg h8, if_pos c0, if_pos c0']; exact g3
    · have c0' : ¬ lg_cmp (bY s (nI i) &&& 255) 0 = 0 := fun h => c0 (y0.mpr h)
      obtain ⟨z1, z2⟩ := dr_zero s m (i + 1) n' τ (by omega) (by omega)
      rw [nI_succ] at z1 z2
      by_cases c1 : f_Dr_byteOf s (nI i) σ < 32
      · have c1' := y1.mp c1
        refine ⟨⟨fun h => absurd h h8, fun _ => ⟨trivial, fun h => absurd h c0, fun _ => ⟨trivial, fun _ => trivial, fun h => absurd c1 h⟩⟩⟩, ⟨fun h => absurd h h8, fun _ => ⟨fun h => absurd h c0', fun _ => ⟨fun h => absurd h (by decide), fun _ => ⟨fun _ => z1, fun h => absurd c1' h⟩⟩⟩⟩, ?_⟩
        show DR σ τ (if (8 : Int32) ≤ nI i then _ else (if f_Dr_byteOf s (nI i) σ = 0 then _ else (if f_Dr_byteOf s (nI i) σ < 32 then ((0 : Int32), σ) else _))) (if (8 : Int32) ≤ nI i then _ else (if lg_cmp (bY s (nI i) &&& 255) 0 = 0 then _ else (if (1 : Int32) = 0 then _ else (if lg_cmp (bY s (nI i) &&& 255) 32 < 0 then f_Mo_draft_10 n' s (nI i + 1) 0 τ else _))))
        rw [if_neg h8, if_neg h8, if_neg c0, if_neg c0', if_pos c1, if_neg (show ¬ (1 : Int32) = 0 by decide), if_pos c1', z2]
        exact dr_same hd
      · have c1' : ¬ lg_cmp (bY s (nI i) &&& 255) 32 < 0 := fun h => c1 (y1.mpr h)
        by_cases c2 : f_Dr_byteOf s (nI i) σ ≤ 126
        · have c2' := y2.mp c2
          obtain ⟨g1, g2, g3⟩ := ih (i + 1) n n' (by omega) (by omega) (by omega) (fun k hk => by
            by_cases hk2 : k = i
            · rw [hk2]
              rw [cb_eq, Int32.lt_iff_toInt_lt, hy.1] at c1
              rw [cb_eq, Int32.le_iff_toInt_le, hy.1] at c2
              have q1 : ¬ (bY s (nI i) &&& 255).toInt < (32 : Int) := c1
              have q2 : (bY s (nI i) &&& 255).toInt ≤ (126 : Int) := c2
              omega
            · exact hb k (by omega))
          rw [nI_succ] at g1 g2 g3
          refine ⟨⟨fun h => absurd h h8, fun _ => ⟨trivial, fun h => absurd h c0, fun _ => ⟨trivial, fun h => absurd h c1, fun _ => ⟨trivial, fun _ => g1, fun h => absurd c2 h⟩⟩⟩⟩, ⟨fun h => absurd h h8, fun _ => ⟨fun h => absurd h c0', fun _ => ⟨fun h => absurd h (by decide), fun _ => ⟨fun h => absurd h c1', fun _ => ⟨fun h => absurd h c2', fun _ => g2⟩⟩⟩⟩⟩, ?_⟩
          show DR σ τ (if (8 : Int32) ≤ nI i then _ else (if f_Dr_byteOf s (nI i) σ = 0 then _ else (if f_Dr_byteOf s (nI i) σ < 32 then _ else (if f_Dr_byteOf s (nI i) σ ≤ 126 then f_Dr_append_5 n s (nI i + 1) (nI i + 1) σ else _)))) (if (8 : Int32) ≤ nI i then _ else (if lg_cmp (bY s (nI i) &&& 255) 0 = 0 then _ else (if (1 : Int32) = 0 then _ else (if lg_cmp (bY s (nI i) &&& 255) 32 < 0 then _ else (if 0 < lg_cmp (bY s (nI i) &&& 255) 126 then _ else f_Mo_draft_10 n' s (nI i + 1) 1 τ)))))
          rw [if_neg h8, if_neg h8, if_neg c0, if_neg c0', if_neg c1, if_neg (show ¬ (1 : Int32) = 0 by decide), if_neg c1', if_pos c2, if_neg c2']
          exact g3
        · have c2' : 0 < lg_cmp (bY s (nI i) &&& 255) 126 := Classical.byContradiction fun h => c2 (y2.mpr h)
          refine ⟨⟨fun h => absurd h h8, fun _ => ⟨trivial, fun h => absurd h c0, fun _ => ⟨trivial, fun h => absurd h c1, fun _ => ⟨trivial, fun h => absurd h c2, fun _ => trivial⟩⟩⟩⟩, ⟨fun h => absurd h h8, fun _ => ⟨fun h => absurd h c0', fun _ => ⟨fun h => absurd h (by decide), fun _ => ⟨fun h => absurd h c1', fun _ => ⟨fun _ => z1, fun h => absurd c2' h⟩⟩⟩⟩⟩, ?_⟩
          show DR σ τ (if (8 : Int32) ≤ nI i then _ else (if f_Dr_byteOf s (nI i) σ = 0 then _ else (if f_Dr_byteOf s (nI i) σ < 32 then _ else (if f_Dr_byteOf s (nI i) σ ≤ 126 then _ else ((0 : Int32), σ))))) (if (8 : Int32) ≤ nI i then _ else (if lg_cmp (bY s (nI i) &&& 255) 0 = 0 then _ else (if (1 : Int32) = 0 then _ else (if lg_cmp (bY s (nI i) &&& 255) 32 < 0 then _ else (if 0 < lg_cmp (bY s (nI i) &&& 255) 126 then f_Mo_draft_10 n' s (nI i + 1) 0 τ else _)))))
          rw [if_neg h8, if_neg h8, if_neg c0, if_neg c0', if_neg c1, if_neg (show ¬ (1 : Int32) = 0 by decide), if_neg c1', if_neg c2, if_pos c2', z2]
          exact dr_same hd
/-- draft: both answer alike and keep the draft's relation -/
theorem dr_draft (s : Int64) {σ τ : St} (hd : DF σ τ) : k_CL_draft s σ ∧ k_Mo_draft s τ ∧ DR σ (sF τ 0 0 0) (f_CL_draft s σ) (f_Mo_draft s τ) := by
  obtain ⟨g1, g2, g3⟩ := dr_count s (σ := σ) (τ := sF τ 0 0 0) hd 8 0 1000 1000 (by omega) (by omega) (by omega) (fun k hk => absurd hk (Nat.not_lt_zero k))
  rw [nI_0] at g1 g2 g3
  refine ⟨⟨g1, ?_, trivial⟩, g2, g3⟩
  have h := g3.2.1
  show narrow .boolean (.int (f_Dr_append_5 1000 s 0 0 σ).1) = .int (f_Dr_append_5 1000 s 0 0 σ).1
  rcases h with h | h <;> rw [h] <;> rfl
