-- the tables of terms: class and reference beside each other
def tmO (x : Int32) (t : Nat) : Prop := x = -1 ∨ ∃ i, i < t ∧ x = nI i
def tmP (x : Int32) (t : Nat) : Prop := ∃ i, i < t ∧ x = nI i
theorem tmO.mono {x : Int32} {t u : Nat} (h : tmO x t) (hu : t ≤ u) : tmO x u := by
  rcases h with h | ⟨i, h1, h2⟩
  · exact Or.inl h
  · exact Or.inr ⟨i, by omega, h2⟩
theorem tmO.rng {x : Int32} {t : Nat} (h : tmO x t) (ht : t ≤ 400) : -100000 ≤ x.toInt ∧ x.toInt ≤ 100000 := by
  rcases h with h | ⟨i, h1, h2⟩
  · rw [h]; decide
  · rw [h2, i_nI (by omega)]; omega
/-- what a part gives to the whole: 0 where there is none -/
def pO (f : Nat → Int32) (x : Int32) : Int32 := if x = -1 then 0 else f x.toNatClampNeg
/-- depth and free variables of a row, out of its parts -/
def dpW (D : Nat → Int32) (a b : Int32) : Int32 := 1 + (if pO D a < pO D b then pO D b else pO D a)
def frW (F : Nat → Int32) (k l a b : Int32) : Int32 := if k = 1 then (1 <<< (l &&& 31)) else (if k = 10 then ((pO F a ||| pO F b) &&& ((1 <<< (l &&& 31)) ^^^ (-1))) else (pO F a ||| pO F b))
/-- how long a text is: out of kind and parts -/
def lnW (N : Nat → Int32) (k a b : Int32) : Int32 := (if a = -1 then 1 else (if k = 10 then 5 else 3) + pO N a + 1) + (if b = -1 then 0 else 1 + pO N b)
/-- a row of the reference that may stand at t -/
def tmW (τ : St) (t : Nat) : Prop :=
  tmO (τ.1 8 t) t ∧ tmO (τ.1 9 t) t ∧ (τ.1 8 t = -1 → τ.1 9 t = -1) ∧ (∃ k, k ≤ 10 ∧ τ.1 5 t = nI k) ∧ (-1 ≤ (τ.1 10 t).toInt ∧ (τ.1 10 t).toInt ≤ 11) ∧ (∃ a, a < 5 ∧ τ.1 6 t = nI a) ∧
  (τ.1 5 t = 2 → τ.1 8 t = -1 ∧ τ.1 10 t = -1 ∧ τ.1 6 t = 1 ∧ (-99999 ≤ (τ.1 11 t).toInt ∧ (τ.1 11 t).toInt ≤ 99999) ∧ 1 ≤ (τ.1 12 t).toInt ∧ (τ.1 12 t).toInt ≤ 99999) ∧
  (¬ τ.1 5 t = 2 → τ.1 11 t = 0 ∧ τ.1 12 t = 0) ∧ τ.1 7 t = dpW (τ.1 7) (τ.1 8 t) (τ.1 9 t) ∧ τ.1 13 t = frW (τ.1 13) (τ.1 5 t) (τ.1 10 t) (τ.1 8 t) (τ.1 9 t) ∧ (1 ≤ (τ.1 7 t).toInt ∧ (τ.1 7 t).toInt ≤ t + 1)
/-- the key of a row -/
def kyR (τ : St) (t : Nat) : Int64 := if τ.1 5 t = 2 then ky 2 (-1) (τ.1 11 t) (τ.1 12 t) else ky (τ.1 5 t) (τ.1 10 t) (τ.1 8 t) (τ.1 9 t)
/-- row t of the class is row t of the reference -/
def tmE (σ τ : St) (t : Nat) : Prop := σ.1 7 t = τ.1 5 t ∧ σ.1 8 t = τ.1 6 t ∧ σ.1 9 t = τ.1 10 t ∧ σ.1 10 t = τ.1 8 t ∧ σ.1 11 t = τ.1 9 t ∧ σ.1 14 t = τ.1 7 t ∧ σ.1 16 t = τ.1 13 t ∧ (τ.1 5 t = 2 → σ.1 12 t = τ.1 11 t ∧ σ.1 13 t = τ.1 12 t) ∧ σ.2 17 t = kyR τ t
def TM (n : Nat) (σ τ : St) : Prop := σ.1 6 11 = nI n ∧ τ.1 0 8 = nI n ∧ ∀ t, t < n → tmE σ τ t ∧ tmW τ t
theorem tmW.rng {τ : St} {t : Nat} (h : tmW τ t) (ht : t ≤ 400) : (0 ≤ (τ.1 5 t).toInt ∧ (τ.1 5 t).toInt ≤ 15) ∧ (-1 ≤ (τ.1 10 t).toInt ∧ (τ.1 10 t).toInt ≤ 14) ∧ (-100000 ≤ (τ.1 8 t).toInt ∧ (τ.1 8 t).toInt ≤ 100000) ∧ (-100000 ≤ (τ.1 9 t).toInt ∧ (τ.1 9 t).toInt ≤ 100000) := by
  obtain ⟨h1, h2, -, ⟨k, h4, h5⟩, h6, -⟩ := h
  refine ⟨?_, by omega, h1.rng ht, h2.rng ht⟩
  rw [h5, i_nI (by omega)]; omega
/-- a row has the key of a term that isn't a constant just where its parts are that term's -/
theorem key_row {σ τ : St} {n t : Nat} {k l a b : Int32} (hn : n ≤ 400) (ht : t < n) (h : TM n σ τ) (hk : 0 ≤ k.toInt ∧ k.toInt ≤ 15) (hk2 : ¬ k = 2) (hl : -1 ≤ l.toInt ∧ l.toInt ≤ 14) (ha : tmO a n) (hb : tmO b n) :
    σ.2 17 t = ky k l a b ↔ fdM τ k a b l 0 0 t := by
  obtain ⟨⟨-, -, -, -, -, -, -, -, e9⟩, hW⟩ := h.2.2 t ht
  have hr := hW.rng (by omega)
  rw [e9]
  unfold kyR fdM
  by_cases h2 : τ.1 5 t = 2
  · rw [if_pos h2]
    obtain ⟨-, -, -, -, -, -, hc, -⟩ := hW
    obtain ⟨-, -, -, c1, c2⟩ := hc h2
    rw [ky_inj (by decide) (by decide) (by omega) (by omega) hk hl (ha.rng hn) (hb.rng hn), h2]
    exact ⟨fun h => absurd h.1.symm hk2, fun h => absurd h.1.symm hk2⟩
  · rw [if_neg h2, ky_inj hr.1 hr.2.1 hr.2.2.1 hr.2.2.2 hk hl (ha.rng hn) (hb.rng hn)]
    obtain ⟨-, -, -, -, -, -, -, hz, -⟩ := hW
    obtain ⟨z1, z2⟩ := hz h2
    exact ⟨fun h => ⟨h.1, h.2.2.1, h.2.2.2, h.2.1, z1, z2⟩, fun h => ⟨h.1, h.2.2.2.1, h.2.1, h.2.2.1⟩⟩
/-- the first of those before n of which M holds, or none -/
theorem first_of (M : Nat → Prop) : ∀ n : Nat, (∃ m, m < n ∧ M m ∧ ∀ i, i < m → ¬ M i) ∨ ∀ i, i < n → ¬ M i := by
  intro n
  induction n with
  | zero => exact Or.inr fun i h => absurd h (Nat.not_lt_zero i)
  | succ n ih =>
    rcases ih with ⟨m, h1, h2, h3⟩ | h
    · exact Or.inl ⟨m, by omega, h2, h3⟩
    · by_cases hn : M n
      · exact Or.inl ⟨n, by omega, hn, h⟩
      · refine Or.inr fun i hi => ?_
        by_cases e : i = n
        · rw [e]; exact hn
        · exact h i (by omega)
theorem k_has (x : Int32) (σ : St) : k_Te_has x σ := ⟨fun _ => ⟨rfl, trivial⟩, fun _ => ⟨fun _ => ⟨rfl, trivial⟩, fun _ => ⟨rfl, trivial⟩⟩⟩
theorem has_iff {σ : St} {n : Nat} (hc : σ.1 6 11 = nI n) (hn : n < 2147483648) (x : Int32) : f_Te_has x σ = 0 ↔ ¬ (0 ≤ x.toInt ∧ x.toInt < n) := by
  show (if x < 0 then (0 : Int32) else (if σ.1 6 11 ≤ x then 0 else 1)) = 0 ↔ _
  rw [hc]
  by_cases h1 : x < 0
  · rw [if_pos h1]
    rw [Int32.lt_iff_toInt_lt, Int32.toInt_zero] at h1
    exact ⟨fun _ => by omega, fun _ => rfl⟩
  · rw [if_neg h1]
    rw [Int32.lt_iff_toInt_lt, Int32.toInt_zero] at h1
    by_cases h2 : nI n ≤ x
    · rw [if_pos h2]
      rw [Int32.le_iff_toInt_le, i_nI hn] at h2
      exact ⟨fun _ => by omega, fun _ => rfl⟩
    · rw [if_neg h2]
      rw [Int32.le_iff_toInt_le, i_nI hn] at h2
      exact ⟨fun h => absurd h (by decide), fun h => absurd ⟨by omega, by omega⟩ h⟩
theorem nI_ne_m1 {i : Nat} (h : i < 2147483648) : ¬ nI i = -1 := fun e => by
  rw [m1_iff, i_nI h] at e; omega
theorem acc_eq {σ : St} {n : Nat} (hc : σ.1 6 11 = nI n) (hn : n ≤ 208) {x : Int32} (hx : tmO x n) (f : Nat → Int32) (d : Int32) : (if f_Te_has x σ = 0 then d else f x.toNatClampNeg) = if x = -1 then d else f x.toNatClampNeg := by
  rcases hx with rfl | ⟨i, h1, rfl⟩
  · rw [if_pos ((has_iff hc (by omega) _).mpr (fun h => absurd h.1 (by decide))), if_pos rfl]
  · rw [if_neg (fun h => (has_iff hc (by omega) _).mp h (by rw [i_nI (by omega)]; omega)), if_neg (nI_ne_m1 (by omega))]
theorem k_acc {σ : St} {n : Nat} (hc : σ.1 6 11 = nI n) (hn : n ≤ 208) (x : Int32) : k_Te_has x σ ∧ ((f_Te_has x σ = 0 → True) ∧ (¬ f_Te_has x σ = 0 → (vp_in x 208 ∧ True))) := by
  refine ⟨k_has x σ, fun _ => trivial, fun h => ⟨?_, trivial⟩⟩
  rw [has_iff hc (by omega)] at h
  have := Classical.not_not.mp h
  rw [in_iff]; omega
/-- the class's state behind a new row n -/
def cNew (σ : St) (n : Nat) (key : Int64) (k s l a b dp ln fr dv : Int32) : St := sF (sA (sA (sA (sA (sA (sA (sA (sA (sL (sF σ 6 11 (nI n + 1)) 17 (nI n) key) 7 (nI n) k) 8 (nI n) s) 9 (nI n) l) 10 (nI n) a) 11 (nI n) b) 14 (nI n) dp) 15 (nI n) ln) 16 (nI n) fr) 6 13 dv
theorem mk_new {σ : St} {n : Nat} {k s l a b : Int32} (key : Int64) (hn : n ≤ 206) (hc : σ.1 6 11 = nI n) (ha : tmO a n) (hb : tmO b n) :
    k_Te_make_28 k s l a b key (-1) σ ∧ f_Te_make_28 k s l a b key (-1) σ = (nI n, cNew σ n key k s l a b (dpW (σ.1 14) a b) (lnW (σ.1 15) k a b) (frW (σ.1 16) k l a b) (if σ.1 6 13 = 0 then (if dpW (σ.1 14) a b ≤ 12 then 0 else 1) else 1)) := by
  have hin : vp_in (nI n) 208 := by rw [in_iff, i_nI (by omega)]; omega
  have h207 : ¬ (207 : Int32) < nI n := fun h => by
    have := (nI_lt_iff (a := 207) (by omega) (by omega)).mp h; omega
  let σa : St := sA (sA (sA (sL (sF σ 6 11 (nI n + 1)) 17 (nI n) key) 7 (nI n) k) 8 (nI n) s) 9 (nI n) l
  have hA : f_Te_append key k s l σ = (nI n, σa) := by
    show f_Te_append_12 key k s l (if 207 < σ.1 6 11 then 207 else σ.1 6 11) σ = _
    rw [hc, if_neg h207]; rfl
  have kA : k_Te_append key k s l σ := by
    show k_Te_append_12 key k s l (if 207 < σ.1 6 11 then 207 else σ.1 6 11) σ
    rw [hc, if_neg h207]; exact ⟨hin, hin, hin, hin, trivial⟩
  let σb : St := sA (sA σa 10 (nI n) a) 11 (nI n) b
  have ha1 := ha.mono (Nat.le_succ n)
  have hb1 := hb.mono (Nat.le_succ n)
  have cb : σb.1 6 11 = nI (n + 1) := by rw [nI_succ]; rfl
  have da : f_Te_depthOf a σb = pO (σ.1 14) a := acc_eq cb (by omega) ha1 (σ.1 14) 0
  have db : f_Te_depthOf b σb = pO (σ.1 14) b := acc_eq cb (by omega) hb1 (σ.1 14) 0
  let σc : St := sA σb 14 (nI n) (dpW (σ.1 14) a b)
  have cc : σc.1 6 11 = nI (n + 1) := cb
  have la : f_Te_lengthOf a σc = pO (σ.1 15) a := acc_eq cc (by omega) ha1 (σ.1 15) 0
  have lb : f_Te_lengthOf b σc = pO (σ.1 15) b := acc_eq cc (by omega) hb1 (σ.1 15) 0
  have e66 : f_Te_make_66 k l a b (nI n) σb = f_Te_make_90 k l a b (nI n) σc := by
    show f_Te_make_90 k l a b (nI n) (sA σb 14 (nI n) (1 + (if f_Te_depthOf a σb < f_Te_depthOf b σb then f_Te_depthOf b σb else f_Te_depthOf a σb))) = _
    rw [da, db]; rfl
  let σd : St := sA σc 15 (nI n) (lnW (σ.1 15) k a b)
  have e90 : f_Te_make_90 k l a b (nI n) σc = f_Te_make_137 k l a b (nI n) σd := by
    show (if a = -1 then f_Te_make_108 k l a b (nI n) 0 k (nI n) σc else f_Te_make_108 k l a b (nI n) 1 k (nI n) σc) = _
    have e108 : ∀ s0 : Int32, f_Te_make_108 k l a b (nI n) s0 k (nI n) σc = f_Te_make_137 k l a b (nI n) (sA σc 15 (nI n) ((if s0 = 0 then 1 else (if k = 10 then 5 else 3) + pO (σ.1 15) a + 1) + (if b = -1 then 0 else 1 + pO (σ.1 15) b))) := by
      intro s0
      show (if b = -1 then f_Te_make_137 k l a b (nI n) (sA σc 15 (nI n) ((if s0 = 0 then 1 else (if k = 10 then 5 else 3) + f_Te_lengthOf a σc + 1) + 0)) else f_Te_make_137 k l a b (nI n) (sA σc 15 (nI n) ((if s0 = 0 then 1 else (if k = 10 then 5 else 3) + f_Te_lengthOf a σc + 1) + (1 + f_Te_lengthOf b σc)))) = _
      rw [la, lb]
      by_cases h : b = -1
      · rw [if_pos h, if_pos h]
      · rw [if_neg h, if_neg h]
    by_cases h : a = -1
    · rw [if_pos h, e108, if_pos rfl]
      show _ = f_Te_make_137 k l a b (nI n) (sA σc 15 (nI n) ((if a = -1 then 1 else _) + _))
      rw [if_pos h]
    · rw [if_neg h, e108, if_neg (by decide)]
      show _ = f_Te_make_137 k l a b (nI n) (sA σc 15 (nI n) ((if a = -1 then 1 else _) + _))
      rw [if_neg h]
  have cd : σd.1 6 11 = nI (n + 1) := cb
  have fa : f_Te_freeOf a σd = pO (σ.1 16) a := acc_eq cd (by omega) ha1 (σ.1 16) 0
  have fb : f_Te_freeOf b σd = pO (σ.1 16) b := acc_eq cd (by omega) hb1 (σ.1 16) 0
  let σe : St := sA σd 16 (nI n) (frW (σ.1 16) k l a b)
  have e137 : f_Te_make_137 k l a b (nI n) σd = f_Te_make_162 (nI n) σe := by
    show f_Te_make_162 (nI n) (sA σd 16 (nI n) (f_Te_freeBy k l (f_Te_freeOf a σd ||| f_Te_freeOf b σd) σd)) = _
    rw [fa, fb]; rfl
  have hcl : (nI n).toNatClampNeg = n := nI_clamp (by omega)
  have ed : σe.1 14 (nI n).toNatClampNeg = dpW (σ.1 14) a b := by
    show upd (σ.1 14) (nI n).toNatClampNeg (dpW (σ.1 14) a b) (nI n).toNatClampNeg = _
    rw [upd_at, if_pos rfl]
  have e162 : f_Te_make_162 (nI n) σe = (nI n, sF σe 6 13 (if σ.1 6 13 = 0 then (if dpW (σ.1 14) a b ≤ 12 then 0 else 1) else 1)) := by
    show (if σ.1 6 13 = 0 then (if σe.1 14 (nI n).toNatClampNeg ≤ 12 then (nI n, sF σe 6 13 0) else (nI n, sF σe 6 13 1)) else (nI n, sF σe 6 13 1)) = _
    rw [ed]
    by_cases h : σ.1 6 13 = 0
    · rw [if_pos h, if_pos h]
      by_cases h2 : dpW (σ.1 14) a b ≤ 12
      · rw [if_pos h2, if_pos h2]
      · rw [if_neg h2, if_neg h2]
    · rw [if_neg h, if_neg h]
  have kb : ∀ x : Int32, (narrow .boolean (.int 0) = .int 0 ∧ fits .boolean (.int 0) = true) ∧ (narrow .boolean (.int 1) = .int 1 ∧ fits .boolean (.int 1) = true) := fun _ => ⟨⟨rfl, rfl⟩, rfl, rfl⟩
  have k162 : ∀ X : St, k_Te_make_162 (nI n) X := fun X => ⟨fun _ => ⟨hin, fun _ => ⟨⟨rfl, rfl⟩, trivial⟩, fun _ => ⟨⟨rfl, rfl⟩, trivial⟩⟩, fun _ => ⟨⟨rfl, rfl⟩, trivial⟩⟩
  have kfb : ∀ (x : Int32) (X : St), k_Te_freeBy k l x X := fun x X => ⟨fun _ => trivial, fun _ => ⟨fun _ => trivial, fun _ => trivial⟩⟩
  have k137 : ∀ X : St, X.1 6 11 = nI (n + 1) → k_Te_make_137 k l a b (nI n) X := fun X h => ⟨k_acc h (by omega) a, k_acc h (by omega) b, kfb _ X, hin, k162 _⟩
  have kwl : ∀ (s0 x : Int32) (X : St), k_Wr_length k s0 x X := fun s0 x X => ⟨fun _ => trivial, fun _ => ⟨⟨fun _ => trivial, fun _ => trivial⟩, trivial⟩⟩
  have k108 : ∀ (s0 : Int32) (X : St), X.1 6 11 = nI (n + 1) → k_Te_make_108 k l a b (nI n) s0 k (nI n) X := fun s0 X h => ⟨k_acc h (by omega) a, kwl _ _ X, fun _ => ⟨hin, k137 _ h⟩, fun _ => ⟨k_acc h (by omega) b, hin, k137 _ h⟩⟩
  have k90 : ∀ X : St, X.1 6 11 = nI (n + 1) → k_Te_make_90 k l a b (nI n) X := fun X h => ⟨fun _ => k108 _ X h, fun _ => k108 _ X h⟩
  refine ⟨⟨fun _ => ⟨kA, ?_⟩, fun h => absurd rfl h⟩, ?_⟩
  · rw [hA]
    exact ⟨hin, hin, k_acc cb (by omega) a, k_acc cb (by omega) b, hin, k90 _ cb⟩
  · show (if (-1 : Int32) = -1 then f_Te_make_46 k l a b (f_Te_append key k s l σ).1 (f_Te_append key k s l σ).2 else _) = _
    rw [if_pos rfl, hA]
    show f_Te_make_66 k l a b (nI n) σb = _
    rw [e66, e90, e137, e162]; rfl
/-- the reference's state behind a new row n -/
def mNew (τ : St) (n : Nat) (k s a b l p q dp fr : Int32) : St := sF (sA (sA (sA (sA (sA (sA (sA (sA (sA τ 5 (nI n) k) 6 (nI n) s) 8 (nI n) a) 9 (nI n) b) 10 (nI n) l) 11 (nI n) p) 12 (nI n) q) 7 (nI n) dp) 13 (nI n) fr) 0 8 (nI n + 1)
theorem i_pos {x : Int32} {n : Nat} (hn : n ≤ 400) (hx : tmO x n) : (0 ≤ x) ↔ ¬ x = -1 := by
  rw [Int32.le_iff_toInt_le, Int32.toInt_zero]
  rcases hx with rfl | ⟨i, h1, rfl⟩
  · exact ⟨fun h => absurd h (by decide), fun h => absurd rfl h⟩
  · rw [i_nI (by omega)]
    exact ⟨fun _ => nI_ne_m1 (by omega), fun _ => by omega⟩
theorem i_neg {x : Int32} {n : Nat} (hn : n ≤ 400) (hx : tmO x n) : (x < 0) ↔ x = -1 := by
  rw [Int32.lt_iff_toInt_lt, Int32.toInt_zero]
  rcases hx with rfl | ⟨i, h1, rfl⟩
  · exact ⟨fun _ => rfl, fun _ => by decide⟩
  · rw [i_nI (by omega)]
    exact ⟨fun h => absurd h (by omega), fun h => absurd h (nI_ne_m1 (by omega))⟩
theorem fd_hino {x : Int32} {n : Nat} (hn : n ≤ 399) (hx : tmO x n) (h : ¬ x = -1) : vp_in x 400 := by
  rcases hx with rfl | ⟨i, h1, rfl⟩
  · exact absurd rfl h
  · rw [in_iff, i_nI (by omega)]; omega
theorem pO_pos {f : Nat → Int32} {x : Int32} {n : Nat} (hn : n ≤ 399) (hx : tmO x n) : pO f x = if 0 ≤ x then f x.toNatClampNeg else 0 := by
  unfold pO
  by_cases h2 : x = -1
  · rw [if_pos h2, if_neg (fun h3 => (i_pos (by omega) hx).mp h3 h2)]
  · rw [if_neg h2, if_pos ((i_pos (by omega) hx).mpr h2)]
section FDN
variable {X : St} {n : Nat} {k a b l : Int32}
theorem fd_298 (h : X.1 0 8 = nI n) (x : Int32) : f_Mo_found_298 x (nI n) X = (nI n, sF (sA X 13 (nI n) x) 0 8 (nI n + 1)) := by
  show (X.1 0 8 + 1 - 1, sF (sA X 13 (nI n) x) 0 8 (X.1 0 8 + 1)) = _
  rw [h, ← nI_succ, nI_pred]
theorem fd_270 (h : X.1 0 8 = nI n) (x : Int32) : f_Mo_found_270 k l x X = (nI n, sF (sA X 13 (nI n) (if k = 10 then x &&& ((1 <<< (l &&& 31)) ^^^ (-1)) else x)) 0 8 (nI n + 1)) := by
  show (if k = 10 then f_Mo_found_298 (x &&& ((1 <<< (l &&& 31)) ^^^ (-1))) (X.1 0 8) X else f_Mo_found_298 x (X.1 0 8) X) = _
  rw [h, fd_298 h, fd_298 h]
  by_cases h2 : k = 10
  · rw [if_pos h2, if_pos h2]
  · rw [if_neg h2, if_neg h2]
theorem fd_225 (hn : n ≤ 399) (h : X.1 0 8 = nI n) (ha : tmO a n) (hb : tmO b n) : f_Mo_found_225 k a b l X = (nI n, sF (sA X 13 (nI n) (frW (X.1 13) k l a b)) 0 8 (nI n + 1)) := by
  show (if k = 1 then f_Mo_found_270 k l (1 <<< (l &&& 31)) X else (if 0 ≤ a then (if 0 ≤ b then f_Mo_found_270 k l (X.1 13 a.toNatClampNeg ||| X.1 13 b.toNatClampNeg) X else f_Mo_found_270 k l (X.1 13 a.toNatClampNeg ||| 0) X) else (if 0 ≤ b then f_Mo_found_270 k l (0 ||| X.1 13 b.toNatClampNeg) X else f_Mo_found_270 k l (0 ||| 0) X))) = _
  unfold frW
  rw [pO_pos hn ha, pO_pos hn hb]
  by_cases h1 : k = 1
  · rw [if_pos h1, if_pos h1, fd_270 h, if_neg (by rw [h1]; decide)]
  · rw [if_neg h1, if_neg h1]
    by_cases h2 : 0 ≤ a
    · rw [if_pos h2, if_pos h2]
      by_cases h3 : 0 ≤ b
      · rw [if_pos h3, if_pos h3, fd_270 h]
      · rw [if_neg h3, if_neg h3, fd_270 h]
    · rw [if_neg h2, if_neg h2]
      by_cases h3 : 0 ≤ b
      · rw [if_pos h3, if_pos h3, fd_270 h]
      · rw [if_neg h3, if_neg h3, fd_270 h]
theorem fd_k225 (hn : n ≤ 399) (h : X.1 0 8 = nI n) (ha : tmO a n) (hb : tmO b n) : k_Mo_found_225 k a b l X := by
  have hin : vp_in (nI n) 400 := by rw [in_iff, i_nI (by omega)]; omega
  have k270 : ∀ (x : Int32), k_Mo_found_270 k l x X := fun x => ⟨fun _ => by rw [h]; exact ⟨hin, trivial⟩, fun _ => by rw [h]; exact ⟨hin, trivial⟩⟩
  have k251 : ∀ (x : Int32), k_Mo_found_251 k b l x X := fun x => ⟨fun h2 => ⟨fd_hino hn hb ((i_pos (by omega) hb).mp h2), k270 _⟩, fun _ => k270 _⟩
  exact ⟨fun _ => k270 _, fun _ => ⟨fun h2 => ⟨fd_hino hn ha ((i_pos (by omega) ha).mp h2), k251 _⟩, fun _ => k251 _⟩⟩
theorem fd_212 (hn : n ≤ 399) (h : X.1 0 8 = nI n) (ha : tmO a n) (hb : tmO b n) (x : Int32) : k_Mo_found_212 k a b l x X ∧ f_Mo_found_212 k a b l x X = (nI n, sF (sA (sA X 7 (nI n) (x + 1)) 13 (nI n) (frW (X.1 13) k l a b)) 0 8 (nI n + 1)) := by
  have hin : vp_in (nI n) 400 := by rw [in_iff, i_nI (by omega)]; omega
  refine ⟨⟨by rw [h]; exact hin, fd_k225 hn h ha hb⟩, ?_⟩
  show f_Mo_found_225 k a b l (sA X 7 (X.1 0 8) (x + 1)) = _
  rw [h]
  exact fd_225 (X := sA X 7 (nI n) (x + 1)) hn h ha hb
theorem fd_165 (hn : n ≤ 399) (h : X.1 0 8 = nI n) (ha : tmO a n) (hb : tmO b n) (hab : a = -1 → b = -1) (hD : ∀ t, t < n → 1 ≤ (X.1 7 t).toInt ∧ (X.1 7 t).toInt ≤ 1000) :
    k_Mo_found_165 k a b l X ∧ f_Mo_found_165 k a b l X = (nI n, sF (sA (sA X 7 (nI n) (dpW (X.1 7) a b)) 13 (nI n) (frW (X.1 13) k l a b)) 0 8 (nI n + 1)) := by
  have e212 := fun x => (fd_212 (k := k) (l := l) hn h ha hb x).2
  have k212 := fun x => (fd_212 (k := k) (l := l) hn h ha hb x).1
  have k194 : ¬ a = -1 → k_Mo_found_194 k a b l X := fun h => ⟨fd_hino hn ha h, k212 _⟩
  refine ⟨⟨fun h1 => ⟨fun h2 => k194 ((i_pos (by omega) ha).mp h1), fun h2 => ?_⟩, fun _ => k212 _⟩, ?_⟩
  · have na := (i_pos (by omega) ha).mp h1
    have nb : ¬ b = -1 := fun h => h2 ((i_neg (by omega) hb).mpr h)
    exact ⟨fd_hino hn ha na, fd_hino hn hb nb, fun _ => ⟨fd_hino hn hb nb, k212 _⟩, fun _ => k194 na⟩
  · show (if 0 ≤ a then (if b < 0 then f_Mo_found_212 k a b l (X.1 7 a.toNatClampNeg) X else (if X.1 7 a.toNatClampNeg ≤ X.1 7 b.toNatClampNeg then f_Mo_found_212 k a b l (X.1 7 b.toNatClampNeg) X else f_Mo_found_212 k a b l (X.1 7 a.toNatClampNeg) X)) else f_Mo_found_212 k a b l 0 X) = _
    rw [e212, e212, e212]
    unfold dpW
    by_cases h1 : a = -1
    · rw [if_neg (fun h => (i_pos (by omega) ha).mp h h1)]
      have p1 : pO (X.1 7) a = 0 := by unfold pO; rw [if_pos h1]
      have p2 : pO (X.1 7) b = 0 := by unfold pO; rw [if_pos (hab h1)]
      rw [p1, p2, if_neg (by decide)]; rfl
    · rw [if_pos ((i_pos (by omega) ha).mpr h1)]
      have p1 : pO (X.1 7) a = X.1 7 a.toNatClampNeg := by unfold pO; rw [if_neg h1]
      obtain ⟨i, hi, ei⟩ := ha.resolve_left h1
      have di := hD i hi
      have ai : a.toNatClampNeg = i := by rw [ei]; exact nI_clamp (by omega)
      by_cases h2 : b = -1
      · rw [if_pos ((i_neg (by omega) hb).mpr h2)]
        have p2 : pO (X.1 7) b = 0 := by unfold pO; rw [if_pos h2]
        rw [p1, p2, ai, if_neg (fun h => by rw [Int32.lt_iff_toInt_lt, Int32.toInt_zero] at h; omega), Int32.add_comm]
      · rw [if_neg (fun h => h2 ((i_neg (by omega) hb).mp h))]
        have p2 : pO (X.1 7) b = X.1 7 b.toNatClampNeg := by unfold pO; rw [if_neg h2]
        obtain ⟨j, hj, ej⟩ := hb.resolve_left h2
        have bj : b.toNatClampNeg = j := by rw [ej]; exact nI_clamp (by omega)
        have dj := hD j hj
        rw [p1, p2, ai, bj]
        by_cases h3 : X.1 7 i ≤ X.1 7 j
        · rw [if_pos h3]
          by_cases h4 : X.1 7 i < X.1 7 j
          · rw [if_pos h4, Int32.add_comm]
          · rw [if_neg h4]
            have : X.1 7 i = X.1 7 j := by
              apply Int32.toInt_inj.mp
              rw [Int32.le_iff_toInt_le] at h3
              rw [Int32.lt_iff_toInt_lt] at h4
              omega
            rw [this, Int32.add_comm]
        · rw [if_neg h3, if_neg (fun h4 => h3 (by rw [Int32.le_iff_toInt_le]; rw [Int32.lt_iff_toInt_lt] at h4; omega)), Int32.add_comm]
end FDN
section FDV
variable {X : St} {n : Nat} {k s a b l p q : Int32} {v : Int32 × St}
theorem fd_154 (hn : n ≤ 399) (h : X.1 0 8 = nI n) (hv : k_Mo_found_165 k a b l (sA X 12 (nI n) q) ∧ f_Mo_found_165 k a b l (sA X 12 (nI n) q) = v) : k_Mo_found_154 k a b l q X ∧ f_Mo_found_154 k a b l q X = v := by
  rw [← h] at hv; exact ⟨⟨by rw [h, in_iff, i_nI (by omega)]; omega, hv.1⟩, hv.2⟩
theorem fd_143 (hn : n ≤ 399) (h : X.1 0 8 = nI n) (hv : k_Mo_found_154 k a b l q (sA X 11 (nI n) p) ∧ f_Mo_found_154 k a b l q (sA X 11 (nI n) p) = v) : k_Mo_found_143 k a b l p q X ∧ f_Mo_found_143 k a b l p q X = v := by
  rw [← h] at hv; exact ⟨⟨by rw [h, in_iff, i_nI (by omega)]; omega, hv.1⟩, hv.2⟩
theorem fd_132 (hn : n ≤ 399) (h : X.1 0 8 = nI n) (hv : k_Mo_found_143 k a b l p q (sA X 10 (nI n) l) ∧ f_Mo_found_143 k a b l p q (sA X 10 (nI n) l) = v) : k_Mo_found_132 k a b l p q X ∧ f_Mo_found_132 k a b l p q X = v := by
  rw [← h] at hv; exact ⟨⟨by rw [h, in_iff, i_nI (by omega)]; omega, hv.1⟩, hv.2⟩
theorem fd_121 (hn : n ≤ 399) (h : X.1 0 8 = nI n) (hv : k_Mo_found_132 k a b l p q (sA X 9 (nI n) b) ∧ f_Mo_found_132 k a b l p q (sA X 9 (nI n) b) = v) : k_Mo_found_121 k a b l p q X ∧ f_Mo_found_121 k a b l p q X = v := by
  rw [← h] at hv; exact ⟨⟨by rw [h, in_iff, i_nI (by omega)]; omega, hv.1⟩, hv.2⟩
theorem fd_111 (hn : n ≤ 399) (h : X.1 0 8 = nI n) (hv : k_Mo_found_121 k a b l p q (sA X 8 (nI n) a) ∧ f_Mo_found_121 k a b l p q (sA X 8 (nI n) a) = v) : k_Mo_found_111 k a b l p q X ∧ f_Mo_found_111 k a b l p q X = v := by
  rw [← h] at hv; exact ⟨⟨by rw [h, in_iff, i_nI (by omega)]; omega, hv.1⟩, hv.2⟩
theorem fd_101 (hn : n ≤ 399) (h : X.1 0 8 = nI n) (hv : k_Mo_found_111 k a b l p q (sA X 6 (nI n) s) ∧ f_Mo_found_111 k a b l p q (sA X 6 (nI n) s) = v) : k_Mo_found_101 k s a b l p q X ∧ f_Mo_found_101 k s a b l p q X = v := by
  rw [← h] at hv; exact ⟨⟨by rw [h, in_iff, i_nI (by omega)]; omega, hv.1⟩, hv.2⟩
end FDV
theorem fd_new {τ : St} {n : Nat} {k s a b l p q : Int32} (hn : n ≤ 399) (hc : τ.1 0 8 = nI n) (ha : tmO a n) (hb : tmO b n) (hab : a = -1 → b = -1) (hD : ∀ t, t < n → 1 ≤ (τ.1 7 t).toInt ∧ (τ.1 7 t).toInt ≤ 1000) :
    k_Mo_found_101 k s a b l p q (sA τ 5 (nI n) k) ∧ f_Mo_found_101 k s a b l p q (sA τ 5 (nI n) k) = (nI n, mNew τ n k s a b l p q (dpW (τ.1 7) a b) (frW (τ.1 13) k l a b)) :=
  fd_101 hn hc (fd_111 hn hc (fd_121 hn hc (fd_132 hn hc (fd_143 hn hc (fd_154 hn hc (fd_165 hn hc ha hb hab hD))))))
theorem from_eq {n : Nat} {a b : Int32} (hn : n ≤ 400) (ha : tmO a n) (hb : tmO b n) : ∃ f0 : Nat, f0 ≤ n ∧ (if (if a < b then b else a) + 1 < 0 then 0 else (if a < b then b else a) + 1) = nI f0 ∧ ∀ m : Nat, tmO a m → tmO b m → f0 ≤ m := by
  have e1 : (1 : Int32).toInt = 1 := by decide
  have val : ∀ x : Int32, tmO x n → (-1 ≤ x.toInt ∧ x.toInt < n) := fun x hx => by
    rcases hx with rfl | ⟨i, h1, rfl⟩
    · exact ⟨by decide, by show (-1 : Int) < _; omega⟩
    · rw [i_nI (by omega)]; omega
  have up : ∀ (x : Int32) (m : Nat), tmO x n → tmO x m → x.toInt < m := fun x m hx hm => by
    rcases hm with rfl | ⟨i, h1, rfl⟩
    · show (-1 : Int) < _; omega
    · have := val _ hx
      have h2 := i_rng (nI i)
      by_cases h3 : i < 2147483648
      · rw [i_nI h3]; omega
      · have : (nI i).toInt < n := this.2
        omega
  have ga := val a ha
  have gb := val b hb
  have key : ∀ x : Int32, -1 ≤ x.toInt ∧ x.toInt < n → (if x + 1 < 0 then 0 else x + 1) = nI (x.toInt + 1).toNat := by
    intro x hx
    have e2 : (x + 1).toInt = x.toInt + 1 := by rw [i_add (by rw [e1]; omega), e1]
    rw [if_neg (fun h => by rw [Int32.lt_iff_toInt_lt, Int32.toInt_zero, e2] at h; omega), nJ_of (a := x + 1) (by rw [e2]; omega), e2]
  by_cases h : a < b
  · rw [if_pos h]
    refine ⟨(b.toInt + 1).toNat, by omega, key b gb, fun m _ h2 => ?_⟩
    have := up b m hb h2; omega
  · rw [if_neg h]
    refine ⟨(a.toInt + 1).toNat, by omega, key a ga, fun m h1 _ => ?_⟩
    have := up a m ha h1; omega
/-- make and found: the same number, the same row -/
theorem mk_sim {σ τ : St} {n : Nat} {k s l a b : Int32} (h : TM n σ τ) (hn : n ≤ 206) (hk : 0 ≤ k.toInt ∧ k.toInt ≤ 10) (hk2 : ¬ k = 2) (hl : -1 ≤ l.toInt ∧ l.toInt ≤ 11) (ha : tmO a n) (hb : tmO b n) (hab : a = -1 → b = -1) :
    k_Te_make k s l a b σ ∧ k_Mo_found k s a b l 0 0 τ ∧
    ((∃ m, m < n ∧ fdM τ k a b l 0 0 m ∧ f_Te_make k s l a b σ = (nI m, σ) ∧ f_Mo_found k s a b l 0 0 τ = (nI m, τ)) ∨
     (f_Te_make k s l a b σ = (nI n, cNew σ n (ky k l a b) k s l a b (dpW (σ.1 14) a b) (lnW (σ.1 15) k a b) (frW (σ.1 16) k l a b) (if σ.1 6 13 = 0 then (if dpW (σ.1 14) a b ≤ 12 then 0 else 1) else 1)) ∧ f_Mo_found k s a b l 0 0 τ = (nI n, mNew τ n k s a b l 0 0 (dpW (τ.1 7) a b) (frW (τ.1 13) k l a b)))) := by
  obtain ⟨f0, hf0, ef, hup⟩ := from_eq (by omega) ha hb
  have hM : ∀ t, t < n → (σ.2 17 t = ky k l a b ↔ fdM τ k a b l 0 0 t) := fun t ht => key_row (by omega) ht h (by omega) hk2 (by omega) ha hb
  have e0 : f_Te_make k s l a b σ = f_Te_make_28 k s l a b (ky k l a b) (f_Te_find_7 1000 (ky k l a b) (if (if a < b then b else a) + 1 < 0 then 0 else (if a < b then b else a) + 1) σ) σ := rfl
  have k0 : k_Te_find_7 1000 (ky k l a b) (if (if a < b then b else a) + 1 < 0 then 0 else (if a < b then b else a) + 1) σ ∧ k_Te_make_28 k s l a b (ky k l a b) (f_Te_find_7 1000 (ky k l a b) (if (if a < b then b else a) + 1 < 0 then 0 else (if a < b then b else a) + 1) σ) σ → k_Te_make k s l a b σ := fun h => ⟨trivial, h.1, h.2⟩
  rw [ef] at e0 k0
  have m0 : f_Mo_found k s a b l 0 0 τ = f_Mo_found_3 1000 k s a b l 0 0 (nI 0) τ := by rw [nI_0]; rfl
  have km0 : k_Mo_found_3 1000 k s a b l 0 0 (nI 0) τ → k_Mo_found k s a b l 0 0 τ := fun h => by rw [nI_0] at h; exact h
  rcases first_of (fdM τ k a b l 0 0) n with ⟨m, hm, h1, h2⟩ | hno
  · have hfm : f0 ≤ m := by
      obtain ⟨g1, g2, -⟩ := (h.2.2 m hm).2
      rw [h1.2.1] at g1
      rw [h1.2.2.1] at g2
      exact hup m g1 g2
    obtain ⟨g1, g2⟩ := find_hit h.1 (by omega) hm ((hM m hm).mpr h1) (fun i hi hi2 => h2 i hi ((hM i (by omega)).mp hi2)) (m - f0) f0 1000 (by omega) (by omega)
    obtain ⟨g3, g4⟩ := fd_hit (s := s) h.2.1 (by omega) hm h1 h2 m 0 1000 (by omega) (by omega)
    have n1 : ¬ nI m = -1 := nI_ne_m1 (by omega)
    refine ⟨k0 ⟨g1, ?_⟩, km0 g3, Or.inl ⟨m, hm, h1, ?_, ?_⟩⟩
    · rw [g2]; exact ⟨fun h => absurd h n1, fun _ => trivial⟩
    · rw [e0, g2]
      show (if nI m = -1 then _ else (nI m, σ)) = _
      rw [if_neg n1]
    · rw [m0, g4]
  · obtain ⟨g1, g2⟩ := find_miss h.1 (by omega) (fun i hi hi2 => hno i hi ((hM i hi).mp hi2)) (n - f0) f0 1000 (by omega) (by omega)
    obtain ⟨g5, g6⟩ := fd_new (s := s) (p := 0) (q := 0) (k := k) (l := l) (by omega) h.2.1 ha hb hab (fun t ht => by have := (h.2.2 t ht).2.2.2.2.2.2.2.2.2.2.2; omega)
    obtain ⟨g3, g4⟩ := fd_miss (s := s) h.2.1 (by omega) hno g5 n 0 1000 (by omega) (by omega)
    obtain ⟨g7, g8⟩ := mk_new (k := k) (s := s) (l := l) (ky k l a b) hn h.1 ha hb
    refine ⟨k0 ⟨g1, ?_⟩, km0 g3, Or.inr ⟨?_, ?_⟩⟩
    · rw [g2]; exact g7
    · rw [e0, g2]; exact g8
    · rw [m0, g4, g6]
theorem pO_cong {f g : Nat → Int32} {x : Int32} {t n : Nat} (hx : tmO x t) (ht : t ≤ n) (hn : n < 2147483648) (h : ∀ j, j < n → g j = f j) : pO g x = pO f x := by
  unfold pO
  rcases hx with rfl | ⟨i, h1, rfl⟩
  · rw [if_pos rfl, if_pos rfl]
  · rw [nI_clamp (by omega), h i (by omega)]
theorem dpW_cong {f g : Nat → Int32} {a b : Int32} {t n : Nat} (ha : tmO a t) (hb : tmO b t) (ht : t ≤ n) (hn : n < 2147483648) (h : ∀ j, j < n → g j = f j) : dpW g a b = dpW f a b := by
  unfold dpW; rw [pO_cong ha ht hn h, pO_cong hb ht hn h]
theorem frW_cong {f g : Nat → Int32} {k l a b : Int32} {t n : Nat} (ha : tmO a t) (hb : tmO b t) (ht : t ≤ n) (hn : n < 2147483648) (h : ∀ j, j < n → g j = f j) : frW g k l a b = frW f k l a b := by
  unfold frW; rw [pO_cong ha ht hn h, pO_cong hb ht hn h]
theorem tmW.cong {τ τ' : St} {t n : Nat} (ht : t < n) (hn : n < 2147483648) (h : tmW τ t) (e : ∀ c, 5 ≤ c → c ≤ 13 → ∀ j, j < n → τ'.1 c j = τ.1 c j) : tmW τ' t := by
  obtain ⟨h1, h2, h3, h4, h5, h6, h7, h8, h9, h10, h11⟩ := h
  unfold tmW
  rw [e 5 (by omega) (by omega) t ht, e 6 (by omega) (by omega) t ht, e 7 (by omega) (by omega) t ht, e 8 (by omega) (by omega) t ht, e 9 (by omega) (by omega) t ht, e 10 (by omega) (by omega) t ht, e 11 (by omega) (by omega) t ht, e 12 (by omega) (by omega) t ht, e 13 (by omega) (by omega) t ht,
    dpW_cong h1 h2 (Nat.le_of_lt ht) hn (e 7 (by omega) (by omega)), frW_cong h1 h2 (Nat.le_of_lt ht) hn (e 13 (by omega) (by omega))]
  exact ⟨h1, h2, h3, h4, h5, h6, h7, h8, h9, h10, h11⟩
theorem sF1c (σ : St) (k j : Nat) (v : Int32) (a b : Nat) : (sF σ k j v).1 a b = if a = k ∧ b = j then v else σ.1 a b := by
  rw [sF1]
  by_cases h : a = k
  · by_cases h2 : b = j
    · rw [if_pos h, if_pos h2, if_pos ⟨h, h2⟩]
    · rw [if_pos h, if_neg h2, if_neg (fun q => h2 q.2), h]
  · rw [if_neg h, if_neg (fun q => h q.1)]
theorem sA1c (σ : St) (k : Nat) (i v : Int32) (a b : Nat) : (sA σ k i v).1 a b = if a = k ∧ b = i.toNatClampNeg then v else σ.1 a b := by
  rw [sA1]
  by_cases h : a = k
  · by_cases h2 : b = i.toNatClampNeg
    · rw [if_pos h, if_pos h2, if_pos ⟨h, h2⟩]
    · rw [if_pos h, if_neg h2, if_neg (fun q => h2 q.2), h]
  · rw [if_neg h, if_neg (fun q => h q.1)]
theorem mNew_at {τ : St} {n : Nat} {k s a b l p q dp fr : Int32} (hn : n < 2147483648) : ∀ c, 5 ≤ c → c ≤ 13 → ∀ j, ¬ j = n → (mNew τ n k s a b l p q dp fr).1 c j = τ.1 c j := by
  intro c h1 h2 j hj
  have hcl : (nI n).toNatClampNeg = n := nI_clamp hn
  have h0 : ¬ c = 0 := by omega
  unfold mNew
  simp only [sF1c, sA1c, hcl, hj, h0, and_false, false_and, if_false]
theorem cNew_at {σ : St} {n : Nat} {key : Int64} {k s l a b dp ln fr dv : Int32} (hn : n < 2147483648) : (∀ c, 7 ≤ c → c ≤ 16 → ∀ j, ¬ j = n → (cNew σ n key k s l a b dp ln fr dv).1 c j = σ.1 c j) ∧ ∀ j, ¬ j = n → (cNew σ n key k s l a b dp ln fr dv).2 17 j = σ.2 17 j := by
  have hcl : (nI n).toNatClampNeg = n := nI_clamp hn
  refine ⟨fun c h1 h2 j hj => ?_, fun j hj => ?_⟩
  · unfold cNew
    have h6 : ¬ c = 6 := by omega
    simp only [sF1c, sA1c, sL1, hcl, hj, h6, and_false, false_and, if_false]
  · show vp_updL (σ.2 17) (nI n).toNatClampNeg key j = _
    unfold vp_updL
    rw [hcl, if_neg hj]
/-- behind a new row both tables still go side by side -/
theorem TM.new {σ τ : St} {n : Nat} {k s l a b : Int32} (h : TM n σ τ) (hn : n ≤ 398) (hk : ∃ i, i ≤ 10 ∧ k = nI i) (hk2 : ¬ k = 2) (hl : -1 ≤ l.toInt ∧ l.toInt ≤ 11) (hs : ∃ i, i < 5 ∧ s = nI i) (ha : tmO a n) (hb : tmO b n) (hab : a = -1 → b = -1) (dv ln : Int32) :
    TM (n + 1) (cNew σ n (ky k l a b) k s l a b (dpW (σ.1 14) a b) ln (frW (σ.1 16) k l a b) dv) (mNew τ n k s a b l 0 0 (dpW (τ.1 7) a b) (frW (τ.1 13) k l a b)) := by
  have hcl : (nI n).toNatClampNeg = n := nI_clamp (by omega)
  have eD : dpW (σ.1 14) a b = dpW (τ.1 7) a b := dpW_cong ha hb (Nat.le_refl n) (by omega) (fun j hj => (h.2.2 j hj).1.2.2.2.2.2.1)
  have eF : frW (σ.1 16) k l a b = frW (τ.1 13) k l a b := frW_cong ha hb (Nat.le_refl n) (by omega) (fun j hj => (h.2.2 j hj).1.2.2.2.2.2.2.1)
  refine ⟨by rw [nI_succ]; rfl, by rw [nI_succ]; rfl, fun t ht => ?_⟩
  by_cases e : t = n
  · subst e
    let τ' := mNew τ t k s a b l 0 0 (dpW (τ.1 7) a b) (frW (τ.1 13) k l a b)
    have r5 : τ'.1 5 t = k := by show upd _ (nI t).toNatClampNeg k t = _; rw [upd_at, hcl, if_pos rfl]
    have r6 : τ'.1 6 t = s := by show upd _ (nI t).toNatClampNeg s t = _; rw [upd_at, hcl, if_pos rfl]
    have r7 : τ'.1 7 t = dpW (τ.1 7) a b := by show upd _ (nI t).toNatClampNeg _ t = _; rw [upd_at, hcl, if_pos rfl]
    have r8 : τ'.1 8 t = a := by show upd _ (nI t).toNatClampNeg a t = _; rw [upd_at, hcl, if_pos rfl]
    have r9 : τ'.1 9 t = b := by show upd _ (nI t).toNatClampNeg b t = _; rw [upd_at, hcl, if_pos rfl]
    have r10 : τ'.1 10 t = l := by show upd _ (nI t).toNatClampNeg l t = _; rw [upd_at, hcl, if_pos rfl]
    have r11 : τ'.1 11 t = 0 := by show upd _ (nI t).toNatClampNeg 0 t = _; rw [upd_at, hcl, if_pos rfl]
    have r12 : τ'.1 12 t = 0 := by show upd _ (nI t).toNatClampNeg 0 t = _; rw [upd_at, hcl, if_pos rfl]
    have r13 : τ'.1 13 t = frW (τ.1 13) k l a b := by show upd _ (nI t).toNatClampNeg _ t = _; rw [upd_at, hcl, if_pos rfl]
    have up : ∀ (f : Nat → Int32) (v : Int32), upd f (nI t).toNatClampNeg v t = v := fun f v => by rw [upd_at, hcl, if_pos rfl]
    refine ⟨⟨?_, ?_, ?_, ?_, ?_, ?_, ?_, ?_, ?_⟩, ?_⟩
    · show upd _ (nI t).toNatClampNeg k t = τ'.1 5 t; rw [up, r5]
    · show upd _ (nI t).toNatClampNeg s t = τ'.1 6 t; rw [up, r6]
    · show upd _ (nI t).toNatClampNeg l t = τ'.1 10 t; rw [up, r10]
    · show upd _ (nI t).toNatClampNeg a t = τ'.1 8 t; rw [up, r8]
    · show upd _ (nI t).toNatClampNeg b t = τ'.1 9 t; rw [up, r9]
    · show upd _ (nI t).toNatClampNeg _ t = τ'.1 7 t; rw [up, r7, eD]
    · show upd _ (nI t).toNatClampNeg _ t = τ'.1 13 t; rw [up, r13, eF]
    · intro h2; exact absurd (r5.symm.trans h2) hk2
    · show vp_updL _ (nI t).toNatClampNeg _ t = kyR τ' t
      unfold vp_updL kyR
      rw [hcl, if_pos rfl, r5, r8, r9, r10, if_neg hk2]
    · show tmW τ' t
      unfold tmW
      rw [r5, r6, r8, r9, r10, r11, r12]
      have ag : ∀ c, 5 ≤ c → c ≤ 13 → ∀ j, j < t → τ'.1 c j = τ.1 c j := fun c h1 h2 j hj => mNew_at (by omega) c h1 h2 j (by omega)
      refine ⟨ha, hb, hab, hk, hl, hs, fun h2 => absurd h2 hk2, fun _ => ⟨rfl, rfl⟩, ?_, ?_, ?_⟩
      · rw [r7]; exact (dpW_cong ha hb (Nat.le_refl t) (by omega) (ag 7 (by omega) (by omega))).symm
      · rw [r13]; exact (frW_cong ha hb (Nat.le_refl t) (by omega) (ag 13 (by omega) (by omega))).symm
      · rw [r7]
        have pb : ∀ x : Int32, tmO x t → 0 ≤ (pO (τ.1 7) x).toInt ∧ (pO (τ.1 7) x).toInt ≤ t := by
          intro x hx
          unfold pO
          rcases hx with rfl | ⟨i, h1, rfl⟩
          · rw [if_pos rfl, Int32.toInt_zero]; omega
          · rw [if_neg (nI_ne_m1 (by omega)), nI_clamp (by omega)]
            have := (h.2.2 i h1).2.2.2.2.2.2.2.2.2.2.2
            omega
        have b1 := pb a ha
        have b2 := pb b hb
        unfold dpW
        have e1 : (1 : Int32).toInt = 1 := by decide
        by_cases h3 : pO (τ.1 7) a < pO (τ.1 7) b
        · rw [if_pos h3, i_add (by rw [e1]; omega), e1]; omega
        · rw [if_neg h3, i_add (by rw [e1]; omega), e1]; omega
  · have ht' : t < n := by omega
    obtain ⟨⟨e1, e2, e3, e4, e5, e6, e7, e8, e9⟩, hW⟩ := h.2.2 t ht'
    have agM : ∀ c, 5 ≤ c → c ≤ 13 → ∀ j, j < n → (mNew τ n k s a b l 0 0 (dpW (τ.1 7) a b) (frW (τ.1 13) k l a b)).1 c j = τ.1 c j := fun c h1 h2 j hj => mNew_at (by omega) c h1 h2 j (by omega)
    have agC := cNew_at (σ := σ) (n := n) (key := ky k l a b) (k := k) (s := s) (l := l) (a := a) (b := b) (dp := dpW (σ.1 14) a b) (ln := ln) (fr := frW (σ.1 16) k l a b) (dv := dv) (by omega)
    refine ⟨?_, hW.cong ht' (by omega) agM⟩
    unfold tmE kyR
    rw [agC.1 7 (by omega) (by omega) t e, agC.1 8 (by omega) (by omega) t e, agC.1 9 (by omega) (by omega) t e, agC.1 10 (by omega) (by omega) t e, agC.1 11 (by omega) (by omega) t e, agC.1 12 (by omega) (by omega) t e, agC.1 13 (by omega) (by omega) t e, agC.1 14 (by omega) (by omega) t e, agC.1 16 (by omega) (by omega) t e, agC.2 t e,
      agM 5 (by omega) (by omega) t ht', agM 6 (by omega) (by omega) t ht', agM 7 (by omega) (by omega) t ht', agM 8 (by omega) (by omega) t ht', agM 9 (by omega) (by omega) t ht', agM 10 (by omega) (by omega) t ht', agM 11 (by omega) (by omega) t ht', agM 12 (by omega) (by omega) t ht', agM 13 (by omega) (by omega) t ht']
    exact ⟨e1, e2, e3, e4, e5, e6, e7, e8, e9⟩
