-- a term's text, as a list; how the class tells its length and its letters
theorem gD_l {L M : List Int32} : ∀ {i : Nat}, i < L.length → (L ++ M).getD i 0 = L.getD i 0 := by
  induction L with
  | nil => intro i h; exact absurd h (Nat.not_lt_zero i)
  | cons x L ih =>
    intro i h
    cases i with
    | zero => rfl
    | succ i => exact ih (i := i) (Nat.lt_of_succ_lt_succ h)
theorem gD_r {L M : List Int32} : ∀ {i : Nat}, L.length ≤ i → (L ++ M).getD i 0 = M.getD (i - L.length) 0 := by
  induction L with
  | nil => intro i _; rfl
  | cons x L ih =>
    intro i h
    cases i with
    | zero => exact absurd h (Nat.not_succ_le_zero _)
    | succ i =>
      have := ih (i := i) (Nat.le_of_succ_le_succ h)
      show (L ++ M).getD i 0 = _
      rw [this]
      show M.getD (i - L.length) 0 = M.getD (i + 1 - (L.length + 1)) 0
      rw [show i + 1 - (L.length + 1) = i - L.length by omega]
def mkL (k l : Int32) : Int32 := if k = 0 then 97 + l else (if k = 1 then 120 + l else (if k = 3 then 43 else (if k = 4 then 42 else (if k = 5 then 61 else (if k = 6 then 60 else (if k = 7 then 126 else (if k = 8 then 38 else (if k = 9 then 124 else 33))))))))
def cT (p q : Int32) : List Int32 := (if 0 ≤ p then [] else [45]) ++ (numT (plc p.toInt.natAbs) p.toInt.natAbs ++ (if q = 1 then [] else 47 :: numT (plc q.toInt.natAbs) q.toInt.natAbs))
def hdT (k l : Int32) : List Int32 := 40 :: mkL k l :: (if k = 10 then [32, 120 + l, 32] else [32])
def txt (τ : St) : Nat → Nat → List Int32
  | 0, _ => []
  | d + 1, t => if τ.1 5 t = 2 then cT (τ.1 11 t) (τ.1 12 t) else (if τ.1 8 t = -1 then [mkL (τ.1 5 t) (τ.1 10 t)] else hdT (τ.1 5 t) (τ.1 10 t) ++ (txt τ d (τ.1 8 t).toNatClampNeg ++ ((if τ.1 9 t = -1 then [] else 32 :: txt τ d (τ.1 9 t).toNatClampNeg) ++ [41])))
section TXT
variable {n : Nat} {σ τ : St}
theorem absI {p : Int32} (h : -99999 ≤ p.toInt ∧ p.toInt ≤ 99999) : (if 0 ≤ p then p else 0 - p) = nI p.toInt.natAbs := by
  have z : (0 ≤ p) ↔ 0 ≤ p.toInt := by rw [Int32.le_iff_toInt_le, Int32.toInt_zero]
  apply Int32.toInt_inj.mp
  rw [i_nI (by omega)]
  by_cases w : 0 ≤ p
  · rw [if_pos w]; rw [z] at w; omega
  · rw [if_neg w, i_sub (by rw [Int32.toInt_zero]; omega), Int32.toInt_zero]; rw [z] at w; omega
theorem qI {q : Int32} (h : 1 ≤ q.toInt ∧ q.toInt ≤ 99999) : q = nI q.toInt.natAbs := by
  apply Int32.toInt_inj.mp
  rw [i_nI (by omega)]; omega
theorem cT_len {p q : Int32} (hp : -99999 ≤ p.toInt ∧ p.toInt ≤ 99999) (hq : 1 ≤ q.toInt ∧ q.toInt ≤ 99999) : f_Wr_lengthOfConstant p q σ = nI (cT p q).length ∧ (cT p q).length ≤ 12 ∧ 1 ≤ (cT p q).length := by
  have hdp := plc_dgt (v := p.toInt.natAbs) (by omega)
  have hdq := plc_dgt (v := q.toInt.natAbs) (by omega)
  have e1 : f_Wr_digitsOf (if 0 ≤ p then p else 0 - p) σ = nI (plc p.toInt.natAbs + 1) := by rw [absI hp]; exact digitsOf_eq hdp (by omega)
  have e2 : f_Wr_digitsOf q σ = nI (plc q.toInt.natAbs + 1) := by rw [qI hq]; rw [i_nI (by omega)]; exact digitsOf_eq hdq (by omega)
  have l4 := hdp.2.2
  have l5 := hdq.2.2
  have key : ∀ (s : Int32) (k : Nat), s = nI k → f_Wr_lengthOfConstant_9 p q s σ = nI (k + (plc p.toInt.natAbs + 1) + (if q = 1 then 0 else 1 + (plc q.toInt.natAbs + 1))) := fun s k hs => by
    show (if q = 1 then s + f_Wr_digitsOf (if 0 ≤ p then p else 0 - p) σ else s + f_Wr_digitsOf (if 0 ≤ p then p else 0 - p) σ + 1 + f_Wr_digitsOf q σ) = _
    rw [e1, e2, hs]
    by_cases w : q = 1
    · rw [if_pos w, if_pos w, nI_plus]; rfl
    · rw [if_neg w, if_neg w, nI_plus, ← nI_succ, nI_plus, show k + (plc p.toInt.natAbs + 1) + 1 + (plc q.toInt.natAbs + 1) = k + (plc p.toInt.natAbs + 1) + (1 + (plc q.toInt.natAbs + 1)) by omega]
  have lc : (cT p q).length = (if 0 ≤ p then 0 else 1) + (plc p.toInt.natAbs + 1) + (if q = 1 then 0 else 1 + (plc q.toInt.natAbs + 1)) := by
    unfold cT
    rw [List.length_append, List.length_append, numT_len]
    by_cases w : 0 ≤ p
    · rw [if_pos w, if_pos w]
      by_cases w2 : q = 1
      · rw [if_pos w2, if_pos w2]; show 0 + (_ + 0) = _; omega
      · rw [if_neg w2, if_neg w2, List.length_cons, numT_len]; show 0 + _ = _; omega
    · rw [if_neg w, if_neg w]
      by_cases w2 : q = 1
      · rw [if_pos w2, if_pos w2]; show 1 + (_ + 0) = _; omega
      · rw [if_neg w2, if_neg w2]; show 0 + 1 + (_ + ((numT _ _).length + 1)) = _; rw [numT_len]; omega
  refine ⟨?_, ?_, ?_⟩
  · rw [lc]
    show (if 0 ≤ p then f_Wr_lengthOfConstant_9 p q 0 σ else f_Wr_lengthOfConstant_9 p q 1 σ) = _
    by_cases w : 0 ≤ p
    · rw [if_pos w, if_pos w, key 0 0 nI_0.symm]
    · rw [if_neg w, if_neg w, key 1 1 (by decide +kernel)]
  · rw [lc]
    by_cases w : 0 ≤ p
    · rw [if_pos w]
      by_cases w2 : q = 1
      · rw [if_pos w2]; omega
      · rw [if_neg w2]; omega
    · rw [if_neg w]
      by_cases w2 : q = 1
      · rw [if_pos w2]; omega
      · rw [if_neg w2]; omega
  · rw [lc]; omega
/-- a part lies less deep -/
theorem dep_part {t i : Nat} (hW : tmW τ t) (ht : t ≤ 400) (hD : ∀ j, j < t → 1 ≤ (τ.1 7 j).toInt ∧ (τ.1 7 j).toInt ≤ 1000) (hi : i < t) (h : τ.1 8 t = nI i ∨ τ.1 9 t = nI i) : (τ.1 7 i).toInt < (τ.1 7 t).toInt := by
  obtain ⟨h1, h2, -, -, -, -, -, -, h9, -⟩ := hW
  have pb : ∀ x : Int32, tmO x t → 0 ≤ (pO (τ.1 7) x).toInt ∧ (pO (τ.1 7) x).toInt ≤ 1000 := fun x hx => by
    unfold pO
    rcases hx with rfl | ⟨j, q1, rfl⟩
    · rw [if_pos rfl, Int32.toInt_zero]; omega
    · rw [if_neg (nI_ne_m1 (by omega)), nI_clamp (by omega)]
      have := hD j q1
      omega
  have b1 := pb _ h1
  have b2 := pb _ h2
  have pi : pO (τ.1 7) (nI i) = τ.1 7 i := by unfold pO; rw [if_neg (nI_ne_m1 (by omega)), nI_clamp (by omega)]
  have e1 : (1 : Int32).toInt = 1 := by decide
  rw [h9]
  unfold dpW
  rcases h with h | h
  · rw [h] at b1 ⊢
    rw [pi] at b1 ⊢
    by_cases z : τ.1 7 i < pO (τ.1 7) (τ.1 9 t)
    · rw [if_pos z, i_add (by rw [e1]; omega), e1]; rw [Int32.lt_iff_toInt_lt] at z; omega
    · rw [if_neg z, i_add (by rw [e1]; omega), e1]; omega
  · rw [h] at b2 ⊢
    rw [pi] at b2 ⊢
    by_cases z : pO (τ.1 7) (τ.1 8 t) < τ.1 7 i
    · rw [if_pos z, i_add (by rw [e1]; omega), e1]; omega
    · rw [if_neg z, i_add (by rw [e1]; omega), e1]; rw [Int32.lt_iff_toInt_lt] at z; omega
theorem txt_len (hT : TM n σ τ) (hL : LN n σ τ) (hn : n ≤ 100) : ∀ (d t : Nat), d ≤ 12 → t < n → (τ.1 7 t).toInt ≤ d → σ.1 15 t = nI (txt τ d t).length ∧ (txt τ d t).length + 10 ≤ 20 * 2 ^ d ∧ 1 ≤ (txt τ d t).length := by
  have hD : ∀ j, j < n → 1 ≤ (τ.1 7 j).toInt ∧ (τ.1 7 j).toInt ≤ 1000 := fun j hj => by
    have := (hT.2.2 j hj).2.2.2.2.2.2.2.2.2.2.2
    omega
  intro d
  induction d with
  | zero =>
    intro t _ ht hd
    have := hD t ht
    omega
  | succ d ih =>
    intro t hd12 ht hd
    have hW := (hT.2.2 t ht).2
    obtain ⟨l1, l2⟩ := hL t ht
    have p2 : 2 ^ (d + 1) = 2 * 2 ^ d := by rw [Nat.pow_succ, Nat.mul_comm]
    have p1 : 1 ≤ 2 ^ d := Nat.one_le_pow _ _ (by omega)
    have pd : 2 ^ d ≤ 2 ^ 12 := Nat.pow_le_pow_right (by omega) (by omega)
    have p12 : (2 : Nat) ^ 12 = 4096 := rfl
    show σ.1 15 t = nI (if τ.1 5 t = 2 then cT (τ.1 11 t) (τ.1 12 t) else (if τ.1 8 t = -1 then [mkL (τ.1 5 t) (τ.1 10 t)] else hdT (τ.1 5 t) (τ.1 10 t) ++ (txt τ d (τ.1 8 t).toNatClampNeg ++ ((if τ.1 9 t = -1 then [] else 32 :: txt τ d (τ.1 9 t).toNatClampNeg) ++ [41])))).length ∧ (if τ.1 5 t = 2 then cT (τ.1 11 t) (τ.1 12 t) else (if τ.1 8 t = -1 then [mkL (τ.1 5 t) (τ.1 10 t)] else hdT (τ.1 5 t) (τ.1 10 t) ++ (txt τ d (τ.1 8 t).toNatClampNeg ++ ((if τ.1 9 t = -1 then [] else 32 :: txt τ d (τ.1 9 t).toNatClampNeg) ++ [41])))).length + 10 ≤ _ ∧ 1 ≤ (if τ.1 5 t = 2 then cT (τ.1 11 t) (τ.1 12 t) else (if τ.1 8 t = -1 then [mkL (τ.1 5 t) (τ.1 10 t)] else hdT (τ.1 5 t) (τ.1 10 t) ++ (txt τ d (τ.1 8 t).toNatClampNeg ++ ((if τ.1 9 t = -1 then [] else 32 :: txt τ d (τ.1 9 t).toNatClampNeg) ++ [41])))).length
    by_cases k2 : τ.1 5 t = 2
    · rw [if_pos k2]
      obtain ⟨-, -, -, hp, hq⟩ := hW.2.2.2.2.2.2.1 k2
      obtain ⟨c1, c2, c3⟩ := cT_len (σ := σ) hp hq
      exact ⟨(l2 k2 σ).trans c1, by omega, c3⟩
    · rw [if_neg k2]
      have l1 := l1 k2
      by_cases k8 : τ.1 8 t = -1
      · rw [if_pos k8]
        have k9 := hW.2.2.1 k8
        refine ⟨?_, by show 1 + 10 ≤ _; omega, by show 1 ≤ 1; omega⟩
        rw [l1]
        unfold lnW
        rw [if_pos k8, if_pos k9]
        show (1 : Int32) + 0 = nI 1
        decide +kernel
      · rw [if_neg k8]
        obtain ⟨i, i1, i2⟩ := hW.1.resolve_left k8
        have hci : (nI i).toNatClampNeg = i := nI_clamp (by omega)
        have di := dep_part hW (by omega) (fun j hj => hD j (by omega)) i1 (Or.inl i2)
        obtain ⟨a1, a2, a3⟩ := ih i (by omega) (by omega) (by omega)
        have pa : pO (σ.1 15) (τ.1 8 t) = nI (txt τ d i).length := by
          unfold pO; rw [if_neg k8, i2, hci]; exact a1
        have hl : (hdT (τ.1 5 t) (τ.1 10 t)).length = if τ.1 5 t = 10 then 5 else 3 := by
          unfold hdT
          by_cases w : τ.1 5 t = 10
          · rw [if_pos w, if_pos w]; rfl
          · rw [if_neg w, if_neg w]; rfl
        have e35 : (if τ.1 5 t = 10 then (5 : Int32) else 3) = nI (if τ.1 5 t = 10 then 5 else 3) := by
          by_cases w : τ.1 5 t = 10
          · rw [if_pos w, if_pos w]; decide +kernel
          · rw [if_neg w, if_neg w]; decide +kernel
        have b35 : (if τ.1 5 t = 10 then 5 else 3) ≤ 5 := by
          by_cases w : τ.1 5 t = 10
          · rw [if_pos w]; exact Nat.le_refl 5
          · rw [if_neg w]; omega
        rw [List.length_append, List.length_append, List.length_append, hl, i2, hci]
        rw [l1]
        unfold lnW
        rw [if_neg k8, e35, pa]
        generalize (if τ.1 5 t = 10 then 5 else 3) = hd' at b35 ⊢
        by_cases k9 : τ.1 9 t = -1
        · rw [if_pos k9, if_pos k9]
          refine ⟨?_, ?_, ?_⟩
          · rw [nI_plus, ← nI_succ, Int32.add_zero]
            show nI (hd' + (txt τ d i).length + 1) = nI (hd' + ((txt τ d i).length + (0 + 1)))
            rw [show hd' + (txt τ d i).length + 1 = hd' + ((txt τ d i).length + (0 + 1)) by omega]
          · show hd' + ((txt τ d i).length + (0 + 1)) + 10 ≤ _
            omega
          · show 1 ≤ hd' + ((txt τ d i).length + (0 + 1))
            omega
        · obtain ⟨j, j1, j2⟩ := hW.2.1.resolve_left k9
          have hcj : (nI j).toNatClampNeg = j := nI_clamp (by omega)
          have dj := dep_part hW (by omega) (fun j hj => hD j (by omega)) j1 (Or.inr j2)
          obtain ⟨b1, b2, b3⟩ := ih j (by omega) (by omega) (by omega)
          have pb : pO (σ.1 15) (τ.1 9 t) = nI (txt τ d j).length := by
            unfold pO; rw [if_neg k9, j2, hcj]; exact b1
          rw [if_neg k9, if_neg k9, pb, j2, hcj, List.length_cons]
          refine ⟨?_, ?_, ?_⟩
          · rw [nI_plus, ← nI_succ, show (1 : Int32) = nI 1 by decide +kernel, nI_plus, nI_plus]
            show nI (hd' + (txt τ d i).length + 1 + (1 + (txt τ d j).length)) = nI (hd' + ((txt τ d i).length + ((txt τ d j).length + 1 + 1)))
            rw [show hd' + (txt τ d i).length + 1 + (1 + (txt τ d j).length) = hd' + ((txt τ d i).length + ((txt τ d j).length + 1 + 1)) by omega]
          · show hd' + ((txt τ d i).length + ((txt τ d j).length + 1 + 1)) + 10 ≤ _
            omega
          · show 1 ≤ hd' + ((txt τ d i).length + ((txt τ d j).length + 1 + 1))
            omega
/-- a letter of a constant -/
theorem loc_C {p q : Int32} {i : Nat} (hp : -99999 ≤ p.toInt ∧ p.toInt ≤ 99999) (hq : 1 ≤ q.toInt ∧ q.toInt ≤ 99999) (hi : i < (cT p q).length) : k_Wr_letterOfConstant p q (nI i) σ ∧ f_Wr_letterOfConstant p q (nI i) σ = (cT p q).getD i 0 ∧ narrow .char (.int ((cT p q).getD i 0)) = .int ((cT p q).getD i 0) := by
  have hdp := plc_dgt (v := p.toInt.natAbs) (by omega)
  have hdq := plc_dgt (v := q.toInt.natAbs) (by omega)
  have e1 : f_Wr_digitsOf (if 0 ≤ p then p else 0 - p) σ = nI (plc p.toInt.natAbs + 1) := by rw [absI hp]; exact digitsOf_eq hdp (by omega)
  have e2 : f_Wr_digitsOf q σ = nI (plc q.toInt.natAbs + 1) := by rw [qI hq]; rw [i_nI (by omega)]; exact digitsOf_eq hdq (by omega)
  have eq2 := qI hq
  have l12 := (cT_len (σ := σ) hp hq).2.1
  have nrd : ∀ j v : Nat, narrow .char (.int (dC j v)) = .int (dC j v) := fun j v => nar_char (by have := dC_rng j v; omega) (by have := dC_rng j v; omega)
  -- behind the sign
  have rest : ∀ x : Nat, x < (numT (plc p.toInt.natAbs) p.toInt.natAbs ++ (if q = 1 then [] else 47 :: numT (plc q.toInt.natAbs) q.toInt.natAbs)).length → x ≤ 12 → k_Wr_letterOfConstant_32 p q (nI (plc p.toInt.natAbs + 1)) (nI x) σ ∧ f_Wr_letterOfConstant_32 p q (nI (plc p.toInt.natAbs + 1)) (nI x) σ = (numT (plc p.toInt.natAbs) p.toInt.natAbs ++ (if q = 1 then [] else 47 :: numT (plc q.toInt.natAbs) q.toInt.natAbs)).getD x 0 ∧ narrow .char (.int ((numT (plc p.toInt.natAbs) p.toInt.natAbs ++ (if q = 1 then [] else 47 :: numT (plc q.toInt.natAbs) q.toInt.natAbs)).getD x 0)) = .int ((numT (plc p.toInt.natAbs) p.toInt.natAbs ++ (if q = 1 then [] else 47 :: numT (plc q.toInt.natAbs) q.toInt.natAbs)).getD x 0) := fun x hx hx12 => by
    have l4 := hdp.2.2
    have l5 := hdq.2.2
    have lle : (nI (plc p.toInt.natAbs + 1) ≤ nI x) ↔ plc p.toInt.natAbs + 1 ≤ x := nI_le_iff (by omega) (by omega)
    have e0 : f_Wr_letterOfConstant_32 p q (nI (plc p.toInt.natAbs + 1)) (nI x) σ = if nI (plc p.toInt.natAbs + 1) ≤ nI x then (if nI x = nI (plc p.toInt.natAbs + 1) then 47 else f_Wr_digit q (f_Wr_digitsOf q σ - 1 - (nI x - nI (plc p.toInt.natAbs + 1) - 1)) σ) else f_Wr_digit (if 0 ≤ p then p else 0 - p) (nI (plc p.toInt.natAbs + 1) - 1 - nI x) σ := rfl
    have nsub : ∀ a b : Nat, b ≤ a → a < 1000 → nI a - nI b = nI (a - b) := fun a b h1 h2 => by
      apply Int32.toInt_inj.mp
      rw [i_sub (by rw [i_nI (by omega), i_nI (by omega)]; omega), i_nI (by omega), i_nI (by omega), i_nI (by omega)]; omega
    by_cases w : x < plc p.toInt.natAbs + 1
    · have ns : ¬ nI (plc p.toInt.natAbs + 1) ≤ nI x := fun z => by have := lle.mp z; omega
      have ep : nI (plc p.toInt.natAbs + 1) - 1 - nI x = nI (plc p.toInt.natAbs - x) := by rw [nI_pred, nsub _ _ (by omega) (by omega)]
      have el : (numT (plc p.toInt.natAbs) p.toInt.natAbs ++ (if q = 1 then [] else 47 :: numT (plc q.toInt.natAbs) q.toInt.natAbs)).getD x 0 = dC (plc p.toInt.natAbs - x) p.toInt.natAbs := by
        rw [gD_l (by rw [numT_len]; omega), numT_get _ _ x (by omega)]
      obtain ⟨d1, d2⟩ := digit_eq (σ := σ) (place := plc p.toInt.natAbs - x) (v := p.toInt.natAbs) (by omega) (by omega)
      rw [el, e0, if_neg ns, absI hp, ep]
      refine ⟨⟨fun z => absurd z ns, fun _ => ?_⟩, d2, nrd _ _⟩
      rw [absI hp, ep]
      exact ⟨d1, by rw [d2]; exact nrd _ _, trivial⟩
    · have hs : nI (plc p.toInt.natAbs + 1) ≤ nI x := lle.mpr (by omega)
      have eqi : nI x = nI (plc p.toInt.natAbs + 1) ↔ x = plc p.toInt.natAbs + 1 := nI_inj (by omega) (by omega)
      rw [List.length_append, numT_len] at hx
      have nq : ¬ q = 1 := fun z => by
        rw [if_pos z] at hx
        have : ([] : List Int32).length = 0 := rfl
        omega
      rw [if_neg nq] at hx ⊢
      rw [List.length_cons, numT_len] at hx
      rw [gD_r (by rw [numT_len]; omega), numT_len, e0, if_pos hs]
      by_cases w2 : x = plc p.toInt.natAbs + 1
      · have w3 := eqi.mpr w2
        rw [if_pos w3, show x - (plc p.toInt.natAbs + 1) = 0 by omega]
        exact ⟨⟨fun _ => ⟨fun _ => ⟨rfl, trivial⟩, fun z => absurd w3 z⟩, fun z => absurd hs z⟩, rfl, rfl⟩
      · have w3 : ¬ nI x = nI (plc p.toInt.natAbs + 1) := fun z => w2 (eqi.mp z)
        obtain ⟨y, hy⟩ : ∃ y, x = plc p.toInt.natAbs + 1 + 1 + y := ⟨x - (plc p.toInt.natAbs + 2), by omega⟩
        have ep : f_Wr_digitsOf q σ - 1 - (nI x - nI (plc p.toInt.natAbs + 1) - 1) = nI (plc q.toInt.natAbs - y) := by
          rw [e2, nI_pred, nsub x _ (by omega) (by omega), show x - (plc p.toInt.natAbs + 1) = y + 1 by omega, nI_pred, nsub _ _ (by omega) (by omega)]
        obtain ⟨d1, d2⟩ := digit_eq (σ := σ) (place := plc q.toInt.natAbs - y) (v := q.toInt.natAbs) (by omega) (by omega)
        rw [← eq2] at d1 d2
        have el : (47 :: numT (plc q.toInt.natAbs) q.toInt.natAbs).getD (x - (plc p.toInt.natAbs + 1)) 0 = dC (plc q.toInt.natAbs - y) q.toInt.natAbs := by
          rw [show x - (plc p.toInt.natAbs + 1) = y + 1 by omega]
          show (numT (plc q.toInt.natAbs) q.toInt.natAbs).getD y 0 = _
          rw [numT_get _ _ y (by omega)]
        rw [if_neg w3, el, ep]
        refine ⟨⟨fun _ => ⟨fun z => absurd z w3, fun _ => ⟨k_digits q σ, ?_⟩⟩, fun z => absurd hs z⟩, d2, nrd _ _⟩
        rw [ep]
        exact ⟨d1, by rw [d2]; exact nrd _ _, trivial⟩
  have eC : f_Wr_letterOfConstant p q (nI i) σ = if 0 ≤ p then f_Wr_letterOfConstant_9 p q (nI i) 0 σ else f_Wr_letterOfConstant_9 p q (nI i) 1 σ := rfl
  by_cases w : 0 ≤ p
  · have ecT : cT p q = numT (plc p.toInt.natAbs) p.toInt.natAbs ++ (if q = 1 then [] else 47 :: numT (plc q.toInt.natAbs) q.toInt.natAbs) := by unfold cT; rw [if_pos w]; rfl
    rw [ecT] at hi l12
    obtain ⟨r1, r2, r3⟩ := rest i hi (by omega)
    have h0 : (0 : Int32) ≤ nI i := by rw [Int32.le_iff_toInt_le, Int32.toInt_zero, i_nI (by omega)]; omega
    have s0 : nI i - 0 = nI i := Int32.sub_zero _
    rw [eC, if_pos w, ecT]
    refine ⟨⟨fun _ => ⟨fun _ => ⟨k_digits _ σ, ?_⟩, fun z => absurd h0 z⟩, fun z => absurd w z⟩, ?_, r3⟩
    · show k_Wr_letterOfConstant_32 p q (f_Wr_digitsOf (if 0 ≤ p then p else 0 - p) σ) (nI i - 0) σ
      rw [e1, s0]; exact r1
    · show (if (0 : Int32) ≤ nI i then f_Wr_letterOfConstant_32 p q (f_Wr_digitsOf (if 0 ≤ p then p else 0 - p) σ) (nI i - 0) σ else _) = _
      rw [if_pos h0, e1, s0, r2]
  · have ecT : cT p q = 45 :: (numT (plc p.toInt.natAbs) p.toInt.natAbs ++ (if q = 1 then [] else 47 :: numT (plc q.toInt.natAbs) q.toInt.natAbs)) := by unfold cT; rw [if_neg w]; rfl
    rw [ecT] at hi l12
    rw [eC, if_neg w, ecT]
    cases i with
    | zero =>
      have h1 : ¬ (1 : Int32) ≤ nI 0 := by rw [nI_0]; decide
      refine ⟨⟨fun z => absurd z w, fun _ => ⟨fun z => absurd z h1, fun _ => ⟨rfl, trivial⟩⟩⟩, ?_, rfl⟩
      show (if (1 : Int32) ≤ nI 0 then _ else 45) = _
      rw [if_neg h1]; rfl
    | succ i =>
      rw [List.length_cons] at hi l12
      obtain ⟨r1, r2, r3⟩ := rest i (by omega) (by omega)
      have h1 : (1 : Int32) ≤ nI (i + 1) := (nI_le_iff (a := 1) (by omega) (by omega)).mpr (by omega)
      refine ⟨⟨fun z => absurd z w, fun _ => ⟨fun _ => ⟨k_digits _ σ, ?_⟩, fun z => absurd h1 z⟩⟩, ?_, r3⟩
      · show k_Wr_letterOfConstant_32 p q (f_Wr_digitsOf (if 0 ≤ p then p else 0 - p) σ) (nI (i + 1) - 1) σ
        rw [e1, nI_pred]; exact r1
      · show (if (1 : Int32) ≤ nI (i + 1) then f_Wr_letterOfConstant_32 p q (f_Wr_digitsOf (if 0 ≤ p then p else 0 - p) σ) (nI (i + 1) - 1) σ else _) = _
        rw [if_pos h1, e1, nI_pred, r2]; rfl
theorem chr_n {x : Int32} {l : Int32} {k : Nat} (hx : x.toInt = k) (hk : k ≤ 120) (h0 : 0 ≤ l.toInt) (h1 : l.toInt ≤ 11) : ((x + l).toUInt32 % 65536).toInt32 = x + l ∧ narrow .char (.int (x + l)) = .int (x + l) := by
  have e : (x + l).toInt = k + l.toInt := by rw [i_add (by rw [hx]; omega), hx]
  exact ⟨chr_eq (by rw [e]; omega) (by rw [e]; omega), nar_char (by rw [e]; omega) (by rw [e]; omega)⟩
theorem mkL_nar {k l : Int32} (h0 : k = 0 → 0 ≤ l.toInt ∧ l.toInt ≤ 11) (h1 : k = 1 → 0 ≤ l.toInt ∧ l.toInt ≤ 11) : narrow .char (.int (mkL k l)) = .int (mkL k l) := by
  unfold mkL
  by_cases z0 : k = 0
  · rw [if_pos z0]; exact (chr_n (k := 97) (by decide) (by omega) (h0 z0).1 (h0 z0).2).2
  rw [if_neg z0]
  by_cases z1 : k = 1
  · rw [if_pos z1]; exact (chr_n (k := 120) (by decide) (by omega) (h1 z1).1 (h1 z1).2).2
  rw [if_neg z1]
  by_cases z3 : k = 3
  · rw [if_pos z3]; rfl
  rw [if_neg z3]
  by_cases z4 : k = 4
  · rw [if_pos z4]; rfl
  rw [if_neg z4]
  by_cases z5 : k = 5
  · rw [if_pos z5]; rfl
  rw [if_neg z5]
  by_cases z6 : k = 6
  · rw [if_pos z6]; rfl
  rw [if_neg z6]
  by_cases z7 : k = 7
  · rw [if_pos z7]; rfl
  rw [if_neg z7]
  by_cases z8 : k = 8
  · rw [if_pos z8]; rfl
  rw [if_neg z8]
  by_cases z9 : k = 9
  · rw [if_pos z9]; rfl
  rw [if_neg z9]; rfl
/-- the class's access to a row -/
theorem tacc {t : Nat} (hT : TM n σ τ) (hn : n ≤ 100) (ht : t < n) : (f_Te_kindOf (nI t) σ = τ.1 5 t ∧ f_Te_firstOf (nI t) σ = τ.1 8 t ∧ f_Te_secondOf (nI t) σ = τ.1 9 t ∧ f_Te_nameOf (nI t) σ = τ.1 10 t ∧ f_Te_lengthOf (nI t) σ = σ.1 15 t ∧ f_Te_topOf (nI t) σ = σ.1 12 t ∧ f_Te_bottomOf (nI t) σ = σ.1 13 t) ∧ k_Te_kindOf (nI t) σ ∧ k_Te_firstOf (nI t) σ ∧ k_Te_secondOf (nI t) σ ∧ k_Te_nameOf (nI t) σ ∧ k_Te_lengthOf (nI t) σ ∧ k_Te_topOf (nI t) σ ∧ k_Te_bottomOf (nI t) σ := by
  obtain ⟨e1, e2, e3, e4, e5, -⟩ := (hT.2.2 t ht).1
  have ka := k_acc hT.1 (by omega) (nI t)
  exact ⟨⟨(acc_nI hT.1 (by omega) ht (σ.1 7) (-1)).trans e1, (acc_nI hT.1 (by omega) ht (σ.1 10) (-1)).trans e4, (acc_nI hT.1 (by omega) ht (σ.1 11) (-1)).trans e5, (acc_nI hT.1 (by omega) ht (σ.1 9) (-1)).trans e3, acc_nI hT.1 (by omega) ht (σ.1 15) 0, acc_nI hT.1 (by omega) ht (σ.1 12) 0, acc_nI hT.1 (by omega) ht (σ.1 13) 1⟩, ka, ka, ka, ka, ka, ka, ka⟩
theorem chA {x : Nat} (hx : x < 8) : k_JS_charAt (nI x) σ ∧ f_JS_charAt (nI x) σ = mkB.getD x 0 ∧ narrow .char (.int (mkB.getD x 0)) = .int (mkB.getD x 0) := by
  have eL : f_JS_isLatin1 σ = 1 := by
    show (if (1 : Int32) = 0 then _ else (if (0 : Int32) = 0 then (1 : Int32) else _)) = 1
    rw [if_neg (by decide), if_pos rfl]
  have nL : ¬ f_JS_isLatin1 σ = 0 := by rw [eL]; decide
  have kL : k_JS_isLatin1 σ := ⟨fun z => absurd z (by decide), fun _ => ⟨fun _ => ⟨rfl, trivial⟩, fun z => absurd rfl z⟩⟩
  have hcl : (nI x).toNatClampNeg = x := nI_clamp (by omega)
  have ev : (((mkB.getD x 0) &&& 255).toUInt32 % 65536).toInt32 = mkB.getD x 0 := by
    have : x = 0 ∨ x = 1 ∨ x = 2 ∨ x = 3 ∨ x = 4 ∨ x = 5 ∨ x = 6 ∨ x = 7 := by omega
    rcases this with rfl | rfl | rfl | rfl | rfl | rfl | rfl | rfl <;> decide +kernel
  have en : narrow .char (.int (mkB.getD x 0)) = .int (mkB.getD x 0) := by
    have : x = 0 ∨ x = 1 ∨ x = 2 ∨ x = 3 ∨ x = 4 ∨ x = 5 ∨ x = 6 ∨ x = 7 := by omega
    rcases this with rfl | rfl | rfl | rfl | rfl | rfl | rfl | rfl <;> rfl
  have eT : f_JT_charAt (nI x) σ = mkB.getD x 0 := by
    show (((mkB.getD (nI x).toNatClampNeg 0) &&& 255).toUInt32 % 65536).toInt32 = _
    rw [hcl, ev]
  refine ⟨⟨kL, fun z => absurd z nL, fun _ => ⟨⟨⟨nI_pos (by omega), (nI_lt_iff (b := 8) (by omega) (by omega)).mpr hx⟩, by rw [in_iff, i_nI (by omega)]; omega, by rw [hcl, ev]; exact en, trivial⟩, by rw [eT]; exact en, trivial⟩⟩, ?_, en⟩
  show (if f_JS_isLatin1 σ = 0 then (0 : Int32) else f_JT_charAt (nI x) σ) = _
  rw [if_neg nL, eT]
/-- the mark of a row that has parts -/
theorem mark_L {t : Nat} (hT : TM n σ τ) (hK : KD n τ) (hn : n ≤ 100) (ht : t < n) (h8 : ¬ τ.1 8 t = -1) : k_Wr_letterOfMark (nI t) σ ∧ f_Wr_letterOfMark (nI t) σ = mkL (τ.1 5 t) (τ.1 10 t) := by
  obtain ⟨⟨ek, -, -, en, -⟩, kk, -, -, kn, -⟩ := tacc hT hn ht
  have hW := (hT.2.2 t ht).2
  have hKt := hK.1 t ht
  obtain ⟨sk, sk1, sk2⟩ := hW.2.2.2.1
  have l10 := hW.2.2.2.2.1
  have eco : f_JS_coder σ = 0 := by
    show (if (1 : Int32) = 0 then _ else (0 : Int32)) = 0
    rw [if_neg (by decide)]
  have eln : f_JS_length σ = 8 := by
    show (8 : Int32) >>> (f_JS_coder σ &&& 31) = 8
    rw [eco]; decide
  have kln : k_JS_length σ := ⟨⟨fun z => absurd z (by decide), fun _ => ⟨rfl, trivial⟩⟩, trivial⟩
  have e0 : f_Wr_letterOfMark (nI t) σ = if τ.1 5 t - 3 < 0 then ((97 + τ.1 10 t).toUInt32 % 65536).toInt32 else (if τ.1 5 t - 3 < 8 then f_JS_charAt (τ.1 5 t - 3) σ else ((97 + τ.1 10 t).toUInt32 % 65536).toInt32) := by
    show (if f_Te_kindOf (nI t) σ - 3 < 0 then ((97 + f_Te_nameOf (nI t) σ).toUInt32 % 65536).toInt32 else (if f_Te_kindOf (nI t) σ - 3 < f_JS_length σ then f_JS_charAt (f_Te_kindOf (nI t) σ - 3) σ else ((97 + f_Te_nameOf (nI t) σ).toUInt32 % 65536).toInt32)) = _
    rw [ek, en, eln]
  have big : ∀ x : Nat, x < 8 → τ.1 5 t = nI (x + 3) → mkB.getD x 0 = mkL (τ.1 5 t) (τ.1 10 t) → k_Wr_letterOfMark (nI t) σ ∧ f_Wr_letterOfMark (nI t) σ = mkL (τ.1 5 t) (τ.1 10 t) := fun x hx e hm => by
    have es : τ.1 5 t - 3 = nI x := by
      rw [e]
      apply Int32.toInt_inj.mp
      rw [i_sub (by rw [i_nI (by omega), show (3 : Int32).toInt = 3 from by decide]; omega), i_nI (by omega), i_nI (by omega), show (3 : Int32).toInt = 3 from by decide]; omega
    obtain ⟨c1, c2, c3⟩ := chA (σ := σ) hx
    have n0 : ¬ nI x < 0 := nI_pos (by omega)
    have n8 : nI x < 8 := (nI_lt_iff (b := 8) (by omega) (by omega)).mpr hx
    refine ⟨⟨kk, ?_⟩, ?_⟩
    · rw [ek, es]
      refine ⟨fun z => absurd z n0, fun _ => ⟨kln, fun _ => ⟨c1, ?_, trivial⟩, fun z => absurd (by rw [eln]; exact n8) z⟩⟩
      rw [c2]; exact c3
    · rw [e0, es, if_neg n0, if_pos n8, c2, hm]
  have hs : sk = 0 ∨ sk = 1 ∨ sk = 2 ∨ sk = 3 ∨ sk = 4 ∨ sk = 5 ∨ sk = 6 ∨ sk = 7 ∨ sk = 8 ∨ sk = 9 ∨ sk = 10 := by omega
  rcases hs with rfl | rfl | rfl | rfl | rfl | rfl | rfl | rfl | rfl | rfl | rfl
  · have k0 : τ.1 5 t = 0 := sk2.trans (by decide +kernel)
    have l0 := hKt.1 k0
    obtain ⟨c1, c2⟩ := chr_n (x := 97) (l := τ.1 10 t) (k := 97) (by decide) (by omega) l0 (by omega)
    have lt0 : τ.1 5 t - 3 < 0 := by rw [k0]; decide
    refine ⟨⟨kk, ?_⟩, ?_⟩
    · rw [ek]
      refine ⟨fun _ => ⟨kn, ?_, trivial⟩, fun z => absurd lt0 z⟩
      rw [en, c1]; exact c2
    · rw [e0, if_pos lt0, c1]
      unfold mkL
      rw [if_pos k0]
  · exact absurd (hKt.2.1 (sk2.trans (by decide +kernel))).1 h8
  · exact absurd (hW.2.2.2.2.2.2.1 (sk2.trans (by decide +kernel))).1 h8
  · exact big 0 (by omega) sk2 (by rw [sk2, show nI 3 = 3 by decide +kernel]; unfold mkL; rw [if_neg (by decide), if_neg (by decide), if_pos rfl]; rfl)
  · exact big 1 (by omega) sk2 (by rw [sk2, show nI 4 = 4 by decide +kernel]; unfold mkL; rw [if_neg (by decide), if_neg (by decide), if_neg (by decide), if_pos rfl]; rfl)
  · exact big 2 (by omega) sk2 (by rw [sk2, show nI 5 = 5 by decide +kernel]; unfold mkL; rw [if_neg (by decide), if_neg (by decide), if_neg (by decide), if_neg (by decide), if_pos rfl]; rfl)
  · exact big 3 (by omega) sk2 (by rw [sk2, show nI 6 = 6 by decide +kernel]; unfold mkL; rw [if_neg (by decide), if_neg (by decide), if_neg (by decide), if_neg (by decide), if_neg (by decide), if_pos rfl]; rfl)
  · exact big 4 (by omega) sk2 (by rw [sk2, show nI 7 = 7 by decide +kernel]; unfold mkL; rw [if_neg (by decide), if_neg (by decide), if_neg (by decide), if_neg (by decide), if_neg (by decide), if_neg (by decide), if_pos rfl]; rfl)
  · exact big 5 (by omega) sk2 (by rw [sk2, show nI 8 = 8 by decide +kernel]; unfold mkL; rw [if_neg (by decide), if_neg (by decide), if_neg (by decide), if_neg (by decide), if_neg (by decide), if_neg (by decide), if_neg (by decide), if_pos rfl]; rfl)
  · exact big 6 (by omega) sk2 (by rw [sk2, show nI 9 = 9 by decide +kernel]; unfold mkL; rw [if_neg (by decide), if_neg (by decide), if_neg (by decide), if_neg (by decide), if_neg (by decide), if_neg (by decide), if_neg (by decide), if_neg (by decide), if_pos rfl]; rfl)
  · exact big 7 (by omega) sk2 (by rw [sk2, show nI 10 = 10 by decide +kernel]; unfold mkL; rw [if_neg (by decide), if_neg (by decide), if_neg (by decide), if_neg (by decide), if_neg (by decide), if_neg (by decide), if_neg (by decide), if_neg (by decide), if_neg (by decide)]; rfl)
end TXT
