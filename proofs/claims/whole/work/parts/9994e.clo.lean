-- the sums of terms are what they should be
theorem REP.cg {DA : Int32 → Prop} {m : Nat} {s : St} {c c' : Int32 → Option Fr} (h : REP DA m s c) (e : ∀ x, DA x → c x = c' x) : REP DA m s c' := ⟨fun z x hx => (e x hx).symm.trans (h.1 z x hx), fun z => by
  obtain ⟨x, h1, h2⟩ := h.2 z
  exact ⟨x, h1, (e x h1).symm.trans h2⟩⟩
theorem cm00 {t b : Int} (hb : 1 ≤ b) : cm (0, 1) t b = rd t b := by
  unfold cm
  cases e : rd t b with
  | none => rfl
  | some f =>
    show rd (0 * f.2 + f.1 * 1) (1 * f.2) = _
    rw [Int.zero_mul, Int.zero_add, Int.mul_one, Int.one_mul]; exact rd_id (rd_V hb e)
theorem cT11 {c q : Fr} (hq : VF q) : cTm 1 1 c q = rd (c.1 * q.2 + q.1 * c.2) (c.2 * q.2) := by
  unfold cTm cm
  rw [Int.mul_one, Int.mul_one, rd_id hq]; rfl
theorem cT00 {q : Fr} (hq : VF q) : cTm 1 1 (0, 1) q = some q := by
  rw [cT11 hq]
  show rd (0 * q.2 + q.1 * 1) (1 * q.2) = _
  rw [Int.zero_mul, Int.zero_add, Int.mul_one, Int.one_mul]; exact rd_id hq
def Sp (τ : St) (t : Nat) (s : St) : Prop := ∃ cap m, SumOK DX cap m s ∧ REP DX m s (fun x => ev τ x t)
def GG (n : Nat) (τ : St) (d t : Nat) : Prop := t < n ∧ τ.1 6 t = 1 ∧ (τ.1 7 t).toInt ≤ (d : Int) + 1
theorem s0_ok {n : Nat} (hn : n ≤ 101) : SumOK DX n 0 (s0 n) ∧ REP DX 0 (s0 n) (fun _ => some (0, 1)) :=
  ⟨⟨⟨by rw [nI_0]; rfl, Nat.zero_le n, hn, rfl⟩, fun i hi => absurd hi (Nat.not_lt_zero i), Or.inl rfl, fun _ => ⟨fun i j hi => absurd hi (Nat.not_lt_zero i), fun i hi => absurd hi (Nat.not_lt_zero i)⟩⟩, fun _ x _ => rfl, fun z => absurd rfl z⟩
theorem wp_ok {e : St} (h : e.1 99 0 = nI 101) : SumOK DX 101 0 (f_Su_wipes e) ∧ REP DX 0 (f_Su_wipes e) (fun _ => some (0, 1)) :=
  ⟨⟨⟨by rw [nI_0]; rfl, by omega, by omega, h⟩, fun i hi => absurd hi (Nat.not_lt_zero i), Or.inl rfl, fun _ => ⟨fun i j hi => absurd hi (Nat.not_lt_zero i), fun i hi => absurd hi (Nat.not_lt_zero i)⟩⟩, fun _ x _ => rfl, fun z => absurd rfl z⟩
theorem sg_ok {a t b : Int32} {c : Int32 → Option Fr} (ha : DX a) (hb : 1 ≤ b.toInt) (c1 : c a = rd t.toInt b.toInt) (c2 : ∀ x, DX x → ¬ x = a → c x = some (0, 1)) : k_single a t b ∧ ∃ m, SumOK DX 1 m (f_single a t b) ∧ REP DX m (f_single a t b) c := by
  obtain ⟨⟨hO, -, -, hE⟩, -⟩ := s0_ok (n := 1) (by omega)
  have e1 : t.toInt64.toInt = t.toInt := Int32.toInt_toInt64 t
  have e2 : b.toInt64.toInt = b.toInt := Int32.toInt_toInt64 b
  have r := i_rng t
  obtain ⟨k1, m', s', q1, -, q3, q4, q5, q6, q7, q8⟩ := ae (a := a) (t := t.toInt64) (b := b.toInt64) hO (hE rfl) rfl (by rw [e1]; omega) (by rw [e2]; exact hb) (Or.inr (by omega))
  have ec : cm (lk (s0 1) 0 a) t.toInt64.toInt b.toInt64.toInt = c a := by
    rw [e1, e2, c1]
    exact cm00 hb
  rw [ec] at q7 q8
  have ef : f_single a t b = s' := q1
  rw [ef]
  refine ⟨k1, m', ⟨q4, fun i hi => ?_, q6, fun z => (q7 z).1⟩, fun z x hx => ?_, fun z => ⟨a, ha, q8 z⟩⟩
  · rcases q5 i hi with w | ⟨j, w, -⟩
    · rw [w]; exact ha
    · exact absurd w (Nat.not_lt_zero j)
  · obtain ⟨-, f, y1, y2⟩ := q7 z
    rw [y2]
    by_cases w : x = a
    · rw [if_pos w, w, y1]
    · rw [if_neg w, c2 x hx w]; rfl
section CLO
variable {n : Nat} {σ τ : St}
theorem cl_ok (hT : TM n σ τ) (hK : KD n τ) (hn : n ≤ 100) : Cl σ (GG n τ) (Sp τ) := by
  have hW0 : ∀ t, t < n → tmW τ t := fun t ht => (hT.2.2 t ht).2
  have hD7 : ∀ j, j < n → 1 ≤ (τ.1 7 j).toInt ∧ (τ.1 7 j).toInt ≤ 1000 := fun j hj => by
    have := (hW0 j hj).2.2.2.2.2.2.2.2.2.2
    omega
  have d10 : (1 : Int64).toInt = 1 := by decide
  intro d t hG
  obtain ⟨ht, h6, h7⟩ := hG
  obtain ⟨e1, -, -, e4, e5, -, -, e8, -⟩ := (hT.2.2 t ht).1
  have ek : f_Te_kindOf (nI t) σ = τ.1 5 t := (acc_nI hT.1 (by omega) ht (σ.1 7) (-1)).trans e1
  have eo : f_Te_firstOf (nI t) σ = τ.1 8 t := (acc_nI hT.1 (by omega) ht (σ.1 10) (-1)).trans e4
  have ew : f_Te_secondOf (nI t) σ = τ.1 9 t := (acc_nI hT.1 (by omega) ht (σ.1 11) (-1)).trans e5
  have hW := hW0 t ht
  have hKt := hK.1 t ht
  have est : ∀ x, ev τ x t = stp τ (ev τ x) x t := fun x => ev_st (by omega) hW hKt
  have tops : ∀ a, a < n → τ.1 5 a = 2 → f_Te_topOf (nI a) σ = τ.1 11 a ∧ f_Te_bottomOf (nI a) σ = τ.1 12 a := fun a ha h2 => by
    obtain ⟨-, -, -, -, -, -, -, e8, -⟩ := (hT.2.2 a ha).1
    exact ⟨(acc_nI hT.1 (by omega) ha (σ.1 12) 0).trans (e8 h2).1, (acc_nI hT.1 (by omega) ha (σ.1 13) 1).trans (e8 h2).2⟩
  rw [ek, eo, ew]
  have m1n : ∀ j, j < 400 → ¬ nI j = -1 := fun j hj => nI_ne_m1 (by omega)
  have dxn : ∀ x, DX x → ¬ x = -1 → ¬ x < 0 := fun x hx hne => by
    rcases hx with z | ⟨j, j1, z⟩
    · exact absurd z hne
    · rw [z]; exact nI_pos (by omega)
  refine ⟨by omega, fun h2 => ?_, fun h2 h3 h4 => ?_, fun h4 => ?_, fun h3 => ?_⟩
  · obtain ⟨t1, t2⟩ := tops t ht h2
    obtain ⟨-, -, -, -, c1, c2⟩ := hW.2.2.2.2.2.2.1 h2
    rw [t1, t2]
    obtain ⟨k1, m, q1, q2⟩ := sg_ok (a := -1) (t := τ.1 11 t) (b := τ.1 12 t) (c := fun x => ev τ x t) (Or.inl rfl) c1 (by
      show ev τ (-1) t = _
      rw [est]; unfold stp
      rw [if_pos h2, if_pos (show (-1 : Int32) < 0 by decide)]) (fun x hx hne => by
      show ev τ x t = _
      rw [est]; unfold stp
      rw [if_pos h2, if_neg (dxn x hx hne)]; exact rd01 (by omega))
    exact ⟨k1, 1, m, q1, q2⟩
  · obtain ⟨k1, m, q1, q2⟩ := sg_ok (a := nI t) (t := 1) (b := 1) (c := fun x => ev τ x t) (Or.inr ⟨t, by omega, rfl⟩) (by decide) (by
      show ev τ (nI t) t = _
      rw [est]; unfold stp
      rw [if_neg h2, if_neg h3, if_neg h4, if_pos rfl]; rfl) (fun x hx hne => by
      show ev τ x t = _
      rw [est]; unfold stp
      rw [if_neg h2, if_neg h3, if_neg h4, if_neg (fun z => hne z.symm)]; exact rd01 (by omega))
    exact ⟨k1, 1, m, q1, q2⟩
  · obtain ⟨a, b, a1, b1, a2, b2⟩ := two34 hW hKt (Or.inr h4)
    have s2 := (num_parts (by omega) hW hKt a1 b1 a2 b2).2 h4
    have c5 := cst4 (by omega) hKt h4 a1 a2
    obtain ⟨-, -, -, c0, c1, c2⟩ := (hW0 a (by omega)).2.2.2.2.2.2.1 c5
    have dp := dep_part hW (by omega) (fun j hj => hD7 j (by omega)) b1 (Or.inr b2)
    have d1 := (hD7 b (by omega)).1
    obtain ⟨d', rfl⟩ : ∃ d', d = d' + 1 := ⟨d - 1, by omega⟩
    obtain ⟨t1, t2⟩ := tops a (by omega) c5
    refine ⟨d', b, rfl, b2, b1, ⟨by omega, s2, by omega⟩, fun ω hω => ?_⟩
    obtain ⟨capw, m, o1, o2⟩ := hω
    have hm : m ≤ 101 := by have := o1.1.2.1; have := o1.1.2.2.1; omega
    obtain ⟨z1, z2⟩ := s0_ok (n := m) hm
    have l1 : (τ.1 11 a).toInt64.toInt = (τ.1 11 a).toInt := Int32.toInt_toInt64 _
    have l2 : (τ.1 12 a).toInt64.toInt = (τ.1 12 a).toInt := Int32.toInt_toInt64 _
    rw [a2, t1, t2]
    obtain ⟨k1, m', q1, q2, q3⟩ := atG (tp := (τ.1 11 a).toInt64) (bt := (τ.1 12 a).toInt64) (fun x hx => hx) z1 o1 z2 o2 (by rw [l1]; omega) (by rw [l2]; omega) (Or.inr (by omega))
    refine ⟨m, hm, o1.1.1, k1, m, m', q2, q3.cg (fun x hx => ?_)⟩
    show (some ((0, 1) : Fr)).bind _ = _
    show (ev τ x b).bind (fun q => cTm (τ.1 11 a).toInt64.toInt (τ.1 12 a).toInt64.toInt (0, 1) q) = ev τ x t
    rw [est x]
    unfold stp
    have n2 : ¬ τ.1 5 t = 2 := by rw [h4]; decide
    have n3 : ¬ τ.1 5 t = 3 := by rw [h4]; decide
    rw [if_neg n2, if_neg n3, if_pos h4, a2, b2, nI_clamp (by omega), nI_clamp (by omega), l1, l2]
    cases eb : ev τ x b with
    | none => rfl
    | some q =>
      have hV := ev_V hn hW0 hK.1 x b (by omega) q eb
      show cm (0, 1) (q.1 * (τ.1 11 a).toInt) (q.2 * (τ.1 12 a).toInt) = _
      rw [cm00 (mp1 hV.2.2.1 c1)]; rfl
  · obtain ⟨a, b, a1, b1, a2, b2⟩ := two34 hW hKt (Or.inl h3)
    obtain ⟨s1, s2⟩ := (num_parts (by omega) hW hKt a1 b1 a2 b2).1 h3
    have dpa := dep_part hW (by omega) (fun j hj => hD7 j (by omega)) a1 (Or.inl a2)
    have dpb := dep_part hW (by omega) (fun j hj => hD7 j (by omega)) b1 (Or.inr b2)
    have d1 := (hD7 b (by omega)).1
    obtain ⟨d', rfl⟩ : ∃ d', d = d' + 1 := ⟨d - 1, by omega⟩
    refine ⟨d', a, b, rfl, a2, b2, a1, b1, ⟨by omega, s1, by omega⟩, ⟨by omega, s2, by omega⟩, fun α ω hα hω => ?_⟩
    obtain ⟨capa, ma, p1, p2⟩ := hα
    obtain ⟨capw, mw, o1, o2⟩ := hω
    have hma : ma ≤ 101 := by have := p1.1.2.1; have := p1.1.2.2.1; omega
    have hmw : mw ≤ 101 := by have := o1.1.2.1; have := o1.1.2.2.1; omega
    have esum : α.1 0 3 + ω.1 0 3 = nI (ma + mw) := by rw [p1.1.1, o1.1.1, nI_add]
    obtain ⟨N, hN, hN2, hN3⟩ : ∃ N, N ≤ 101 ∧ (if (101 : Int32) < α.1 0 3 + ω.1 0 3 then 101 else α.1 0 3 + ω.1 0 3) = nI N ∧ (N = 101 ∨ N = ma + mw) := by
      rw [esum]
      by_cases z : (101 : Int32) < nI (ma + mw)
      · exact ⟨101, by omega, by rw [if_pos z]; rfl, Or.inl rfl⟩
      · have : ¬ 101 < ma + mw := fun w => z ((nI_lt_iff (a := 101) (by omega) (by omega)).mpr w)
        exact ⟨ma + mw, by omega, by rw [if_neg z], Or.inr rfl⟩
    obtain ⟨z1, z2⟩ := s0_ok (n := N) hN
    obtain ⟨k1, m1, q1, q2, q3⟩ := atG (tp := 1) (bt := 1) (fun x hx => hx) z1 p1 z2 p2 (by rw [d10]; omega) (by rw [d10]; omega) (by omega)
    obtain ⟨k2, m2, r1, r2, r3⟩ := atG (tp := 1) (bt := 1) (fun x hx => hx) q2 o1 q3 o2 (by rw [d10]; omega) (by rw [d10]; omega) (by omega)
    refine ⟨N, hN, hN2, k1, k2, N, m2, r2, r3.cg (fun x hx => ?_)⟩
    show ((ev τ x a).bind (fun p => cTm (1 : Int64).toInt (1 : Int64).toInt (0, 1) p)).bind (fun p => (ev τ x b).bind (fun q => cTm (1 : Int64).toInt (1 : Int64).toInt p q)) = ev τ x t
    rw [est x, d10]
    unfold stp
    have n2 : ¬ τ.1 5 t = 2 := by rw [h3]; decide
    rw [if_neg n2, if_pos h3, a2, b2, nI_clamp (by omega), nI_clamp (by omega)]
    cases ea : ev τ x a with
    | none => rfl
    | some p =>
      have hVp := ev_V hn hW0 hK.1 x a (by omega) p ea
      show (cTm 1 1 (0, 1) p).bind _ = (ev τ x b).bind _
      rw [cT00 hVp]
      cases eb : ev τ x b with
      | none => rfl
      | some q =>
        have hVq := ev_V hn hW0 hK.1 x b (by omega) q eb
        show cTm 1 1 p q = _
        rw [cT11 hVq]; rfl
/-- what is left of a truth, and what it adds -/
def exc (τ : St) (a b : Nat) (x : Int32) : Option Fr := (ev τ x a).bind (fun p => (ev τ x b).bind (fun q => cTm (-1) 1 p q))
def ntc (τ : St) (a b : Nat) (f : Int) (c : Int32 → Option Fr) (x : Int32) : Option Fr := (c x).bind (fun A => (exc τ a b x).bind (fun e => cTm f 1 A e))
def PT (c : Int32 → Option Fr) (s : St) : Prop := ∃ m, SumOK DX 101 m s ∧ REP DX m s c
theorem ld_ok (hT : TM n σ τ) (hK : KD n τ) (hn : n ≤ 100) {t f : Int32} {a b : Nat} {c : Int32 → Option Fr} (hne : ¬ t = -1) (hki : k_Ba_inside t σ) (hA : opA t σ = nI a) (hB : opB t σ = nI b) (hGa : GG n τ 11 a) (hGb : GG n τ 11 b) (hf : -99 ≤ f.toInt ∧ f.toInt ≤ 99) : LD σ (GG n τ) (Sp τ) (fun e => e.1 99 0 = nI 101) t f (PT c) (PT (ntc τ a b f.toInt c)) := by
  have d10 : (1 : Int64).toInt = 1 := by decide
  have d11 : (-1 : Int64).toInt = -1 := by decide
  have hW0 : ∀ t, t < n → tmW τ t := fun t ht => (hT.2.2 t ht).2
  have lf : f.toInt64.toInt = f.toInt := Int32.toInt_toInt64 _
  refine Or.inr ⟨hne, hki, a, b, hA, hB, hGa, hGb, fun e x he hx => ?_⟩
  obtain ⟨w1, w2⟩ := wp_ok he
  have first : ∀ α, Sp τ a α → k_at α 1 1 (f_Su_wipes e) ∧ ∃ m, SumOK DX 101 m (f_at α 1 1 (f_Su_wipes e)) ∧ REP DX m (f_at α 1 1 (f_Su_wipes e)) (fun x => ev τ x a) := fun α hα => by
    obtain ⟨capa, ma, p1, p2⟩ := hα
    obtain ⟨k1, m1, q1, q2, q3⟩ := atG (tp := 1) (bt := 1) (fun x hx => hx) w1 p1 w2 p2 (by rw [d10]; omega) (by rw [d10]; omega) (Or.inl rfl)
    refine ⟨k1, m1, q2, q3.cg (fun x hx => ?_)⟩
    show (ev τ x a).bind (fun p => cTm (1 : Int64).toInt (1 : Int64).toInt (0, 1) p) = ev τ x a
    rw [d10]
    cases ea : ev τ x a with
    | none => rfl
    | some p => exact cT00 (ev_V hn hW0 hK.1 x a hGa.1 p ea)
  refine ⟨fun α hα => (first α hα).1, fun α β hα hβ => ?_⟩
  obtain ⟨-, m1, q2, q3⟩ := first α hα
  obtain ⟨capw, mw, o1, o2⟩ := hβ
  obtain ⟨k2, m2, r1, r2, r3⟩ := atG (tp := -1) (bt := 1) (fun x hx => hx) q2 o1 q3 o2 (by rw [d11]; omega) (by rw [d10]; omega) (Or.inl rfl)
  obtain ⟨mx, x1, x2⟩ := hx
  obtain ⟨k3, m3, y1, y2, y3⟩ := atG (tp := f.toInt64) (bt := 1) (fun x hx => hx) x1 r2 x2 r3 (by rw [lf]; omega) (by rw [d10]; omega) (Or.inl rfl)
  refine ⟨k2, k3, r2.1.2.2.2, m3, y2, y3.cg (fun x hx => ?_)⟩
  show (c x).bind (fun A => ((ev τ x a).bind (fun p => (ev τ x b).bind (fun q => cTm (-1 : Int64).toInt (1 : Int64).toInt p q))).bind (fun e => cTm f.toInt64.toInt (1 : Int64).toInt A e)) = _
  rw [d10, d11, lf]; rfl
end CLO
