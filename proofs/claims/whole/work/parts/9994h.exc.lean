-- what a truth adds, as the reference works it out, and the atoms one after another
def fz (X Y : St) : Prop := (∀ c, ¬ c = 0 → ¬ c = 29 → Y.1 c = X.1 c) ∧ (∀ j, ¬ j = 45 → Y.1 0 j = X.1 0 j)
theorem fz.rf (X : St) : fz X X := ⟨fun _ _ _ => rfl, fun _ _ => rfl⟩
theorem fz.tr {X Y Z : St} (h1 : fz X Y) (h2 : fz Y Z) : fz X Z := ⟨fun c a b => (h2.1 c a b).trans (h1.1 c a b), fun j a => (h2.2 j a).trans (h1.2 j a)⟩
theorem fq.fz {X Y : St} (h : fq X Y) : fz X Y := ⟨h.1, h.2.1⟩
/-- the sides of a truth -/
def SD (n : Nat) (τ : St) (t a b : Nat) : Prop := t < n ∧ a < n ∧ b < n ∧ ∃ d u v, d < n ∧ (τ.1 5 t = 7 → τ.1 8 t = nI d) ∧ (¬ τ.1 5 t = 7 → d = t) ∧ τ.1 8 d = nI u ∧ τ.1 9 d = nI v ∧ (τ.1 5 t = 7 ∧ τ.1 5 d = 6 → a = v ∧ b = u) ∧ (¬ (τ.1 5 t = 7 ∧ τ.1 5 d = 6) → a = u ∧ b = v)
def AL (Z : St) (o : Option Fr) : Prop := (Z.1 0 45 = 0 ∧ o = some ((Z.2 0 49).toInt, (Z.2 0 50).toInt) ∧ VF ((Z.2 0 49).toInt, (Z.2 0 50).toInt)) ∨ (¬ Z.1 0 45 = 0 ∧ o = none)
def W3 (n : Nat) (τ : St) (t f : Int32) (c c' : Int32 → Option Fr) : Prop := (t = -1 ∧ c' = c) ∨ (∃ k a b, t = nI k ∧ SD n τ k a b ∧ c' = ntc τ a b f.toInt c)
section EXC
variable {n : Nat} {τ : St}
theorem ex88 {x s : Int32} {d b : Nat} {X Y : St} {p : Fr} {o : Option Fr} (hs : s = 0 ∨ s = 1) (hx : DX x) (hn : n ≤ 100) (hW : ∀ t, t < n → tmW τ t) (hK : ∀ t, t < n → kdW τ t) (hd : d < n) (hb : b < n) (hXY : fq X Y) (h8 : X.1 0 8 = nI n) (hX : ∀ c, ¬ c = 0 → ¬ c = 29 → X.1 c = τ.1 c) (hbs : (s = 0 → τ.1 9 d = nI b) ∧ (s = 1 → τ.1 8 d = nI b)) (hST : Y.1 0 45 = 0) (ep : p = ((Y.2 0 43).toInt, (Y.2 0 44).toInt)) (hp : VF p) :
    k_Mo_excess_88 x (nI d) s (Y.2 0 43) (Y.2 0 44) Y ∧ ∃ Z, f_Mo_excess_88 x (nI d) s (Y.2 0 43) (Y.2 0 44) Y = Z ∧ fq X Z ∧ ST Z ((ev τ x b).bind (fun q => cTm (-1) 1 p q)) := by
  have hcl : (nI d).toNatClampNeg = d := nI_clamp (by omega)
  have hin : vp_in (nI d) 400 := by rw [in_iff, i_nI (by omega)]; omega
  have hY : ∀ c, ¬ c = 0 → ¬ c = 29 → Y.1 c = τ.1 c := fun c q1 q2 => (hXY.1 c q1 q2).trans (hX c q1 q2)
  have e : f_Mo_excess_88 x (nI d) s (Y.2 0 43) (Y.2 0 44) Y = f_Mo_excess_117 x (Y.2 0 43) (Y.2 0 44) (nI b) Y ∧ (k_Mo_excess_117 x (Y.2 0 43) (Y.2 0 44) (nI b) Y → k_Mo_excess_88 x (nI d) s (Y.2 0 43) (Y.2 0 44) Y) := by
    rcases hs with rfl | rfl
    · refine ⟨?_, fun w => ⟨fun _ => ⟨fun _ => ⟨hin, ?_⟩, fun z => absurd rfl z⟩, fun z => absurd hST z⟩⟩
      · rw [f_Mo_excess_88, if_pos hST, if_pos rfl, hcl, hY 9 (by omega) (by omega), hbs.1 rfl]
      · rw [hcl, hY 9 (by omega) (by omega), hbs.1 rfl]; exact w
    · have n1 : ¬ (1 : Int32) = 0 := by decide
      refine ⟨?_, fun w => ⟨fun _ => ⟨fun z => absurd z n1, fun _ => ⟨hin, ?_⟩⟩, fun z => absurd hST z⟩⟩
      · rw [f_Mo_excess_88, if_pos hST, if_neg n1, hcl, hY 8 (by omega) (by omega), hbs.2 rfl]
      · rw [hcl, hY 8 (by omega) (by omega), hbs.2 rfl]; exact w
  obtain ⟨k1, Z, z1, z2, z3⟩ := coe hx hn hW hK hb ((hXY.2.1 8 (by omega)).trans h8) hST hY
  have e117 : f_Mo_excess_117 x (Y.2 0 43) (Y.2 0 44) (nI b) Y = f_Mo_excess_121 (Y.2 0 43) (Y.2 0 44) Z := by rw [f_Mo_excess_117, z1]
  have k117 : k_Mo_excess_121 (Y.2 0 43) (Y.2 0 44) Z → k_Mo_excess_117 x (Y.2 0 43) (Y.2 0 44) (nI b) Y := fun w => ⟨k1, by rw [z1]; exact w⟩
  rw [e.1, e117]
  rcases z3 with ⟨g0, ge⟩ | ⟨g1, gn⟩
  · obtain ⟨v1, v2, v3, v4, v5⟩ := ev_V hn hW hK x b hb _ ge
    have v1 : -1000000000 ≤ (Z.2 0 43).toInt := v1
    have v2 : (Z.2 0 43).toInt ≤ 1000000000 := v2
    have v3 : 1 ≤ (Z.2 0 44).toInt := v3
    have ln := l_neg (a := Z.2 0 43) (by omega)
    obtain ⟨k2, V, y1, y2, -, -, y5⟩ := bec (p := -(Z.2 0 43)) (q := Z.2 0 44) g0 (by rw [ln]; omega) v3
    have e121 : f_Mo_excess_121 (Y.2 0 43) (Y.2 0 44) Z = f_Mo_excess_141 (Y.2 0 43) (Y.2 0 44) V := by rw [f_Mo_excess_121, if_pos g0, y1]
    have k121 : k_Mo_excess_141 (Y.2 0 43) (Y.2 0 44) V → k_Mo_excess_121 (Y.2 0 43) (Y.2 0 44) Z := fun w => ⟨fun _ => ⟨k2, by rw [y1]; exact w⟩, fun z => absurd g0 z⟩
    rw [e121, ge]
    have ec : ((some ((Z.2 0 43).toInt, (Z.2 0 44).toInt) : Option Fr)).bind (fun q => cTm (-1) 1 p q) = (rd (-(Z.2 0 43)).toInt (Z.2 0 44).toInt).bind (fun f => rd (p.1 * f.2 + f.1 * p.2) (p.2 * f.2)) := by
      show (rd ((Z.2 0 43).toInt * (-1)) ((Z.2 0 44).toInt * 1)).bind _ = _
      rw [ln, Int.mul_one, show (Z.2 0 43).toInt * (-1) = -(Z.2 0 43).toInt by omega]
    rw [ec]
    rcases y5 with ⟨u0, ue⟩ | ⟨u1, un⟩
    · have hV := rd_V v3 ue
      rw [ep] at hp
      obtain ⟨s1, s2, s3, s4⟩ := lf_sum hp hV
      obtain ⟨k3, U, t1, t2, -, -, t5⟩ := bec u0 s3 s4
      refine ⟨e.2 (k117 (k121 ⟨fun _ => ⟨k3, trivial⟩, fun z => absurd u0 z⟩)), U, ?_, ((hXY.tr z2).tr y2).tr t2, ?_⟩
      · rw [f_Mo_excess_141, if_pos u0, t1]; rfl
      · rw [ue]
        show ST U (rd (p.1 * (V.2 0 44).toInt + (V.2 0 43).toInt * p.2) (p.2 * (V.2 0 44).toInt))
        rw [ep]
        rw [s1, s2] at t5; exact t5
    · refine ⟨e.2 (k117 (k121 ⟨fun z => absurd z u1, fun _ => trivial⟩)), V, ?_, (hXY.tr z2).tr y2, Or.inr ⟨u1, by rw [un]; rfl⟩⟩
      rw [f_Mo_excess_141, if_neg u1]; rfl
  · refine ⟨e.2 (k117 ⟨fun z => absurd z g1, fun _ => ⟨fun z => absurd z g1, fun _ => trivial⟩⟩), Z, ?_, hXY.tr z2, Or.inr ⟨g1, by rw [gn]; rfl⟩⟩
    rw [f_Mo_excess_121, if_neg g1, f_Mo_excess_141, if_neg g1]; rfl
theorem ex49 {x s : Int32} {d a b : Nat} {X : St} (hs : s = 0 ∨ s = 1) (hx : DX x) (hn : n ≤ 100) (hW : ∀ t, t < n → tmW τ t) (hK : ∀ t, t < n → kdW τ t) (hd : d < n) (ha : a < n) (hb : b < n) (h8 : X.1 0 8 = nI n) (h45 : X.1 0 45 = 0) (hX : ∀ c, ¬ c = 0 → ¬ c = 29 → X.1 c = τ.1 c) (has : (s = 0 → τ.1 8 d = nI a) ∧ (s = 1 → τ.1 9 d = nI a)) (hbs : (s = 0 → τ.1 9 d = nI b) ∧ (s = 1 → τ.1 8 d = nI b)) :
    k_Mo_excess_49 x (nI d) s X ∧ ∃ Z, f_Mo_excess_49 x (nI d) s X = Z ∧ fq X Z ∧ ST Z (exc τ a b x) := by
  have hcl : (nI d).toNatClampNeg = d := nI_clamp (by omega)
  have hin : vp_in (nI d) 400 := by rw [in_iff, i_nI (by omega)]; omega
  have e : f_Mo_excess_49 x (nI d) s X = f_Mo_excess_72 x (nI d) s (nI a) X ∧ (k_Mo_excess_72 x (nI d) s (nI a) X → k_Mo_excess_49 x (nI d) s X) := by
    rcases hs with rfl | rfl
    · refine ⟨?_, fun w => ⟨fun _ => ⟨hin, ?_⟩, fun z => absurd rfl z⟩⟩
      · rw [f_Mo_excess_49, if_pos rfl, hcl, hX 8 (by omega) (by omega), has.1 rfl]
      · rw [hcl, hX 8 (by omega) (by omega), has.1 rfl]; exact w
    · have n1 : ¬ (1 : Int32) = 0 := by decide
      refine ⟨?_, fun w => ⟨fun z => absurd z n1, fun _ => ⟨hin, ?_⟩⟩⟩
      · rw [f_Mo_excess_49, if_neg n1, hcl, hX 9 (by omega) (by omega), has.2 rfl]
      · rw [hcl, hX 9 (by omega) (by omega), has.2 rfl]; exact w
  obtain ⟨k1, Y, y1, y2, y3⟩ := coe hx hn hW hK ha h8 h45 hX
  have e72 : f_Mo_excess_72 x (nI d) s (nI a) X = f_Mo_excess_88 x (nI d) s (Y.2 0 43) (Y.2 0 44) Y := by rw [f_Mo_excess_72, y1]; rfl
  have k72 : k_Mo_excess_88 x (nI d) s (Y.2 0 43) (Y.2 0 44) Y → k_Mo_excess_72 x (nI d) s (nI a) X := fun w => ⟨k1, by rw [y1]; exact w⟩
  rw [e.1, e72]
  unfold exc
  rcases y3 with ⟨g0, ge⟩ | ⟨g1, gn⟩
  · obtain ⟨k2, Z, z1, z2, z3⟩ := ex88 (o := none) hs hx hn hW hK hd hb y2 h8 hX hbs g0 rfl (ev_V hn hW hK x a ha _ ge)
    refine ⟨e.2 (k72 k2), Z, z1, z2, ?_⟩
    rw [ge]; exact z3
  · refine ⟨e.2 (k72 ⟨fun z => absurd z g1, fun _ => trivial⟩), Y, ?_, y2, Or.inr ⟨g1, by rw [gn]; rfl⟩⟩
    rw [f_Mo_excess_88, if_neg g1]
theorem exs {x : Int32} {t a b : Nat} {X : St} (hx : DX x) (hn : n ≤ 100) (hW : ∀ t, t < n → tmW τ t) (hK : ∀ t, t < n → kdW τ t) (hD : SD n τ t a b) (h8 : X.1 0 8 = nI n) (h45 : X.1 0 45 = 0) (hX : ∀ c, ¬ c = 0 → ¬ c = 29 → X.1 c = τ.1 c) :
    k_Mo_excess (nI t) x X ∧ ∃ Z, f_Mo_excess (nI t) x X = Z ∧ fq X Z ∧ ST Z (exc τ a b x) := by
  obtain ⟨ht, ha, hb, d, u, v, hd, d1, d2, hu, hv, s1, s2⟩ := hD
  have hcl : (nI t).toNatClampNeg = t := nI_clamp (by omega)
  have hin : vp_in (nI t) 400 := by rw [in_iff, i_nI (by omega)]; omega
  have hcd : (nI d).toNatClampNeg = d := nI_clamp (by omega)
  have hid : vp_in (nI d) 400 := by rw [in_iff, i_nI (by omega)]; omega
  have c5 : ∀ j, X.1 5 j = τ.1 5 j := fun j => by rw [hX 5 (by omega) (by omega)]
  have e : f_Mo_excess (nI t) x X = f_Mo_excess_21 (nI t) x (nI d) X ∧ (k_Mo_excess_21 (nI t) x (nI d) X → k_Mo_excess (nI t) x X) := by
    by_cases z : τ.1 5 t = 7
    · have z' : X.1 5 (nI t).toNatClampNeg = 7 := by rw [hcl, c5]; exact z
      refine ⟨?_, fun w => ⟨hin, fun _ => ⟨hin, ?_⟩, fun y => absurd z' y⟩⟩
      · rw [f_Mo_excess, if_pos z', hcl, hX 8 (by omega) (by omega), d1 z]
      · rw [hcl, hX 8 (by omega) (by omega), d1 z]; exact w
    · have z' : ¬ X.1 5 (nI t).toNatClampNeg = 7 := by rw [hcl, c5]; exact z
      have dt := d2 z
      subst dt
      refine ⟨?_, fun w => ⟨hin, fun y => absurd y z', fun _ => w⟩⟩
      rw [f_Mo_excess, if_neg z']
  rw [e.1]
  by_cases z : τ.1 5 t = 7 ∧ τ.1 5 d = 6
  · obtain ⟨rfl, rfl⟩ := s1 z
    obtain ⟨k1, Z, z1, z2⟩ := ex49 (s := 1) (Or.inr rfl) hx hn hW hK hd ha hb h8 h45 hX ⟨fun w => absurd w (by decide), fun _ => hv⟩ ⟨fun w => absurd w (by decide), fun _ => hu⟩
    have z' : X.1 5 (nI t).toNatClampNeg = 7 := by rw [hcl, c5]; exact z.1
    have z'' : X.1 5 (nI d).toNatClampNeg = 6 := by rw [hcd, c5]; exact z.2
    refine ⟨e.2 ⟨hin, fun _ => ⟨hid, fun _ => k1, fun w => absurd z'' w⟩, fun w => absurd z' w⟩, Z, ?_, z2⟩
    rw [f_Mo_excess_21, if_pos z', if_pos z'']; exact z1
  · obtain ⟨rfl, rfl⟩ := s2 z
    obtain ⟨k1, Z, z1, z2⟩ := ex49 (s := 0) (Or.inl rfl) hx hn hW hK hd ha hb h8 h45 hX ⟨fun _ => hu, fun w => absurd w (by decide)⟩ ⟨fun _ => hv, fun w => absurd w (by decide)⟩
    refine ⟨e.2 ⟨hin, fun w => ⟨hid, fun w2 => absurd ⟨by rw [hcl, c5] at w; exact w, by rw [hcd, c5] at w2; exact w2⟩ z, fun _ => k1⟩, fun _ => k1⟩, Z, ?_, z2⟩
    rw [f_Mo_excess_21]
    by_cases w : X.1 5 (nI t).toNatClampNeg = 7
    · rw [if_pos w]
      have w2 : ¬ X.1 5 (nI d).toNatClampNeg = 6 := fun w2 => z ⟨by rw [hcl, c5] at w; exact w, by rw [hcd, c5] at w2; exact w2⟩
      rw [if_neg w2]; exact z1
    · rw [if_neg w]; exact z1
theorem ads {x t f : Int32} {X : St} {c c' : Int32 → Option Fr} (hx : DX x) (hn : n ≤ 100) (hW : ∀ t, t < n → tmW τ t) (hK : ∀ t, t < n → kdW τ t) (h3 : W3 n τ t f c c') (hf : ¬ t = -1 → -99 ≤ f.toInt ∧ f.toInt ≤ 99) (h8 : X.1 0 8 = nI n) (hX : ∀ c, ¬ c = 0 → ¬ c = 29 → X.1 c = τ.1 c) (hA : AL X (c x)) :
    k_Mo_addExcess t f x X ∧ ∃ Z, f_Mo_addExcess t f x X = Z ∧ fz X Z ∧ AL Z (c' x) := by
  rcases h3 with ⟨rfl, rfl⟩ | ⟨k, a, b, rfl, hD, rfl⟩
  · have m1 : (-1 : Int32) < 0 := by decide
    refine ⟨⟨fun _ => trivial, fun z => absurd m1 z⟩, X, ?_, fz.rf X, hA⟩
    rw [f_Mo_addExcess, if_pos m1]; rfl
  · have hk : k < n := hD.1
    have np : ¬ nI k < 0 := nI_pos (by omega)
    have hf := hf (nI_ne_m1 (by omega))
    unfold ntc
    rcases hA with ⟨g0, ge, gV⟩ | ⟨g1, gn⟩
    · rw [ge]
      obtain ⟨k1, Y, y1, y2, y3⟩ := exs hx hn hW hK hD h8 g0 hX
      have e1 : f_Mo_addExcess (nI k) f x X = f_Mo_addExcess_18 f Y := by rw [f_Mo_addExcess, if_neg np, if_pos g0, y1]
      have k1' : k_Mo_addExcess_18 f Y → k_Mo_addExcess (nI k) f x X := fun w => ⟨fun z => absurd z np, fun _ => ⟨fun _ => ⟨k1, by rw [y1]; exact w⟩, fun z => absurd g0 z⟩⟩
      rw [e1]
      -- the end: what is kept
      have e79 : ∀ V : St, fq X V → ∃ Z, f_Mo_addExcess_79 V = Z ∧ fz X Z ∧ Z.1 0 45 = V.1 0 45 ∧ Z.2 0 49 = V.2 0 43 ∧ Z.2 0 50 = V.2 0 44 := fun V hV => ⟨sG (sG V 0 49 (V.2 0 43)) 0 50 (V.2 0 44), rfl, hV.fz, rfl, rfl, rfl⟩
      rcases y3 with ⟨u0, ue⟩ | ⟨u1, un⟩
      · have hE : VF ((Y.2 0 43).toInt, (Y.2 0 44).toInt) := by
          unfold exc at ue
          cases ea : ev τ x a with
          | none => rw [ea] at ue; cases ue
          | some p =>
            cases eb : ev τ x b with
            | none => rw [ea, eb] at ue; cases ue
            | some q =>
              rw [ea, eb] at ue
              have ue : cTm (-1) 1 p q = _ := ue
              unfold cTm cm at ue
              have hp := ev_V hn hW hK x a hD.2.1 p ea
              have hq := ev_V hn hW hK x b hD.2.2.1 q eb
              cases er : rd (q.1 * -1) (q.2 * 1) with
              | none => rw [er] at ue; cases ue
              | some r =>
                rw [er] at ue
                have hr := rd_V (by have := hq.2.2.1; omega) er
                exact rd_V (mp1 hp.2.2.1 hr.2.2.1) ue
        obtain ⟨v1, v2, v3, v4, -⟩ := hE
        have v3 : 1 ≤ (Y.2 0 44).toInt := v3
        have lf : f.toInt64.toInt = f.toInt := Int32.toInt_toInt64 _
        have t1 := l_tms (p := Y.2 0 43) (t := f.toInt64) v1 v2 (by rw [lf]; omega) (by rw [lf]; omega)
        rw [lf] at t1
        obtain ⟨k2, V, w1, w2, -, -, w5⟩ := bec (p := Y.2 0 43 * f.toInt64) (q := Y.2 0 44) u0 t1.2 v3
        have e2 : f_Mo_addExcess_18 f Y = f_Mo_addExcess_40 V := by rw [f_Mo_addExcess_18, if_pos u0, w1]
        have k2' : k_Mo_addExcess_40 V → k_Mo_addExcess_18 f Y := fun w => ⟨fun _ => ⟨k2, by rw [w1]; exact w⟩, fun z => absurd u0 z⟩
        rw [e2, ue]
        have ec : ((some ((X.2 0 49).toInt, (X.2 0 50).toInt) : Option Fr)).bind (fun A => ((some ((Y.2 0 43).toInt, (Y.2 0 44).toInt) : Option Fr)).bind (fun e => cTm f.toInt 1 A e)) = (rd (Y.2 0 43 * f.toInt64).toInt (Y.2 0 44).toInt).bind (fun r => rd ((X.2 0 49).toInt * r.2 + r.1 * (X.2 0 50).toInt) ((X.2 0 50).toInt * r.2)) := by
          show (rd ((Y.2 0 43).toInt * f.toInt) ((Y.2 0 44).toInt * 1)).bind _ = _
          rw [t1.1, Int.mul_one]
        rw [ec]
        have xV := y2.tr w2
        have a49 : V.2 0 49 = X.2 0 49 := xV.2.2 49 (by omega) (by omega)
        have a50 : V.2 0 50 = X.2 0 50 := xV.2.2 50 (by omega) (by omega)
        rcases w5 with ⟨q0, qe⟩ | ⟨q1, qn⟩
        · have hV := rd_V v3 qe
          rw [← a49, ← a50] at gV
          obtain ⟨s1, s2, s3, s4⟩ := lf_sum gV hV
          obtain ⟨k3, U, p1, p2, -, -, p5⟩ := bec q0 s3 s4
          have e3 : f_Mo_addExcess_40 V = f_Mo_addExcess_79 U := by rw [f_Mo_addExcess_40, if_pos q0, p1]
          obtain ⟨Z, z1, z2, z3, z4, z5⟩ := e79 U (xV.tr p2)
          rw [s1, s2] at p5
          refine ⟨k1' (k2' ⟨fun _ => ⟨k3, trivial⟩, fun z => absurd q0 z⟩), Z, e3.trans z1, z2, ?_⟩
          rw [qe]
          show AL Z (rd ((X.2 0 49).toInt * (V.2 0 44).toInt + (V.2 0 43).toInt * (X.2 0 50).toInt) ((X.2 0 50).toInt * (V.2 0 44).toInt))
          rw [a49, a50] at p5
          have pos : 1 ≤ (X.2 0 50).toInt * (V.2 0 44).toInt := by rw [a50] at gV; exact mp1 gV.2.2.1 hV.2.2.1
          rcases p5 with ⟨o0, oe⟩ | ⟨o1, on⟩
          · refine Or.inl ⟨z3.trans o0, ?_, ?_⟩
            · rw [oe, z4, z5]
            · rw [z4, z5]; exact rd_V pos oe
          · exact Or.inr ⟨by rw [z3]; exact o1, on⟩
        · have e3 : f_Mo_addExcess_40 V = f_Mo_addExcess_79 V := by rw [f_Mo_addExcess_40, if_neg q1]
          obtain ⟨Z, z1, z2, z3, z4, z5⟩ := e79 V xV
          refine ⟨k1' (k2' ⟨fun z => absurd z q1, fun _ => trivial⟩), Z, e3.trans z1, z2, Or.inr ⟨by rw [z3]; exact q1, by rw [qn]; rfl⟩⟩
      · have e3 : f_Mo_addExcess_18 f Y = f_Mo_addExcess_79 Y := by rw [f_Mo_addExcess_18, if_neg u1, f_Mo_addExcess_40, if_neg u1]
        obtain ⟨Z, z1, z2, z3, z4, z5⟩ := e79 Y y2
        exact ⟨k1' ⟨fun z => absurd z u1, fun _ => ⟨fun z => absurd z u1, fun _ => trivial⟩⟩, Z, e3.trans z1, z2, Or.inr ⟨by rw [z3]; exact u1, by rw [un]; rfl⟩⟩
    · refine ⟨⟨fun z => absurd z np, fun _ => ⟨fun z => absurd z g1, fun _ => trivial⟩⟩, X, ?_, fz.rf X, Or.inr ⟨g1, by rw [gn]; rfl⟩⟩
      rw [f_Mo_addExcess, if_neg np, if_neg g1]; rfl
end EXC
