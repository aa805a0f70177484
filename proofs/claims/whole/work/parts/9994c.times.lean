-- a sum times a fraction added to a sum
def DX (x : Int32) : Prop := x = -1 ∨ ∃ t, t < 100 ∧ x = nI t
theorem pig {f : Nat → Int32} {m : Nat} (h1 : ∀ i j, i < m → j < m → f i = f j → i = j) (h2 : ∀ i, i < m → DX (f i)) : m ≤ 101 := by
  have nd : ((List.range m).map f).Nodup := by
    unfold List.Nodup
    rw [List.pairwise_iff_getElem]
    intro i j hi hj hij e
    rw [List.getElem_map, List.getElem_map, List.getElem_range, List.getElem_range] at e
    rw [List.length_map, List.length_range] at hi hj
    have := h1 i j hi hj e
    omega
  have sb : (List.range m).map f ⊆ (-1 : Int32) :: (List.range 100).map nI := by
    intro x hx
    obtain ⟨i, hi, rfl⟩ := List.mem_map.mp hx
    rw [List.mem_range] at hi
    rcases h2 i hi with z | ⟨t, ht, z⟩
    · rw [z]; exact List.mem_cons_self
    · rw [z]; exact List.mem_cons_of_mem _ (List.mem_map.mpr ⟨t, List.mem_range.mpr ht, rfl⟩)
  have := nd.length_le_of_subset sb
  rw [List.length_map, List.length_range, List.length_cons, List.length_map, List.length_range] at this
  omega
theorem pig1 {s : St} {m : Nat} {a : Int32} (h1 : ∀ i j, i < m → j < m → s.1 1 i = s.1 1 j → i = j) (h2 : ∀ i, i < m → DX (s.1 1 i)) (ha : DX a) (hn : ∀ i, i < m → ¬ s.1 1 i = a) : m < 101 := by
  have := pig (f := fun i => if i = m then a else s.1 1 i) (m := m + 1) (fun i j hi hj e => by
    have e : (if i = m then a else s.1 1 i) = (if j = m then a else s.1 1 j) := e
    by_cases z1 : i = m
    · by_cases z2 : j = m
      · omega
      · rw [if_pos z1, if_neg z2] at e
        exact absurd e.symm (hn j (by omega))
    · by_cases z2 : j = m
      · rw [if_neg z1, if_pos z2] at e
        exact absurd e (hn i (by omega))
      · rw [if_neg z1, if_neg z2] at e
        exact h1 i j (by omega) (by omega) e) (fun i hi => by
    show DX (if i = m then a else s.1 1 i)
    by_cases z : i = m
    · rw [if_pos z]; exact ha
    · rw [if_neg z]; exact h2 i (by omega))
  omega
def cTm (tp bt : Int) (c e : Fr) : Option Fr := cm c (e.1 * tp) (e.2 * bt)
theorem lo_0 {q : Int} (hq : 1 ≤ q) : lo 0 q = (0, 1) := by
  have e : q = ((q.natAbs : Nat) : Int) := by omega
  have g : Nat.gcd (0 : Int).natAbs q.natAbs = q.natAbs := by
    show Nat.gcd 0 q.natAbs = _
    rw [Nat.gcd_zero_left]
  unfold lo
  rw [g, Int.zero_tdiv]
  have h0 : 0 < q.natAbs := by omega
  generalize q.natAbs = w at *
  rw [e, tdiv_nn, Nat.div_self h0]; rfl
theorem cTm0 {tp bt : Int} {c : Fr} (hb : 1 ≤ bt) (hc : VF c) : cTm tp bt c (0, 1) = some c := by
  unfold cTm cm
  have e : rd ((0, 1) : Fr).1 bt = some (0, 1) := by
    unfold rd
    rw [show lo ((0, 1) : Fr).1 bt = (0, 1) from lo_0 hb, if_pos (by decide)]
  have e2 : rd (((0, 1) : Fr).1 * tp) (((0, 1) : Fr).2 * bt) = some (0, 1) := by
    rw [show ((0, 1) : Fr).1 * tp = ((0, 1) : Fr).1 from Int.zero_mul tp, show ((0, 1) : Fr).2 * bt = bt from Int.one_mul bt]
    exact e
  rw [e2]
  show rd (c.1 * 1 + 0 * c.2) (c.2 * 1) = some c
  rw [Int.mul_one, Int.mul_one, Int.zero_mul, Int.add_zero]
  exact rd_id hc
section ATS
variable {DA : Int32 → Prop}
def SumOK (DA : Int32 → Prop) (cap m : Nat) (s : St) : Prop := SO cap m s ∧ (∀ i, i < m → DA (s.1 1 i)) ∧ (s.1 0 4 = 0 ∨ s.1 0 4 = 1) ∧ (s.1 0 4 = 0 → SE m s)
def REP (DA : Int32 → Prop) (m : Nat) (s : St) (c : Int32 → Option Fr) : Prop := (s.1 0 4 = 0 → ∀ x, DA x → c x = some (lk s m x)) ∧ (¬ s.1 0 4 = 0 → ∃ x, DA x ∧ c x = none)
/-- the loop -/
theorem at_lp {cap capw m n : Nat} {σ ω : St} {tp bt : Int64} (hDX : ∀ x, DA x → DX x) (hO : SO cap m σ) (hE : SE m σ) (hOw : SO capw n ω) (hEw : SE n ω) (hDw : ∀ i, i < n → DA (ω.1 1 i)) (ht : -100000 ≤ tp.toInt ∧ tp.toInt ≤ 100000) (hb : 1 ≤ bt.toInt ∧ bt.toInt ≤ 100000) :
    ∀ (d i fuel mi : Nat) (σi : St), i + d = n → d < fuel → SO cap mi σi → SE mi σi → σi.1 0 4 = 0 → m ≤ mi → mi ≤ m + i → (cap = 101 ∨ m + n ≤ cap) → (∀ j, j < mi → DA (σi.1 1 j)) →
      (∀ x, (∀ j, j < i → ω.1 1 j = x → cTm tp.toInt bt.toInt (lk σ m x) (ent ω j) = some (lk σi mi x)) ∧ ((∀ j, j < i → ¬ ω.1 1 j = x) → lk σi mi x = lk σ m x)) →
      kg_at ω tp bt fuel (nI i) σi ∧ ∃ m' σ', g_at ω tp bt fuel (nI i) σi = σ' ∧ m ≤ m' ∧ m' ≤ m + n ∧ SO cap m' σ' ∧ (∀ j, j < m' → DA (σ'.1 1 j)) ∧ (σ'.1 0 4 = 0 ∨ σ'.1 0 4 = 1) ∧
        (σ'.1 0 4 = 0 → SE m' σ' ∧ ∀ x, (∀ j, j < n → ω.1 1 j = x → cTm tp.toInt bt.toInt (lk σ m x) (ent ω j) = some (lk σ' m' x)) ∧ ((∀ j, j < n → ¬ ω.1 1 j = x) → lk σ' m' x = lk σ m x)) ∧
        (¬ σ'.1 0 4 = 0 → ∃ j, j < n ∧ cTm tp.toInt bt.toInt (lk σ m (ω.1 1 j)) (ent ω j) = none) := by
  obtain ⟨w1, w2, w3, w4⟩ := hOw
  have hcw : (nI capw).toNatClampNeg = capw := nI_clamp (by omega)
  intro d
  induction d with
  | zero =>
    intro i fuel mi σi hi hf hOi hEi h4 m1 m2 hcap hDi hI
    obtain ⟨fuel, rfl⟩ : ∃ k, fuel = k + 1 := ⟨fuel - 1, by omega⟩
    obtain rfl : i = n := by omega
    have pl : ω.1 0 3 ≤ nI i := by rw [w1]; exact (nI_le_iff (by omega) (by omega)).mpr (Nat.le_refl _)
    refine ⟨fun z => absurd pl z, mi, σi, by rw [g_at, if_pos pl], m1, m2, hOi, hDi, Or.inl h4, fun _ => ⟨hEi, hI⟩, fun z => absurd h4 z⟩
  | succ d ih =>
    intro i fuel mi σi hi hf hOi hEi h4 m1 m2 hcap hDi hI
    obtain ⟨fuel, rfl⟩ : ∃ k, fuel = k + 1 := ⟨fuel - 1, by omega⟩
    have pl : ¬ ω.1 0 3 ≤ nI i := by
      rw [w1]; intro z
      have := (nI_le_iff (by omega) (by omega)).mp z; omega
    have hci : (nI i).toNatClampNeg = i := nI_clamp (by omega)
    have hin : vp_in (nI i) (ω.1 99 0).toNatClampNeg := by rw [w4, hcw, in_iff, i_nI (by omega)]; omega
    obtain ⟨v1, v2, v3, v4, v5⟩ := hEw.2 i (by omega)
    have v1 : -1000000000 ≤ (ω.2 2 i).toInt := v1
    have v2 : (ω.2 2 i).toInt ≤ 1000000000 := v2
    have v3 : 1 ≤ (ω.2 3 i).toInt := v3
    have v4 : (ω.2 3 i).toInt ≤ 1000000000 := v4
    have b1 := Int.mul_le_mul_of_nonneg_right (show (ω.2 2 i).toInt ≤ 1000000000 from v2) (show (0 : Int) ≤ 100000 by omega)
    have bb1 : -100000000000000 ≤ (ω.2 2 i).toInt * tp.toInt ∧ (ω.2 2 i).toInt * tp.toInt ≤ 100000000000000 := by
      have c1 : ∀ x y : Int, -1000000000 ≤ x → x ≤ 1000000000 → 0 ≤ y → y ≤ 100000 → -100000000000000 ≤ x * y ∧ x * y ≤ 100000000000000 := fun x y h1 h2 h3 h4 => by
        have a := Int.mul_le_mul_of_nonneg_right h1 h3
        have b := Int.mul_le_mul_of_nonneg_right h2 h3
        omega
      by_cases z : 0 ≤ tp.toInt
      · exact c1 _ _ v1 v2 z ht.2
      · have c := c1 (ω.2 2 i).toInt (-tp.toInt) v1 v2 (by omega) (by omega)
        rw [Int.mul_neg] at c
        omega
    have bb2 : 1 ≤ (ω.2 3 i).toInt * bt.toInt := mp1 v3 hb.1
    have bb3 : (ω.2 3 i).toInt * bt.toInt ≤ 100000000000000 := by
      have a := Int.mul_le_mul_of_nonneg_right v4 (show 0 ≤ bt.toInt by omega)
      omega
    have x1 : (ω.2 2 i * tp).toInt = (ω.2 2 i).toInt * tp.toInt := l_mul (by omega)
    have x2 : (ω.2 3 i * bt).toInt = (ω.2 3 i).toInt * bt.toInt := l_mul (by omega)
    have hcp : (∃ j, j < mi ∧ σi.1 1 j = ω.1 1 i) ∨ mi < cap := by
      by_cases z : ∃ j, j < mi ∧ σi.1 1 j = ω.1 1 i
      · exact Or.inl z
      · refine Or.inr ?_
        rcases hcap with hcap | hcap
        · rw [hcap]
          exact pig1 hEi.1 (fun j hj => hDX _ (hDi j hj)) (hDX _ (hDw i (by omega))) (fun j hj w => z ⟨j, hj, w⟩)
        · omega
    obtain ⟨ka, m', σ', ea, n1, n2, n3, n4, n5, n6, n7⟩ := ae (a := ω.1 1 i) (t := ω.2 2 i * tp) (b := ω.2 3 i * bt) hOi hEi h4 (by rw [x1]; omega) (by rw [x2]; omega) hcp
    rw [x1, x2] at n6 n7
    have hxi : lk σi mi (ω.1 1 i) = lk σ m (ω.1 1 i) := (hI (ω.1 1 i)).2 (fun j hj w => by have := hEw.1 j i (by omega) (by omega) w; omega)
    rw [hxi] at n6 n7
    have e1 : g_at ω tp bt (fuel + 1) (nI i) σi = g_at ω tp bt fuel (nI i + 1) σ' := by
      rw [g_at, if_neg pl, if_pos h4, hci, ea]
    have hD' : ∀ j, j < m' → DA (σ'.1 1 j) := fun j hj => by
      rcases n4 j hj with z | ⟨j', z1, z2⟩
      · rw [z]; exact hDw i (by omega)
      · rw [z2]; exact hDi j' z1
    rw [e1]
    by_cases g4 : σ'.1 0 4 = 0
    · obtain ⟨y1, f, y2, y3⟩ := n6 g4
      obtain ⟨q1, q2⟩ := ih (i + 1) fuel m' σ' (by omega) (by omega) n3 y1 g4 (by omega) (by omega) hcap hD' (fun x => by
        refine ⟨fun j hj w => ?_, fun w => ?_⟩
        · by_cases z : j = i
          · subst z
            rw [y3, if_pos w.symm, ← w]; exact y2
          · have nx : ¬ x = ω.1 1 i := fun e => by
              have := hEw.1 j i (by omega) (by omega) (w.trans e); omega
            rw [y3, if_neg nx]; exact (hI x).1 j (by omega) w
        · rw [y3, if_neg (fun e => w i (by omega) e.symm)]
          exact (hI x).2 (fun j hj => w j (by omega)))
      rw [nI_succ] at q1 q2
      exact ⟨fun _ _ => by rw [hci, ea]; exact ⟨hin, ka, q1⟩, q2⟩
    · have e2 : g_at ω tp bt fuel (nI i + 1) σ' = σ' := by
        obtain ⟨fuel, rfl⟩ : ∃ k, fuel = k + 1 := ⟨fuel - 1, by omega⟩
        rw [g_at]
        by_cases z : ω.1 0 3 ≤ nI i + 1
        · rw [if_pos z]
        · rw [if_neg z, if_neg g4]
      have k2 : kg_at ω tp bt fuel (nI i + 1) σ' := by
        obtain ⟨fuel, rfl⟩ : ∃ k, fuel = k + 1 := ⟨fuel - 1, by omega⟩
        exact fun _ z => absurd z g4
      refine ⟨fun _ _ => by rw [hci, ea]; exact ⟨hin, ka, k2⟩, m', σ', e2, by omega, by omega, n3, hD', n5, fun z => absurd z g4, fun z => ⟨i, by omega, n7 z⟩⟩
theorem atG {cap capw m n : Nat} {σ ω : St} {tp bt : Int64} {cs cw : Int32 → Option Fr} (hDX : ∀ x, DA x → DX x) (hs : SumOK DA cap m σ) (hw : SumOK DA capw n ω) (rs : REP DA m σ cs) (rw_ : REP DA n ω cw) (ht : -100000 ≤ tp.toInt ∧ tp.toInt ≤ 100000) (hb : 1 ≤ bt.toInt ∧ bt.toInt ≤ 100000) (hcap : cap = 101 ∨ m + n ≤ cap) :
    k_at ω tp bt σ ∧ ∃ m', m' ≤ m + n ∧ SumOK DA cap m' (f_at ω tp bt σ) ∧ REP DA m' (f_at ω tp bt σ) (fun x => (cs x).bind (fun a => (cw x).bind (fun b => cTm tp.toInt bt.toInt a b))) := by
  obtain ⟨hO, hDa, h01, hE⟩ := hs
  obtain ⟨hOw, hDw, w01, hEw⟩ := hw
  have d10 : ¬ (1 : Int32) = 0 := by decide
  have stop : ∀ s : St, ¬ s.1 0 4 = 0 → kg_at ω tp bt 1000 0 s ∧ g_at ω tp bt 1000 0 s = s := fun s h => by
    refine ⟨fun _ z => absurd z h, ?_⟩
    rw [show (1000 : Nat) = 999 + 1 from rfl, g_at]
    by_cases z : ω.1 0 3 ≤ 0
    · rw [if_pos z]
    · rw [if_neg z, if_neg h]
  by_cases s4 : σ.1 0 4 = 0
  · by_cases o4 : ω.1 0 4 = 0
    · -- neither is too great
      have eh : h_at ω σ = sF σ 0 4 0 := by unfold h_at; rw [if_pos s4, if_pos o4]
      have hE := hE s4
      have hEw := hEw o4
      have elk : ∀ x m, lk (sF σ 0 4 0) m x = lk σ m x := fun x m => lk_cong m (fun i hi => ⟨rfl, fun _ => rfl⟩)
      obtain ⟨q1, m', σ', q2, q3, q4, q5, q6, q7, q8, q9⟩ := at_lp (DA := DA) (σ := σ) (ω := ω) (tp := tp) (bt := bt) hDX hO hE hOw hEw hDw ht hb n 0 1000 m (sF σ 0 4 0) (by omega) (by have := hOw.2.1; have := hOw.2.2.1; omega) hO hE rfl (Nat.le_refl m) (by omega) hcap hDa (fun x => ⟨fun j hj => by omega, fun _ => elk x m⟩)
      rw [nI_0] at q1 q2
      have ef : f_at ω tp bt σ = σ' := by unfold f_at; rw [eh]; exact q2
      rw [ef]
      refine ⟨by unfold k_at; rw [eh]; exact q1, m', q4, ⟨q5, q6, q7, fun z => (q8 z).1⟩, fun z x hx => ?_, fun z => ?_⟩
      · obtain ⟨p1, p2⟩ := (q8 z).2 x
        show (cs x).bind _ = _
        rw [rs.1 s4 x hx, rw_.1 o4 x hx]
        show cTm tp.toInt bt.toInt (lk σ m x) (lk ω n x) = _
        by_cases w : ∃ j, j < n ∧ ω.1 1 j = x
        · obtain ⟨j, j1, j2⟩ := w
          rw [lk_at n hEw.1 j1 j2]; exact p1 j j1 j2
        · rw [lk_no n (fun i hi e => w ⟨i, hi, e⟩), cTm0 hb.1 (lk_V hE x), p2 (fun j hj e => w ⟨j, hj, e⟩)]
      · obtain ⟨j, j1, j2⟩ := q9 z
        refine ⟨ω.1 1 j, hDw j j1, ?_⟩
        show (cs _).bind _ = _
        rw [rs.1 s4 _ (hDw j j1), rw_.1 o4 _ (hDw j j1), lk_at n hEw.1 j1 rfl]
        exact j2
    · -- the other is
      have eh : h_at ω σ = sF σ 0 4 1 := by unfold h_at; rw [if_pos s4, if_neg o4]
      obtain ⟨q1, q2⟩ := stop (sF σ 0 4 1) d10
      have ef : f_at ω tp bt σ = sF σ 0 4 1 := by unfold f_at; rw [eh]; exact q2
      rw [ef]
      refine ⟨by unfold k_at; rw [eh]; exact q1, m, by omega, ⟨hO, hDa, Or.inr rfl, fun z => absurd z d10⟩, fun z => absurd z d10, fun _ => ?_⟩
      obtain ⟨x, x1, x2⟩ := rw_.2 o4
      refine ⟨x, x1, ?_⟩
      show (cs x).bind _ = _
      rw [x2]
      cases cs x <;> rfl
  · have eh : h_at ω σ = sF σ 0 4 1 := by unfold h_at; rw [if_neg s4]
    obtain ⟨q1, q2⟩ := stop (sF σ 0 4 1) d10
    have ef : f_at ω tp bt σ = sF σ 0 4 1 := by unfold f_at; rw [eh]; exact q2
    rw [ef]
    refine ⟨by unfold k_at; rw [eh]; exact q1, m, by omega, ⟨hO, hDa, Or.inr rfl, fun z => absurd z d10⟩, fun z => absurd z d10, fun _ => ?_⟩
    obtain ⟨x, x1, x2⟩ := rs.2 s4
    refine ⟨x, x1, ?_⟩
    show (cs x).bind _ = _
    rw [x2]; rfl
end ATS
