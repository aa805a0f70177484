-- a sum's entries: one added
def ent (s : St) (i : Nat) : Fr := ((s.2 2 i).toInt, (s.2 3 i).toInt)
/-- the coefficient of x among the first m entries -/
def lk (s : St) : Nat → Int32 → Fr
  | 0, _ => (0, 1)
  | m + 1, x => if s.1 1 m = x then ent s m else lk s m x
def SO (cap m : Nat) (s : St) : Prop := s.1 0 3 = nI m ∧ m ≤ cap ∧ cap ≤ 101 ∧ s.1 99 0 = nI cap
def SE (m : Nat) (s : St) : Prop := (∀ i j, i < m → j < m → s.1 1 i = s.1 1 j → i = j) ∧ ∀ i, i < m → VF (ent s i)
theorem lk_no {s : St} {x : Int32} : ∀ m, (∀ i, i < m → ¬ s.1 1 i = x) → lk s m x = (0, 1) := by
  intro m
  induction m with
  | zero => intro _; rfl
  | succ m ih =>
    intro h
    show (if s.1 1 m = x then ent s m else lk s m x) = _
    rw [if_neg (h m (by omega))]; exact ih (fun i hi => h i (by omega))
theorem lk_at {s : St} {x : Int32} {i : Nat} : ∀ m, (∀ i j, i < m → j < m → s.1 1 i = s.1 1 j → i = j) → i < m → s.1 1 i = x → lk s m x = ent s i := by
  intro m
  induction m with
  | zero => intro _ h; omega
  | succ m ih =>
    intro hd hi hx
    show (if s.1 1 m = x then ent s m else lk s m x) = _
    by_cases z : i = m
    · subst z; rw [if_pos hx]
    · rw [if_neg (fun w => z (hd i m hi (by omega) (hx.trans w.symm)))]
      exact ih (fun i j h1 h2 => hd i j (by omega) (by omega)) (by omega) hx
theorem lk_cong {s s' : St} {x : Int32} : ∀ m, (∀ i, i < m → s'.1 1 i = s.1 1 i ∧ (s.1 1 i = x → ent s' i = ent s i)) → lk s' m x = lk s m x := by
  intro m
  induction m with
  | zero => intro _; rfl
  | succ m ih =>
    intro h
    show (if s'.1 1 m = x then ent s' m else lk s' m x) = (if s.1 1 m = x then ent s m else lk s m x)
    obtain ⟨h1, h2⟩ := h m (by omega)
    rw [h1, ih (fun i hi => h i (by omega))]
    by_cases z : s.1 1 m = x
    · rw [if_pos z, if_pos z, h2 z]
    · rw [if_neg z, if_neg z]
theorem lk_V {s : St} {m : Nat} (h : SE m s) (x : Int32) : VF (lk s m x) := by
  by_cases z : ∃ i, i < m ∧ s.1 1 i = x
  · obtain ⟨i, h1, h2⟩ := z
    rw [lk_at m h.1 h1 h2]; exact h.2 i h1
  · rw [lk_no m (fun i hi w => z ⟨i, hi, w⟩)]; exact VF01
/-- one entry more, of 0 -/
def pn (s : St) (m : Nat) (a : Int32) : St := sF (sL (sL (sA s 1 (nI m) a) 2 (nI m) 0) 3 (nI m) 1) 0 3 (nI m + 1)
theorem pn_at {s : St} {m : Nat} {a : Int32} (hm : m ≤ 101) : (∀ j, (pn s m a).1 1 j = if j = m then a else s.1 1 j) ∧ (∀ j, ent (pn s m a) j = if j = m then (0, 1) else ent s j) ∧ (pn s m a).1 0 3 = nI (m + 1) ∧ (pn s m a).1 0 4 = s.1 0 4 ∧ (pn s m a).1 99 0 = s.1 99 0 := by
  have hcl : (nI m).toNatClampNeg = m := nI_clamp (by omega)
  refine ⟨fun j => ?_, fun j => ?_, (nI_succ m).symm, rfl, rfl⟩
  · show upd (s.1 1) (nI m).toNatClampNeg a j = _
    rw [upd_at, hcl]
  · show ((if j = (nI m).toNatClampNeg then (0 : Int64) else s.2 2 j).toInt, (if j = (nI m).toNatClampNeg then (1 : Int64) else s.2 3 j).toInt) = _
    rw [hcl]
    by_cases z : j = m
    · rw [if_pos z, if_pos z, if_pos z]; rfl
    · rw [if_neg z, if_neg z, if_neg z]; rfl
section PLC
variable {cap m : Nat} {s : St} {a : Int32}
theorem plcO (hO : SO cap m s) : ∀ (d i fuel : Nat), i + d = m → d < fuel → (∀ j, j < i → ¬ s.1 1 j = a) →
    k_Su_placeOfs_2 fuel a (nI i) s ∧ ((∃ j, i ≤ j ∧ j < m ∧ s.1 1 j = a ∧ f_Su_placeOfs_2 fuel a (nI i) s = (nI j, s)) ∨ ((∀ j, j < m → ¬ s.1 1 j = a) ∧ (m < cap → f_Su_placeOfs_2 fuel a (nI i) s = (nI m, pn s m a)))) := by
  obtain ⟨o1, o2, o3, o4⟩ := hO
  have hcc : (nI cap).toNatClampNeg = cap := nI_clamp (by omega)
  intro d
  induction d with
  | zero =>
    intro i fuel hi hf hno
    obtain ⟨fuel, rfl⟩ : ∃ k, fuel = k + 1 := ⟨fuel - 1, by omega⟩
    have pl : s.1 0 3 ≤ nI i := by rw [o1]; exact (nI_le_iff (by omega) (by omega)).mpr (by omega)
    have lc : (s.1 0 3 < nI (s.1 99 0).toNatClampNeg) ↔ m < cap := by rw [o1, o4, hcc]; exact nI_lt_iff (by omega) (by omega)
    have hin : m < cap → vp_in (nI m) cap := fun h => by rw [in_iff, i_nI (by omega)]; omega
    refine ⟨⟨fun _ => ⟨fun z => ?_, fun _ => trivial⟩, fun z => absurd pl z⟩, Or.inr ⟨fun j hj => hno j (by omega), fun h => ?_⟩⟩
    · have hi2 := hin (lc.mp z)
      have e1 : vp_in (s.1 0 3) (s.1 99 0).toNatClampNeg := by rw [o1, o4, hcc]; exact hi2
      exact ⟨e1, e1, e1, trivial⟩
    · rw [f_Su_placeOfs_2, if_pos pl, if_pos (lc.mpr h)]
      show ((s.1 0 3 + 1) - 1, sF (sL (sL (sA s 1 (s.1 0 3) a) 2 (s.1 0 3) 0) 3 (s.1 0 3) 1) 0 3 (s.1 0 3 + 1)) = _
      rw [o1, ← nI_succ, nI_pred, nI_succ]; rfl
  | succ d ih =>
    intro i fuel hi hf hno
    obtain ⟨fuel, rfl⟩ : ∃ k, fuel = k + 1 := ⟨fuel - 1, by omega⟩
    have pl : ¬ s.1 0 3 ≤ nI i := by
      rw [o1]; intro z
      have := (nI_le_iff (by omega) (by omega)).mp z; omega
    have hci : (nI i).toNatClampNeg = i := nI_clamp (by omega)
    have hin : vp_in (nI i) (s.1 99 0).toNatClampNeg := by rw [o4, hcc, in_iff, i_nI (by omega)]; omega
    by_cases z : s.1 1 i = a
    · refine ⟨⟨fun w => absurd w pl, fun _ => ⟨hin, fun _ => trivial, fun w => absurd (by rw [hci]; exact z) w⟩⟩, Or.inl ⟨i, Nat.le_refl i, by omega, z, ?_⟩⟩
      rw [f_Su_placeOfs_2, if_neg pl, hci, if_pos z]
    · obtain ⟨g1, g2⟩ := ih (i + 1) fuel (by omega) (by omega) (fun j hj => by
        by_cases w : j = i
        · rw [w]; exact z
        · exact hno j (by omega))
      rw [nI_succ] at g1 g2
      have e : f_Su_placeOfs_2 (fuel + 1) a (nI i) s = f_Su_placeOfs_2 fuel a (nI i + 1) s := by rw [f_Su_placeOfs_2, if_neg pl, hci, if_neg z]
      refine ⟨⟨fun w => absurd w pl, fun _ => ⟨hin, fun w => absurd (by rw [hci] at w; exact w) z, fun _ => g1⟩⟩, ?_⟩
      rw [e]
      rcases g2 with ⟨j, h1, h2, h3, h4⟩ | g2
      · exact Or.inl ⟨j, by omega, h2, h3, h4⟩
      · exact Or.inr g2
/-- the place of an atom -/
theorem plc_sp (hO : SO cap m s) (hE : SE m s) (hc : (∃ i, i < m ∧ s.1 1 i = a) ∨ m < cap) : k_Su_placeOfs a s ∧ ∃ i m1 s1, f_Su_placeOfs a s = (nI i, s1) ∧ i < m1 ∧ m ≤ m1 ∧ m1 ≤ m + 1 ∧ SO cap m1 s1 ∧ SE m1 s1 ∧ s1.1 1 i = a ∧ ent s1 i = lk s m a ∧ (∀ x, ¬ x = a → lk s1 m1 x = lk s m x) ∧ s1.1 0 4 = s.1 0 4 ∧ ∀ j, j < m1 → s1.1 1 j = a ∨ ∃ j', j' < m ∧ s1.1 1 j = s.1 1 j' := by
  have hO' := hO
  obtain ⟨o1, o2, o3, o4⟩ := hO'
  obtain ⟨k1, h⟩ := plcO (a := a) hO m 0 1000 (by omega) (by omega) (fun j hj => by omega)
  rw [nI_0] at k1 h
  refine ⟨k1, ?_⟩
  rcases h with ⟨j, -, h2, h3, h4⟩ | ⟨h1, h2⟩
  · exact ⟨j, m, s, h4, h2, Nat.le_refl m, by omega, hO, hE, h3, (lk_at m hE.1 h2 h3).symm, fun x _ => rfl, rfl, fun j hj => Or.inr ⟨j, hj, rfl⟩⟩
  · have hm : m < cap := by
      rcases hc with ⟨i, i1, i2⟩ | hc
      · exact absurd i2 (h1 i i1)
      · exact hc
    obtain ⟨p1, p2, p3, p4, p5⟩ := pn_at (s := s) (m := m) (a := a) (by omega)
    have at1 : ∀ j, j < m → (pn s m a).1 1 j = s.1 1 j := fun j hj => by rw [p1, if_neg (by omega)]
    refine ⟨m, m + 1, pn s m a, h2 hm, by omega, by omega, by omega, ⟨p3, by omega, o3, p5.trans o4⟩, ⟨fun i j hi hj e => ?_, fun i hi => ?_⟩, by rw [p1, if_pos rfl], ?_, fun x hx => ?_, p4, fun j hj => ?_⟩
    · rw [p1, p1] at e
      by_cases z1 : i = m
      · by_cases z2 : j = m
        · omega
        · rw [if_pos z1, if_neg z2] at e
          exact absurd e.symm (h1 j (by omega))
      · by_cases z2 : j = m
        · rw [if_neg z1, if_pos z2] at e
          exact absurd e (h1 i (by omega))
        · rw [if_neg z1, if_neg z2] at e
          exact hE.1 i j (by omega) (by omega) e
    · rw [p2]
      by_cases z : i = m
      · rw [if_pos z]; exact VF01
      · rw [if_neg z]; exact hE.2 i (by omega)
    · rw [p2, if_pos rfl, lk_no m h1]
    · show (if (pn s m a).1 1 m = x then ent (pn s m a) m else lk (pn s m a) m x) = _
      rw [p1, if_pos rfl, if_neg (fun z => hx z.symm)]
      exact lk_cong m (fun i hi => ⟨at1 i hi, fun _ => by rw [p2, if_neg (by omega)]⟩)
    · by_cases z : j = m
      · exact Or.inl (by rw [p1, if_pos z])
      · exact Or.inr ⟨j, by omega, at1 j (by omega)⟩
end PLC
/-- what an entry becomes -/
def cm (c : Fr) (t b : Int) : Option Fr := (rd t b).bind (fun f => rd (c.1 * f.2 + f.1 * c.2) (c.2 * f.2))
theorem rd_no {p q : Int} : rd p q = none ↔ ¬ (-1000000000 ≤ (lo p q).1 ∧ (lo p q).1 ≤ 1000000000 ∧ (lo p q).2 ≤ 1000000000) := by
  unfold rd
  by_cases c : -1000000000 ≤ (lo p q).1 ∧ (lo p q).1 ≤ 1000000000 ∧ (lo p q).2 ≤ 1000000000
  · rw [if_pos c]; exact ⟨fun z => (by cases z), fun z => absurd c z⟩
  · rw [if_neg c]; exact ⟨fun _ => c, fun _ => rfl⟩
theorem rd_yes {p q : Int} (c : -1000000000 ≤ (lo p q).1 ∧ (lo p q).1 ≤ 1000000000 ∧ (lo p q).2 ≤ 1000000000) : rd p q = some (lo p q) := by
  unfold rd; rw [if_pos c]
theorem ae {cap m : Nat} {s : St} {a : Int32} {t b : Int64} (hO : SO cap m s) (hE : SE m s) (h4 : s.1 0 4 = 0) (ht : -9223372036854775808 < t.toInt) (hb : 1 ≤ b.toInt) (hc : (∃ i, i < m ∧ s.1 1 i = a) ∨ m < cap) :
    k_Su_addEntrys a t b s ∧ ∃ m' s', f_Su_addEntrys a t b s = s' ∧ m ≤ m' ∧ m' ≤ m + 1 ∧ SO cap m' s' ∧ (∀ j, j < m' → s'.1 1 j = a ∨ ∃ j', j' < m ∧ s'.1 1 j = s.1 1 j') ∧ (s'.1 0 4 = 0 ∨ s'.1 0 4 = 1) ∧
      (s'.1 0 4 = 0 → SE m' s' ∧ ∃ f, cm (lk s m a) t.toInt b.toInt = some f ∧ ∀ x, lk s' m' x = if x = a then f else lk s m x) ∧ (¬ s'.1 0 4 = 0 → cm (lk s m a) t.toInt b.toInt = none) := by
  obtain ⟨kg, hg⟩ := gcd_S (σ := s) (a := t) (b := b) ht (by omega)
  obtain ⟨g, hgg⟩ : ∃ g, f_CL_gcds t b s = g := ⟨_, rfl⟩
  rw [hgg] at hg
  obtain ⟨n0, nc, l1, l2⟩ := lo_L ht hb hg
  obtain ⟨kb, ib⟩ := bey_C (σ := s) (t / g) (b / g)
  rw [l1, l2] at ib
  have d10 : ¬ (1 : Int32) = 0 := by decide
  have tg : ∀ (x m1 : Nat) (s1 : St), SO cap m1 s1 → SO cap m1 (sF s1 0 4 1) := fun x m1 s1 h => h
  have eF : f_Su_addEntrys a t b s = if f_Su_isBeyonds (t / g) (b / g) s = 0 then f_Su_addEntrys_43 t b g (f_Su_placeOfs a s).1 (f_Su_placeOfs a s).2 else sF s 0 4 1 := by
    show f_Su_addEntrys_8 a t b (f_CL_gcds t b s) s = _
    rw [hgg]
    show (if lg_cmp g 0 = 0 then _ else (if f_Su_isBeyonds (t / g) (b / g) s = 0 then f_Su_addEntrys_43 t b g (f_Su_placeOfs a s).1 (f_Su_placeOfs a s).2 else sF s 0 4 1)) = _
    rw [if_neg nc]
  have kF : (f_Su_isBeyonds (t / g) (b / g) s = 0 → k_Su_placeOfs a s ∧ k_Su_addEntrys_43 t b g (f_Su_placeOfs a s).1 (f_Su_placeOfs a s).2) → k_Su_addEntrys a t b s := fun w => by
    refine ⟨kg, ?_⟩
    rw [hgg]
    exact ⟨fun z => absurd z nc, fun _ => ⟨n0, n0, kb, w, fun _ => trivial⟩⟩
  by_cases hby : f_Su_isBeyonds (t / g) (b / g) s = 0
  case neg =>
    refine ⟨kF (fun z => absurd z hby), m, sF s 0 4 1, by rw [eF, if_neg hby], Nat.le_refl m, by omega, hO, fun j hj => Or.inr ⟨j, hj, rfl⟩, Or.inr rfl, fun z => absurd z d10, fun _ => ?_⟩
    unfold cm
    rw [rd_no.mpr (fun z => hby (ib.mpr z))]; rfl
  case pos =>
  have hrd := rd_yes (ib.mp hby)
  have hVf : VF (lo t.toInt b.toInt) := rd_V hb hrd
  obtain ⟨f, hf⟩ : ∃ f, lo t.toInt b.toInt = f := ⟨_, rfl⟩
  rw [hf] at hrd hVf l1 l2
  obtain ⟨kp, i, m1, s1, ep, i1, i2, i3, hO1, hE1, i4, i5, i6, i7, i8⟩ := plc_sp hO hE hc
  have hO1' := hO1
  obtain ⟨o1, o2, o3, o4⟩ := hO1'
  have hci : (nI i).toNatClampNeg = i := nI_clamp (by omega)
  have hcc : (nI cap).toNatClampNeg = cap := nI_clamp (by omega)
  have hin : vp_in (nI i) (s1.1 99 0).toNatClampNeg := by rw [o4, hcc, in_iff, i_nI (by omega)]; omega
  have nm1 : ¬ nI i = -1 := nI_ne_m1 (by omega)
  have hVc := hE1.2 i i1
  obtain ⟨v1, v2, v3, v4, v5⟩ := hVc
  obtain ⟨w1, w2, w3, w4, w5⟩ := hVf
  have v1 : -1000000000 ≤ (s1.2 2 i).toInt := v1
  have v2 : (s1.2 2 i).toInt ≤ 1000000000 := v2
  have v3 : 1 ≤ (s1.2 3 i).toInt := v3
  have v4 : (s1.2 3 i).toInt ≤ 1000000000 := v4
  have b1 := mb v1 v2 (show 0 ≤ f.2 by omega) w4
  have b2 := mb w1 w2 (show 0 ≤ (s1.2 3 i).toInt by omega) v4
  have b3 := mb (show -1000000000 ≤ (s1.2 3 i).toInt by omega) v4 (show 0 ≤ f.2 by omega) w4
  have b4 := mp1 v3 w3
  have x1 : (s1.2 2 i * (b / g)).toInt = (s1.2 2 i).toInt * f.2 := by rw [l_mul (by rw [l2]; omega), l2]
  have x2 : (t / g * s1.2 3 i).toInt = f.1 * (s1.2 3 i).toInt := by rw [l_mul (by rw [l1]; omega), l1]
  have x3 : (s1.2 3 i * (b / g)).toInt = (s1.2 3 i).toInt * f.2 := by rw [l_mul (by rw [l2]; omega), l2]
  have x4 : (s1.2 2 i * (b / g) + t / g * s1.2 3 i).toInt = (s1.2 2 i).toInt * f.2 + f.1 * (s1.2 3 i).toInt := by rw [l_add (by rw [x1, x2]; omega), x1, x2]
  obtain ⟨T, hT⟩ : ∃ T, s1.2 2 i * (b / g) + t / g * s1.2 3 i = T := ⟨_, rfl⟩
  obtain ⟨B, hB⟩ : ∃ B, s1.2 3 i * (b / g) = B := ⟨_, rfl⟩
  rw [hT] at x4
  rw [hB] at x3
  obtain ⟨kg2, hg2⟩ := gcd_S (σ := s1) (a := T) (b := B) (by rw [x4]; omega) (by rw [x3]; omega)
  obtain ⟨G, hG⟩ : ∃ G, f_CL_gcds T B s1 = G := ⟨_, rfl⟩
  rw [hG] at hg2
  obtain ⟨N0, NC, L1, L2⟩ := lo_L (a := T) (b := B) (g := G) (by rw [x4]; omega) (by rw [x3]; omega) hg2
  obtain ⟨kb2, ib2⟩ := bey_C (σ := s1) (T / G) (B / G)
  rw [L1, L2, x4, x3] at ib2
  rw [x4, x3] at L1 L2
  have ec : cm (lk s m a) t.toInt b.toInt = rd ((s1.2 2 i).toInt * f.2 + f.1 * (s1.2 3 i).toInt) ((s1.2 3 i).toInt * f.2) := by
    unfold cm
    rw [hrd, ← i5]; rfl
  have e43 : f_Su_addEntrys_43 t b g (nI i) s1 = if f_Su_isBeyonds (T / G) (B / G) s1 = 0 then sL (sL s1 2 (nI i) (T / G)) 3 (nI i) (B / G) else sF s1 0 4 1 := by
    rw [f_Su_addEntrys_43, if_neg nm1, hci, hT, f_Su_addEntrys_83, hci, hB, f_Su_addEntrys_98, hG]
    show (if lg_cmp G 0 = 0 then _ else (if f_Su_isBeyonds (T / G) (B / G) s1 = 0 then sL (sL s1 2 (nI i) (T / G)) 3 (nI i) (B / G) else sF s1 0 4 1)) = _
    rw [if_neg NC]
  have k43 : k_Su_addEntrys_43 t b g (nI i) s1 := by
    refine ⟨fun z => absurd z nm1, fun _ => ⟨hin, n0, n0, hin, ?_⟩⟩
    rw [hci, hT]
    refine ⟨hin, n0, ?_⟩
    rw [hci, hB]
    refine ⟨kg2, ?_⟩
    rw [hG]
    exact ⟨fun z => absurd z NC, fun _ => ⟨N0, N0, kb2, fun _ => ⟨N0, hin, N0, hin, trivial⟩, fun _ => trivial⟩⟩
  have kAll := kF (fun _ => ⟨kp, by rw [ep]; exact k43⟩)
  rw [eF, if_pos hby, ep]
  show _ ∧ ∃ m' s', f_Su_addEntrys_43 t b g (nI i) s1 = s' ∧ _
  rw [e43, ec]
  by_cases hb2 : f_Su_isBeyonds (T / G) (B / G) s1 = 0
  · rw [if_pos hb2]
    have hr2 := rd_yes (ib2.mp hb2)
    have eN : ∀ j, ent (sL (sL s1 2 (nI i) (T / G)) 3 (nI i) (B / G)) j = if j = i then lo ((s1.2 2 i).toInt * f.2 + f.1 * (s1.2 3 i).toInt) ((s1.2 3 i).toInt * f.2) else ent s1 j := fun j => by
      show ((if j = (nI i).toNatClampNeg then T / G else s1.2 2 j).toInt, (if j = (nI i).toNatClampNeg then B / G else s1.2 3 j).toInt) = _
      rw [hci]
      by_cases z : j = i
      · rw [if_pos z, if_pos z, if_pos z, L1, L2]
      · rw [if_neg z, if_neg z, if_neg z]; rfl
    refine ⟨kAll, m1, _, rfl, i2, i3, hO1, i8, Or.inl (i7.trans h4), fun _ => ⟨⟨hE1.1, fun j hj => ?_⟩, _, hr2, fun x => ?_⟩, fun z => absurd (i7.trans h4) z⟩
    · rw [eN]
      by_cases z : j = i
      · rw [if_pos z]; exact rd_V b4 hr2
      · rw [if_neg z]; exact hE1.2 j hj
    · by_cases z : x = a
      · rw [if_pos z, z]
        refine (lk_at m1 (s := sL (sL s1 2 (nI i) (T / G)) 3 (nI i) (B / G)) hE1.1 i1 i4).trans ?_
        rw [eN, if_pos rfl]
      · rw [if_neg z, ← i6 x z]
        refine lk_cong m1 (fun j hj => ⟨rfl, fun w => ?_⟩)
        rw [eN, if_neg]
        intro w2
        rw [w2, i4] at w
        exact z w.symm
  · rw [if_neg hb2]
    exact ⟨kAll, m1, sF s1 0 4 1, rfl, i2, i3, hO1, i8, Or.inr rfl, fun z => absurd z d10, fun _ => rd_no.mpr (fun z => hb2 (ib2.mpr z))⟩
