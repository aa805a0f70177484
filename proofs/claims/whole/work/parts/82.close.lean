-- close
section CLO
variable {n0 n r q c k f : Nat} {τb σ τ : St}
theorem la_C {T : Nat → Int32} (hk : k ≤ 60) (hT : ∀ i, i < k → σ.1 34 i = T i) (x : Int32) : ∀ (d fuel : Nat), d ≤ k → d < fuel →
    k_St_latestIn_7 fuel x (nI d - 1) σ ∧ ((∃ m, m < d ∧ T m = x ∧ (∀ j, m < j → j < d → ¬ T j = x) ∧ f_St_latestIn_7 fuel x (nI d - 1) σ = nI m) ∨ ((∀ j, j < d → ¬ T j = x) ∧ f_St_latestIn_7 fuel x (nI d - 1) σ = -1)) := by
  intro d
  induction d with
  | zero =>
    intro fuel h1 h2
    obtain ⟨fuel, rfl⟩ : ∃ k, fuel = k + 1 := ⟨fuel - 1, by omega⟩
    have e : nI 0 - 1 < 0 := by rw [nI_0]; decide
    refine ⟨⟨fun _ => trivial, fun z => absurd e z⟩, Or.inr ⟨fun j hj => absurd hj (Nat.not_lt_zero j), ?_⟩⟩
    show (if nI 0 - 1 < 0 then (-1 : Int32) else _) = _
    rw [if_pos e]
  | succ d ih =>
    intro fuel h1 h2
    obtain ⟨fuel, rfl⟩ : ∃ k, fuel = k + 1 := ⟨fuel - 1, by omega⟩
    rw [nI_pred]
    have e : ¬ nI d < 0 := nI_pos (by omega)
    have hcl : (nI d).toNatClampNeg = d := nI_clamp (by omega)
    have hin : vp_in (nI d) 60 := by rw [in_iff, i_nI (by omega)]; omega
    obtain ⟨g1, g2⟩ := ih fuel (by omega) (by omega)
    rw [Int32.sub_eq_add_neg] at g1 g2
    have ef : f_St_latestIn_7 (fuel + 1) x (nI d) σ = if T d = x then nI d else f_St_latestIn_7 fuel x (nI d + -1) σ := by
      show (if nI d < 0 then _ else (if σ.1 34 (nI d).toNatClampNeg = x then nI d else f_St_latestIn_7 fuel x (nI d + -1) σ)) = _
      rw [if_neg e, hcl, hT d (by omega)]
    refine ⟨⟨fun z => absurd z e, fun _ => ⟨hin, fun _ => trivial, fun _ => g1⟩⟩, ?_⟩
    rw [ef]
    by_cases h : T d = x
    · rw [if_pos h]
      exact Or.inl ⟨d, by omega, h, fun j q1 q2 => absurd q1 (by omega), rfl⟩
    · rw [if_neg h]
      rcases g2 with ⟨m, m1, m2, m3, m4⟩ | ⟨m1, m2⟩
      · refine Or.inl ⟨m, by omega, m2, fun j q1 q2 => ?_, m4⟩
        by_cases e2 : j = d
        · rw [e2]; exact h
        · exact m3 j q1 (by omega)
      · refine Or.inr ⟨fun j hj => ?_, m2⟩
        by_cases e2 : j = d
        · rw [e2]; exact h
        · exact m1 j (by omega)
/-- where the reference goes, once it knows the latest -/
abbrev clE (nm y : Int32) (τ : St) : Int32 × St := if τ.1 0 25 = 0 then f_Mo_close_61 nm τ else (if 0 ≤ y then f_Mo_close_70 1000 nm y 0 τ else f_Mo_close_61 nm τ)
abbrev clK (nm y : Int32) (τ : St) : Prop := (τ.1 0 25 = 0 → k_Mo_close_61 nm τ) ∧ (¬ τ.1 0 25 = 0 → ((0 ≤ y → k_Mo_close_70 1000 nm y 0 τ) ∧ (¬ 0 ≤ y → k_Mo_close_61 nm τ)))
theorem la_M {nm : Int32} (hk : k ≤ 60) (h19 : τ.1 0 19 = nI k) : ∀ (d i fuel : Nat) (x2 y : Int32), i + d = k → d < fuel →
    ((∃ m, i ≤ m ∧ m < k ∧ τ.1 16 m = τ.1 0 25 ∧ (∀ j, m < j → j < k → ¬ τ.1 16 j = τ.1 0 25) ∧ y = nI m) ∨ ((∀ j, i ≤ j → j < k → ¬ τ.1 16 j = τ.1 0 25) ∧ y = x2)) →
    f_Mo_close_17 fuel nm x2 (nI i) τ = clE nm y τ ∧ (clK nm y τ → k_Mo_close_17 fuel nm x2 (nI i) τ) := by
  intro d
  induction d with
  | zero =>
    intro i fuel x2 y hi hf hy
    obtain ⟨fuel, rfl⟩ : ∃ k, fuel = k + 1 := ⟨fuel - 1, by omega⟩
    have e : τ.1 0 19 ≤ nI i := by rw [h19]; exact (nI_le_iff (by omega) (by omega)).mpr (by omega)
    have ey : y = x2 := by
      rcases hy with ⟨m, m1, m2, -⟩ | ⟨-, m⟩
      · omega
      · exact m
    subst ey
    refine ⟨?_, fun h => ⟨fun _ => h, fun z => absurd e z⟩⟩
    show (if τ.1 0 19 ≤ nI i then clE nm y τ else _) = _
    rw [if_pos e]
  | succ d ih =>
    intro i fuel x2 y hi hf hy
    obtain ⟨fuel, rfl⟩ : ∃ k, fuel = k + 1 := ⟨fuel - 1, by omega⟩
    have e : ¬ τ.1 0 19 ≤ nI i := fun z => by rw [h19, nI_le_iff (by omega) (by omega)] at z; omega
    have hcl : (nI i).toNatClampNeg = i := nI_clamp (by omega)
    have hin : vp_in (nI i) 60 := by rw [in_iff, i_nI (by omega)]; omega
    have ef : f_Mo_close_17 (fuel + 1) nm x2 (nI i) τ = if τ.1 16 i = τ.1 0 25 then f_Mo_close_17 fuel nm (nI i) (nI i + 1) τ else f_Mo_close_17 fuel nm x2 (nI i + 1) τ := by
      show (if τ.1 0 19 ≤ nI i then _ else (if τ.1 16 (nI i).toNatClampNeg = τ.1 0 25 then f_Mo_close_17 fuel nm (nI i) (nI i + 1) τ else f_Mo_close_17 fuel nm x2 (nI i + 1) τ)) = _
      rw [if_neg e, hcl]
    have kf : (τ.1 16 i = τ.1 0 25 → k_Mo_close_17 fuel nm (nI i) (nI i + 1) τ) → (¬ τ.1 16 i = τ.1 0 25 → k_Mo_close_17 fuel nm x2 (nI i + 1) τ) → k_Mo_close_17 (fuel + 1) nm x2 (nI i) τ := fun w1 w2 => by
      refine ⟨fun z => absurd z e, fun _ => ⟨hin, ?_⟩⟩
      rw [hcl]
      exact ⟨w1, w2⟩
    by_cases h : τ.1 16 i = τ.1 0 25
    · obtain ⟨g1, g2⟩ := ih (i + 1) fuel (nI i) y (by omega) (by omega) (by
        rcases hy with ⟨m, m1, m2, m3, m4, m5⟩ | ⟨m1, -⟩
        · by_cases e2 : m = i
          · subst e2
            exact Or.inr ⟨fun j q1 q2 => m4 j (by omega) q2, m5⟩
          · exact Or.inl ⟨m, by omega, m2, m3, m4, m5⟩
        · exact absurd h (m1 i (Nat.le_refl i) (by omega)))
      rw [nI_succ] at g1 g2
      rw [ef, if_pos h]
      exact ⟨g1, fun w => kf (fun _ => g2 w) (fun z => absurd h z)⟩
    · obtain ⟨g1, g2⟩ := ih (i + 1) fuel x2 y (by omega) (by omega) (by
        rcases hy with ⟨m, m1, m2, m3, m4, m5⟩ | ⟨m1, m2⟩
        · by_cases e2 : m = i
          · subst e2; exact absurd m3 h
          · exact Or.inl ⟨m, by omega, m2, m3, m4, m5⟩
        · exact Or.inr ⟨fun j q1 q2 => m1 j (by omega) q2, m2⟩)
      rw [nI_succ] at g1 g2
      rw [ef, if_neg h]
      exact ⟨g1, fun w => kf (fun z => absurd z h) (fun _ => g2 w)⟩
/-- the opposites of what the scope took for granted -/
theorem as_loop {nm y : Int32} : ∀ (d i fuel fuel' n r : Nat) (σ τ : St), i + d = k → d < fuel → d < fuel' → n0 ≤ 100 → n ≤ n0 + i → r ≤ i → PK n0 n r q c k f τb σ τ →
    ∃ n' r' σ' τ', n' ≤ n0 + k ∧ r' ≤ k ∧ PK n0 n' r' q c k f τb σ' τ' ∧ k_CL_joinOppositesAssumedIn_2 fuel (nI c) (nI i) σ ∧ f_CL_joinOppositesAssumedIn_2 fuel (nI c) (nI i) σ = σ' ∧
      f_Mo_close_70 fuel' nm y (nI i) τ = f_Mo_close_125 nm (f_Mo_joinAll y τ') ∧ (k_Mo_joinAll y τ' → k_Mo_close_125 nm (f_Mo_joinAll y τ') → k_Mo_close_70 fuel' nm y (nI i) τ) := by
  intro d
  induction d with
  | zero =>
    intro i fuel fuel' n r σ τ hi h1 h2 h100 hn hr hP
    obtain ⟨fuel, rfl⟩ : ∃ k, fuel = k + 1 := ⟨fuel - 1, by omega⟩
    obtain ⟨fuel', rfl⟩ : ∃ k, fuel' = k + 1 := ⟨fuel' - 1, by omega⟩
    obtain ⟨p1, p2, p3, p4⟩ := hP.2.1.2.2.2.1
    have a1 : f_St_count σ ≤ nI i := by show σ.1 31 4 ≤ _; rw [p2]; exact (nI_le_iff (by omega) (by omega)).mpr (by omega)
    have a2 : τ.1 0 19 ≤ nI i := by rw [p3]; exact (nI_le_iff (by omega) (by omega)).mpr (by omega)
    refine ⟨n, r, σ, τ, by omega, by omega, hP, ⟨trivial, fun _ => trivial, fun z => absurd a1 z⟩, ?_, ?_, fun w1 w2 => ⟨fun _ => ⟨w1, w2⟩, fun z => absurd a2 z⟩⟩
    · show (if f_St_count σ ≤ nI i then σ else _) = _
      rw [if_pos a1]
    · show (if τ.1 0 19 ≤ nI i then f_Mo_close_125 nm (f_Mo_joinAll y τ) else _) = _
      rw [if_pos a2]
  | succ d ih =>
    intro i fuel fuel' n r σ τ hi h1 h2 h100 hn hr hP
    obtain ⟨fuel, rfl⟩ : ∃ k, fuel = k + 1 := ⟨fuel - 1, by omega⟩
    obtain ⟨fuel', rfl⟩ : ∃ k, fuel' = k + 1 := ⟨fuel' - 1, by omega⟩
    have h0 := hP.1.1.2.1
    obtain ⟨-, hin25, -⟩ := hP.inner
    obtain ⟨p1, p2, p3, p4⟩ := hP.2.1.2.2.2.1
    have a1 : ¬ f_St_count σ ≤ nI i := fun z => by
      have z : σ.1 31 4 ≤ nI i := z
      rw [p2, nI_le_iff (by omega) (by omega)] at z; omega
    have a2 : ¬ τ.1 0 19 ≤ nI i := fun z => by rw [p3, nI_le_iff (by omega) (by omega)] at z; omega
    have hcl : (nI i).toNatClampNeg = i := nI_clamp (by omega)
    have hin : vp_in (nI i) 60 := by rw [in_iff, i_nI (by omega)]; omega
    obtain ⟨x1, -, x3, z, x4, x5, x6, x7, x8⟩ := p4 i (by omega)
    have z0 : ¬ nI i < 0 := nI_pos (by omega)
    have z1 : ¬ σ.1 31 4 ≤ nI i := a1
    have hh : ¬ f_St_has (nI i) σ = 0 := by
      show ¬ (if nI i < 0 then (0 : Int32) else (if σ.1 31 4 ≤ nI i then 0 else 1)) = 0
      rw [if_neg z0, if_neg z1]; decide
    have khas : k_St_has (nI i) σ := ⟨fun _ => ⟨rfl, trivial⟩, fun _ => ⟨fun _ => ⟨rfl, trivial⟩, fun _ => ⟨rfl, trivial⟩⟩⟩
    have es : f_St_scopeOf (nI i) σ = τ.1 16 i := by
      show (if f_St_has (nI i) σ = 0 then (-1 : Int32) else σ.1 34 (nI i).toNatClampNeg) = _
      rw [if_neg hh, hcl, x1]
    have ks : k_St_scopeOf (nI i) σ := ⟨khas, fun z => absurd z hh, fun _ => ⟨hin, trivial⟩⟩
    have ea : f_St_isAssumed (nI i) σ = if τ.1 17 i = 0 then 0 else 1 := by
      show (if f_St_has (nI i) σ = 0 then (0 : Int32) else (if σ.1 35 (nI i).toNatClampNeg = 0 then 0 else 1)) = _
      rw [if_neg hh, hcl, x3]
    have ka : k_St_isAssumed (nI i) σ := ⟨khas, fun z => absurd z hh, fun _ => ⟨hin, fun _ => ⟨rfl, trivial⟩, fun _ => ⟨rfl, trivial⟩⟩⟩
    have e8 : 8 * nI i = nI (8 * i) := by
      have := (nI_8 (k := i) (j := 0) (by omega)).2
      rw [nI_0, Int32.add_zero] at this
      exact this
    have eC : f_CL_joinOppositesAssumedIn_2 (fuel + 1) (nI c) (nI i) σ = if τ.1 16 i = nI c then (if τ.1 17 i = 0 then f_CL_joinOppositesAssumedIn_2 fuel (nI c) (nI i + 1) σ else f_CL_joinOppositesAssumedIn_2 fuel (nI c) (nI i + 1) (f_Ro_join (f_Te_opposite (f_St_truthOf (nI i) 0 σ) σ).1 (f_Te_opposite (f_St_truthOf (nI i) 0 σ) σ).2)) else f_CL_joinOppositesAssumedIn_2 fuel (nI c) (nI i + 1) σ := by
      show (if f_St_count σ ≤ nI i then _ else (if f_St_scopeOf (nI i) σ = nI c then (if f_St_isAssumed (nI i) σ = 0 then f_CL_joinOppositesAssumedIn_2 fuel (nI c) (nI i + 1) σ else f_CL_joinOppositesAssumedIn_2 fuel (nI c) (nI i + 1) (f_Ro_join (f_Te_opposite (f_St_truthOf (nI i) 0 σ) σ).1 (f_Te_opposite (f_St_truthOf (nI i) 0 σ) σ).2)) else f_CL_joinOppositesAssumedIn_2 fuel (nI c) (nI i + 1) σ)) = _
      rw [if_neg a1, es, ea]
      by_cases w : τ.1 17 i = 0
      · rw [if_pos w, if_pos w, if_pos rfl]
      · rw [if_neg w, if_neg w, if_neg (show ¬ (1 : Int32) = 0 by decide)]
    have eM : f_Mo_close_70 (fuel' + 1) nm y (nI i) τ = if τ.1 16 i = nI c then (if τ.1 17 i = 0 then f_Mo_close_70 fuel' nm y (nI i + 1) τ else f_Mo_close_70 fuel' nm y (nI i + 1) (f_Mo_joinAs (τ.1 15 (8 * i)) 0 τ)) else f_Mo_close_70 fuel' nm y (nI i + 1) τ := by
      show (if τ.1 0 19 ≤ nI i then _ else (if τ.1 16 (nI i).toNatClampNeg = τ.1 0 25 then (if τ.1 17 (nI i).toNatClampNeg = 0 then f_Mo_close_70 fuel' nm y (nI i + 1) τ else f_Mo_close_70 fuel' nm y (nI i + 1) (f_Mo_joinAs (τ.1 15 (8 * nI i).toNatClampNeg) 0 τ)) else f_Mo_close_70 fuel' nm y (nI i + 1) τ)) = _
      rw [if_neg a2, hcl, hin25, e8, nI_clamp (by omega)]
    have KC : (τ.1 16 i = nI c → (τ.1 17 i = 0 → k_CL_joinOppositesAssumedIn_2 fuel (nI c) (nI i + 1) σ) ∧ (¬ τ.1 17 i = 0 → k_St_truthOf (nI i) 0 σ ∧ k_Te_opposite (f_St_truthOf (nI i) 0 σ) σ ∧ k_Ro_join (f_Te_opposite (f_St_truthOf (nI i) 0 σ) σ).1 (f_Te_opposite (f_St_truthOf (nI i) 0 σ) σ).2 ∧ k_CL_joinOppositesAssumedIn_2 fuel (nI c) (nI i + 1) (f_Ro_join (f_Te_opposite (f_St_truthOf (nI i) 0 σ) σ).1 (f_Te_opposite (f_St_truthOf (nI i) 0 σ) σ).2))) → (¬ τ.1 16 i = nI c → k_CL_joinOppositesAssumedIn_2 fuel (nI c) (nI i + 1) σ) → k_CL_joinOppositesAssumedIn_2 (fuel + 1) (nI c) (nI i) σ := fun w1 w2 => by
      refine ⟨trivial, fun z => absurd z a1, fun _ => ⟨ks, fun z => ⟨ka, fun z2 => ?_, fun z2 => ?_⟩, fun z => w2 (fun w => z (es.trans w))⟩⟩
      · refine (w1 (es.symm.trans z)).1 (Classical.byContradiction fun w => ?_)
        rw [ea, if_neg w] at z2
        exact absurd z2 (by decide)
      · exact (w1 (es.symm.trans z)).2 (fun w => z2 (by rw [ea, if_pos w]))
    have KM : (τ.1 16 i = nI c → (τ.1 17 i = 0 → k_Mo_close_70 fuel' nm y (nI i + 1) τ) ∧ (¬ τ.1 17 i = 0 → k_Mo_joinAs (τ.1 15 (8 * i)) 0 τ ∧ k_Mo_close_70 fuel' nm y (nI i + 1) (f_Mo_joinAs (τ.1 15 (8 * i)) 0 τ))) → (¬ τ.1 16 i = nI c → k_Mo_close_70 fuel' nm y (nI i + 1) τ) → k_Mo_close_70 (fuel' + 1) nm y (nI i) τ := fun w1 w2 => by
      refine ⟨fun z => absurd z a2, fun _ => ⟨hin, ?_⟩⟩
      rw [hcl, hin25, e8, nI_clamp (by omega)]
      exact ⟨fun z => ⟨hin, fun z2 => (w1 z).1 z2, fun z2 => ⟨by rw [in_iff, i_nI (by omega)]; omega, (w1 z).2 z2⟩⟩, w2⟩
    rw [eC, eM]
    by_cases s1 : τ.1 16 i = nI c
    · rw [if_pos s1, if_pos s1]
      by_cases s2 : τ.1 17 i = 0
      · rw [if_pos s2, if_pos s2]
        obtain ⟨n', r', σ', τ', b1, b2, b3, b4, b5, b6, b7⟩ := ih (i + 1) fuel fuel' n r σ τ (by omega) (by omega) (by omega) h100 (by omega) (by omega) hP
        rw [nI_succ] at b4 b5 b6 b7
        exact ⟨n', r', σ', τ', b1, b2, b3, KC (fun _ => ⟨fun _ => b4, fun z => absurd s2 z⟩) (fun z => absurd s1 z), b5, b6, fun w1 w2 => KM (fun _ => ⟨fun _ => b7 w1 w2, fun z => absurd s2 z⟩) (fun z => absurd s1 z)⟩
      · rw [if_neg s2, if_neg s2]
        obtain ⟨-, hz1⟩ := x7.resolve_left s2
        obtain ⟨y1, t, y2, y3, y4⟩ := x8 0 (by omega)
        rw [Nat.add_zero] at y1 y3
        obtain ⟨t1, t2⟩ := tr_C p1 p2 (i := i) (by omega) x5 x4 (j := 0) (by omega)
        rw [nI_0, Nat.add_zero, y1, y3] at t2
        rw [nI_0] at t1
        obtain ⟨d1, d2, d3, n1, r1, σ1, τ1, f1, f2, d4, d5, d6, d7, P1, d8⟩ := hP.joinOpp (by omega) (by omega) (t := t) ⟨by omega, y4⟩
        obtain ⟨n', r', σ', τ', b1, b2, b3, b4, b5, b6, b7⟩ := ih (i + 1) fuel fuel' n1 r1 σ1 τ1 (by omega) (by omega) (by omega) h100 (by omega) (by omega) P1
        rw [nI_succ] at b4 b5 b6 b7
        rw [t2] at KC ⊢
        rw [y3] at KM ⊢
        rw [f1] at KC ⊢
        rw [f2] at KM ⊢
        exact ⟨n', r', σ', τ', b1, b2, b3, KC (fun _ => ⟨fun z => absurd z s2, fun _ => ⟨t1, d1, d2, b4⟩⟩) (fun z => absurd s1 z), b5, b6, fun w1 w2 => KM (fun _ => ⟨fun z => absurd z s2, fun _ => ⟨d3, b7 w1 w2⟩⟩) (fun z => absurd s1 z)⟩
    · rw [if_neg s1, if_neg s1]
      obtain ⟨n', r', σ', τ', b1, b2, b3, b4, b5, b6, b7⟩ := ih (i + 1) fuel fuel' n r σ τ (by omega) (by omega) (by omega) h100 (by omega) (by omega) hP
      rw [nI_succ] at b4 b5 b6 b7
      exact ⟨n', r', σ', τ', b1, b2, b3, KC (fun z => absurd z s1) (fun _ => b4), b5, b6, fun w1 w2 => KM (fun z => absurd z s1) (fun _ => b7 w1 w2)⟩
theorem chn_le {A : Nat → Int32} {m : Nat} (hA : ∀ j, 1 ≤ j → j ≤ m → ∃ a, a < j ∧ A j = nI a) (hm : m ≤ 20) : ∀ (fu s x : Nat), s ≤ m → x ∈ chn A fu s → x ≤ s := by
  intro fu
  induction fu with
  | zero => intro s x _ h; cases h
  | succ fu ih =>
    intro s x hs h
    have e : chn A (fu + 1) s = if s = 0 then [] else s :: chn A fu (A s).toNatClampNeg := rfl
    rw [e] at h
    by_cases s0 : s = 0
    · rw [if_pos s0] at h; cases h
    · rw [if_neg s0] at h
      obtain ⟨a, a1, a2⟩ := hA s (by omega) hs
      rw [a2, nI_clamp (by omega)] at h
      rcases List.mem_cons.mp h with rfl | h
      · exact Nat.le_refl _
      · have := ih a x (by omega) h
        omega
/-- the innermost scope is closed -/
theorem IV.close (h : IV n q c k f σ τ) (hc1 : 1 ≤ c) : k_Sc_closeInner σ ∧ ∃ a, a < c ∧ IV n q a k f (f_Sc_closeInner σ) (sF (sA τ 19 (τ.1 0 25) (vp_nar .boolean 1)) 0 25 (τ.1 18 (τ.1 0 25).toNatClampNeg)) := by
  obtain ⟨h1, hT, hL, hK, h2, h3, h4, hG, hF, hC, hP, hfl⟩ := h
  obtain ⟨hq, hc, c3, c4, c5, c6, c7, c8, hA, hO⟩ := hC
  have hcl : (nI c).toNatClampNeg = c := nI_clamp (by omega)
  have hin : vp_in (nI c) 21 := by rw [in_iff, i_nI (by omega)]; omega
  have hb : vp_nar .boolean 1 = 1 := by decide +kernel
  have nz : ¬ σ.1 27 4 = 0 := fun z => by
    rw [c5] at z
    have := (nI_inj (a := c) (b := 0) (by omega) (by omega)).mp (by rw [nI_0]; exact z)
    omega
  obtain ⟨e28, e30, e19, a, dd, ha, ea, hd, d1, d2⟩ := hA c hc1 hc
  have hA' : ∀ j, 1 ≤ j → j ≤ q → ∃ a, a < j ∧ τ.1 18 j = nI a := fun j q1 q2 => by
    obtain ⟨-, -, -, a, d, q3, q4, -⟩ := hA j q1 q2
    exact ⟨a, q3, q4⟩
  have eC : f_Sc_closeInner σ = sF (sA σ 30 (nI c) 1) 27 4 (nI a) := by
    show (if σ.1 27 4 = 0 then σ else sF (sA σ 30 (σ.1 27 4) (vp_nar .boolean 1)) 27 4 (σ.1 28 (σ.1 27 4).toNatClampNeg)) = _
    rw [if_neg nz, c5, hcl, hb, e28, ea]
  have eM : sF (sA τ 19 (τ.1 0 25) (vp_nar .boolean 1)) 0 25 (τ.1 18 (τ.1 0 25).toNatClampNeg) = sF (sA τ 19 (nI c) 1) 0 25 (nI a) := by
    rw [c6, hcl, hb, ea]
  refine ⟨⟨fun z => absurd z nz, fun _ => ⟨by rw [c5]; exact hin, ?_⟩⟩, a, ha, ?_⟩
  · refine ⟨?_, trivial⟩
    show vp_in (σ.1 27 4) 21
    rw [c5]; exact hin
  · rw [eC, eM]
    refine ⟨h1, hT, hL, hK, h2, h3, h4, hG, hF, ⟨hq, by omega, c3, c4, rfl, rfl, c7, ⟨?_, fun j hj => ?_⟩, fun j j1 j2 => ?_, fun j j1 j2 => ?_⟩, hP, hfl⟩
    · show upd (σ.1 30) (nI c).toNatClampNeg 1 0 = 0
      rw [upd_at, hcl, if_neg (by omega)]; exact c8.1
    · show upd (σ.1 30) (nI c).toNatClampNeg 1 j = 0 ∧ upd (τ.1 19) (nI c).toNatClampNeg 1 j = 0
      rw [upd_at, upd_at, hcl, if_neg (by omega), if_neg (by omega)]; exact c8.2 j hj
    · show σ.1 28 j = τ.1 18 j ∧ upd (σ.1 30) (nI c).toNatClampNeg 1 j = upd (τ.1 19) (nI c).toNatClampNeg 1 j ∧ (upd (τ.1 19) (nI c).toNatClampNeg 1 j = 0 ∨ upd (τ.1 19) (nI c).toNatClampNeg 1 j = 1) ∧ _
      rw [upd_at, upd_at, hcl]
      obtain ⟨b1, b2, b3, b4⟩ := hA j j1 j2
      by_cases e : j = c
      · rw [if_pos e, if_pos e]; exact ⟨b1, rfl, Or.inr rfl, b4⟩
      · rw [if_neg e, if_neg e]; exact ⟨b1, b2, b3, b4⟩
    · show upd (τ.1 19) (nI c).toNatClampNeg 1 j = 0 ↔ j ∈ chn (τ.1 18) 21 a
      rw [upd_at, hcl]
      by_cases e : j = c
      · rw [if_pos e]
        refine ⟨fun z => absurd z (by decide), fun z => ?_⟩
        have := chn_le hA' hq 21 a j (by omega) z
        omega
      · rw [if_neg e, hO j j1 j2]
        have e1 : chn (τ.1 18) 21 c = c :: chn (τ.1 18) 20 a := by
          show (if c = 0 then [] else c :: chn (τ.1 18) 20 (τ.1 18 c).toNatClampNeg) = _
          rw [if_neg (by omega), ea, nI_clamp (by omega)]
        rw [e1, chn_cong (A := τ.1 18) (B := τ.1 18) (m := q) (fun _ _ => rfl) hA' hq 20 21 a (by omega) (by omega) (by omega)]
        exact ⟨fun z => (List.mem_cons.mp z).resolve_left e, fun z => List.mem_cons_of_mem _ z⟩
abbrev al5 : Nat → Prop := fun E => E = 2 ∨ E = 3 ∨ E = 4
theorem cl_end (h : PK n0 n r q c k f τb σ τ) (hn : n ≤ 207) (hc1 : 1 ≤ c) (hf : f < 60) : k_CL_close_58 (nI c) σ ∧ k_Mo_close_125 1074 τ ∧ RES n0 τb (f_CL_close_58 (nI c) σ) (f_Mo_close_125 1074 τ) cd_close al5 := by
  obtain ⟨i1, i2, i3⟩ := h.inner
  obtain ⟨p1, p2, p3, p4, p5, p6⟩ := h
  obtain ⟨hq, hc, c3, c4, c5, c6, c7, c8, hA, hO⟩ := p2.2.2.1
  obtain ⟨e28, e30, e19, a, dd, ha, ea, -⟩ := hA c hc1 hc
  have hcl : (nI c).toNatClampNeg = c := nI_clamp (by omega)
  have hin : vp_in (nI c) 21 := by rw [in_iff, i_nI (by omega)]; omega
  have z0 : ¬ nI c < 0 := nI_pos (by omega)
  have z1 : ¬ σ.1 27 3 ≤ nI c := fun z => by rw [c3, nI_le_iff (by omega) (by omega)] at z; omega
  have hh : ¬ f_Sc_has (nI c) σ = 0 := by
    show ¬ (if nI c < 0 then (0 : Int32) else (if σ.1 27 3 ≤ nI c then 0 else 1)) = 0
    rw [if_neg z0, if_neg z1]; decide
  have kh : k_Sc_has (nI c) σ := ⟨fun _ => ⟨rfl, trivial⟩, fun _ => ⟨fun _ => ⟨rfl, trivial⟩, fun _ => ⟨rfl, trivial⟩⟩⟩
  have ear : f_Sc_around (nI c) σ = nI a := by
    show (if f_Sc_has (nI c) σ = 0 then (0 : Int32) else σ.1 28 (nI c).toNatClampNeg) = _
    rw [if_neg hh, hcl, e28, ea]
  have em : τ.1 18 (τ.1 0 25).toNatClampNeg = nI a := by rw [i2, hcl, ea]
  obtain ⟨d1, d2, hc⟩ := enter_sim (asm := 0) (nm := 1074) (c3 := 2) (c4 := 3) (s := a) p1 p2 hn p5 (by omega) (Or.inl rfl) p6 (fun _ => fs_3_1074 τ) (fs_4_1074 τ)
  have KC : (∀ x, (f_CL_enterRow (nI a) 0 σ).1 = .inl x → k_CL_close_71 x (f_CL_enterRow (nI a) 0 σ).2) → k_CL_close_58 (nI c) σ := fun g => by
    refine ⟨⟨kh, fun z => absurd z hh, fun _ => ⟨hin, trivial⟩⟩, ?_⟩
    rw [ear]; exact ⟨d1, g⟩
  have KM : k_Mo_close_139 (f_Mo_enter (nI a) 1074 τ).1 (f_Mo_enter (nI a) 1074 τ).2 → k_Mo_close_125 1074 τ := fun g => by
    refine ⟨by rw [i2]; exact hin, ?_⟩
    rw [em]; exact ⟨d2, g⟩
  have eC : f_CL_close_58 (nI c) σ = xb (f_CL_enterRow (nI a) 0 σ) (fun x u => f_CL_close_71 x u) := by
    show xb (f_CL_enterRow (f_Sc_around (nI c) σ) 0 σ) (fun x u => f_CL_close_71 x u) = _
    rw [ear]
  have eM : f_Mo_close_125 1074 τ = f_Mo_close_139 (f_Mo_enter (nI a) 1074 τ).1 (f_Mo_enter (nI a) 1074 τ).2 := by
    show f_Mo_close_139 (f_Mo_enter (τ.1 18 (τ.1 0 25).toNatClampNeg) 1074 τ).1 (f_Mo_enter (τ.1 18 (τ.1 0 25).toNatClampNeg) 1074 τ).2 = _
    rw [em]
  have ref : ∀ (E : Nat) (x : Int32), ¬ x ≤ 0 → cd_close E = x → al5 E → f_CL_enterRow (nI a) 0 σ = (.inr E, un σ) → f_Mo_enter (nI a) 1074 τ = (0, fl x τ) → k_CL_close_58 (nI c) σ ∧ k_Mo_close_125 1074 τ ∧ RES n0 τb (f_CL_close_58 (nI c) σ) (f_Mo_close_125 1074 τ) cd_close al5 := fun E x hx hcd hal f1 f2 => by
    have nx : ¬ (fl x τ).1 0 0 ≤ 0 := hx
    refine ⟨KC (fun y hy => ?_), KM ?_, ?_⟩
    · rw [f1] at hy; cases hy
    · rw [f2]; exact ⟨fun z => absurd z nx, fun _ => trivial⟩
    · rw [eC, eM, f1, f2]
      show RES n0 τb (.inr E, un σ) (if (fl x τ).1 0 0 ≤ 0 then _ else (0, fl x τ)) _ _
      rw [if_neg nx]
      exact res_ref p1.1 p2 p5 hf p3 hcd (fun z => hx (by rw [z]; decide)) hal
  rcases hc with ⟨f1, f2, -⟩ | ⟨f1, f2⟩ | ⟨σ', τ', f1, f2, f3, f4, f5, f6, f7, f8, f9⟩
  · exact ref 3 2 (by decide) rfl (Or.inr (Or.inl rfl)) f1 f2
  · exact ref 4 3 (by decide) rfl (Or.inr (Or.inr rfl)) f1 f2
  · have hI : IV n q c (k + 1) f σ' τ' := f9 τ' (fun _ _ => rfl) (fun _ _ => rfl) f7
    obtain ⟨kc, b, hb, hI2⟩ := hI.close hc1
    have c0 : τ'.1 0 0 = 0 := f5.trans p4
    have cle : τ'.1 0 0 ≤ 0 := by rw [c0]; decide
    have i25 : τ'.1 0 25 = nI c := hI.2.2.2.2.2.2.2.2.2.1.2.2.2.2.2.1
    refine ⟨KC (fun y hy => ?_), KM ?_, ?_⟩
    · rw [f1]; exact ⟨kc, trivial⟩
    · rw [f2]
      refine ⟨fun _ => ⟨by rw [i25]; exact hin, ?_, trivial⟩, fun z => absurd cle z⟩
      show vp_in (τ'.1 0 25) 21
      rw [i25]; exact hin
    · rw [eC, eM, f1, f2]
      show RES n0 τb (.inl (nI k), f_Sc_closeInner σ') (if τ'.1 0 0 ≤ 0 then (nI k, sF (sA τ' 19 (τ'.1 0 25) (vp_nar .boolean 1)) 0 25 (τ'.1 18 (τ'.1 0 25).toNatClampNeg)) else _) _ _
      rw [if_pos cle]
      refine ⟨⟨fun x hx => (by cases hx; exact ⟨c0, rfl⟩), fun E hE => (by cases hE)⟩, fun E hE => (by cases hE), ⟨n, q, b, k + 1, f, p1.1.2.1, hI2⟩, fun c1 q1 q2 j hj => ?_⟩
      have w : (sF (sA τ' 19 (τ'.1 0 25) (vp_nar .boolean 1)) 0 25 (τ'.1 18 (τ'.1 0 25).toNatClampNeg)).1 c1 j = τ'.1 c1 j := by
        show pu (pu τ'.1 19 _) 0 _ c1 j = _
        rw [pu_at, if_neg (by omega), pu_at, if_neg (by omega)]
      show (sF (sA τ' 19 (τ'.1 0 25) (vp_nar .boolean 1)) 0 25 (τ'.1 18 (τ'.1 0 25).toNatClampNeg)).1 c1 j = τb.1 c1 j
      rw [w, f6 c1 q1 q2]; exact p3 c1 q1 q2 j hj
theorem op_close (h : IV n q c k f σ τ) : k_CL_close σ ∧ k_Mo_close τ ∧ RES n τ (f_CL_close σ) (f_Mo_close τ) cd_close al5 := by
  have hn := h.1
  by_cases hf : f < 60
  · obtain ⟨e1, e2⟩ := (op_shut h).1 hf
    have P0 := PK.start h
    obtain ⟨i1, i2, i3⟩ := P0.inner
    have i1 : σ.1 27 4 = nI c := i1
    have i2 : (bg τ).1 0 25 = nI c := i2
    obtain ⟨hq, -⟩ := P0.2.1.2.2.1
    obtain ⟨p1, p2, p3, p4⟩ := P0.2.1.2.2.2.1
    have p2 : σ.1 31 4 = nI k := p2
    have eC : f_CL_close σ = f_CL_close_26 (nI c) (f_St_latestIn_7 1000 (nI c) (nI k - 1) σ) σ := by
      show (if f_CL_isShut σ = 0 then f_CL_close_26 (σ.1 27 4) (f_St_latestIn_7 1000 (σ.1 27 4) (σ.1 31 4 - 1) σ) σ else _) = _
      rw [if_pos e1, i1, p2]
    have eM : f_Mo_close τ = f_Mo_close_17 1000 1074 (-1) (nI 0) (bg τ) := by
      show f_Mo_close_4 (f_Mo_begin τ).1 (f_Mo_begin τ).2 = _
      rw [e2]
      show (if (0 : Int32) = 0 then f_Mo_close_17 1000 1074 (-1) 0 (bg τ) else _) = _
      rw [if_pos rfl, nI_0]
    have KC : k_St_latestIn_7 1000 (nI c) (nI k - 1) σ → k_CL_close_26 (nI c) (f_St_latestIn_7 1000 (nI c) (nI k - 1) σ) σ → k_CL_close σ := fun w1 w2 => by
      refine ⟨k_shut σ, fun _ => ⟨trivial, ?_, ?_⟩, fun _ => trivial⟩
      · show k_St_latestIn_7 1000 (σ.1 27 4) (σ.1 31 4 - 1) σ
        rw [i1, p2]; exact w1
      · show k_CL_close_26 (σ.1 27 4) (f_St_latestIn_7 1000 (σ.1 27 4) (σ.1 31 4 - 1) σ) σ
        rw [i1, p2]; exact w2
    have KM : k_Mo_close_17 1000 1074 (-1) (nI 0) (bg τ) → k_Mo_close τ := fun w => by
      refine ⟨k_begin τ, ?_⟩
      rw [e2]
      rw [nI_0] at w
      exact ⟨fun _ => w, fun _ => trivial⟩
    have k35 : k_CL_close_35 σ := ⟨kthr2 σ, fun _ _ => trivial⟩
    have e35 : f_CL_close_35 σ = (.inr 2, un σ) := rfl
    have k61 : k_Mo_close_61 1074 (bg τ) := ⟨(fs_2_1074 _).1, trivial⟩
    have e61 : f_Mo_close_61 1074 (bg τ) = (0, fl 1 (bg τ)) := by
      show ((f_Mo_fails 2 1074 (bg τ)).1, (f_Mo_fails 2 1074 (bg τ)).2) = _
      rw [(fs_2_1074 _).2]
    have R2 : RES n τ (.inr 2, un σ) (0, fl 1 (bg τ)) cd_close al5 := h.refuse0 hf rfl (by decide) (Or.inl rfl)
    obtain ⟨l1, l2⟩ := la_C (σ := σ) (T := (bg τ).1 16) p1 (fun i hi => (p4 i hi).1) (nI c) k 1000 (Nat.le_refl k) (by omega)
    have cz : nI c = 0 ↔ c = 0 := by
      have := nI_inj (a := c) (b := 0) (by omega) (by omega)
      rw [nI_0] at this; exact this
    rcases l2 with ⟨m, m1, m2, m3, m4⟩ | ⟨m1, m2⟩
    · obtain ⟨g1, g2⟩ := la_M (nm := 1074) (τ := bg τ) p1 p3 k 0 1000 (-1) (nI m) (by omega) (by omega) (Or.inl ⟨m, by omega, m1, by rw [i2]; exact m2, by rw [i2]; exact m3, rfl⟩)
      rw [eC, eM, g1, m4]
      have nm1 : ¬ nI m = -1 := nI_ne_m1 (by omega)
      have mp : (0 : Int32) ≤ nI m := by rw [Int32.le_iff_toInt_le, Int32.toInt_zero, i_nI (by omega)]; omega
      by_cases hc0 : c = 0
      · have z1 : nI c = 0 := cz.mpr hc0
        have z2 : (bg τ).1 0 25 = 0 := i2.trans z1
        refine ⟨KC l1 (by rw [m4]; exact ⟨fun _ => k35, fun z => absurd z1 z⟩), KM (g2 ⟨fun _ => k61, fun z => absurd z2 z⟩), ?_⟩
        show RES n τ (if nI c = 0 then f_CL_close_35 σ else _) (if (bg τ).1 0 25 = 0 then f_Mo_close_61 1074 (bg τ) else _) _ _
        rw [if_pos z1, if_pos z2, e35, e61]; exact R2
      · have z1 : ¬ nI c = 0 := fun z => hc0 (cz.mp z)
        have z2 : ¬ (bg τ).1 0 25 = 0 := fun z => z1 (i2.symm.trans z)
        obtain ⟨n', r', σ', τ', b1, b2, b3, b4, b5, b6, b7⟩ := as_loop (nm := 1074) (y := nI m) k 0 1000 1000 n 0 (sF σ 25 1 0) (bg τ) (by omega) (by omega) (by omega) hn (by omega) (by omega) P0
        rw [nI_0] at b4 b5 b6 b7
        obtain ⟨a1, a2, r2, σ2, τ2, x1, x2, a3, a4, a5, a6⟩ := b3.all m1 (by omega) (by omega)
        obtain ⟨d1, d2, d3⟩ := cl_end a5 (by omega) (by omega) hf
        refine ⟨KC l1 ?_, KM (g2 ⟨fun z => absurd z z2, fun _ => ⟨fun _ => b7 a2 (by rw [x2]; exact d2), fun z => absurd mp z⟩⟩), ?_⟩
        · rw [m4]
          refine ⟨fun z => absurd z z1, fun _ => ⟨fun z => absurd z nm1, fun _ => ⟨trivial, b4, ?_⟩⟩⟩
          show k_CL_close_52 (nI c) (nI m) (f_CL_joinOppositesAssumedIn_2 1000 (nI c) 0 (sF σ 25 1 0))
          rw [b5]
          refine ⟨a1, ?_⟩
          rw [x1]; exact d1
        · show RES n τ (if nI c = 0 then _ else (if nI m = -1 then _ else f_CL_close_52 (nI c) (nI m) (f_CL_joinOppositesAssumedIn_2 1000 (nI c) 0 (sF σ 25 1 0)))) (if (bg τ).1 0 25 = 0 then _ else (if 0 ≤ nI m then f_Mo_close_70 1000 1074 (nI m) 0 (bg τ) else _)) _ _
          rw [if_neg z1, if_neg nm1, if_neg z2, if_pos mp, b5, b6]
          show RES n τ (f_CL_close_58 (nI c) (f_CL_joinAllBut (nI m) (-1) σ')) _ _ _
          rw [x1, x2]; exact d3
    · obtain ⟨g1, g2⟩ := la_M (nm := 1074) (τ := bg τ) p1 p3 k 0 1000 (-1) (-1) (by omega) (by omega) (Or.inr ⟨fun j _ q2 => by rw [i2]; exact m1 j q2, rfl⟩)
      have np : ¬ (0 : Int32) ≤ -1 := by decide
      rw [eC, eM, g1, m2]
      refine ⟨KC l1 (by rw [m2]; exact ⟨fun _ => k35, fun _ => ⟨fun _ => k35, fun z => absurd rfl z⟩⟩), KM (g2 ⟨fun _ => k61, fun _ => ⟨fun z => absurd z np, fun _ => k61⟩⟩), ?_⟩
      have x1 : f_CL_close_26 (nI c) (-1) σ = (.inr 2, un σ) := by
        show (if nI c = 0 then f_CL_close_35 σ else (if (-1 : Int32) = -1 then f_CL_close_35 σ else _)) = _
        by_cases z : nI c = 0
        · rw [if_pos z, e35]
        · rw [if_neg z, if_pos rfl, e35]
      have x2 : clE 1074 (-1) (bg τ) = (0, fl 1 (bg τ)) := by
        show (if (bg τ).1 0 25 = 0 then f_Mo_close_61 1074 (bg τ) else (if (0 : Int32) ≤ -1 then _ else f_Mo_close_61 1074 (bg τ))) = _
        by_cases z : (bg τ).1 0 25 = 0
        · rw [if_pos z, e61]
        · rw [if_neg z, if_neg np, e61]
      rw [x1, x2]; exact R2
  · obtain ⟨e1, e2⟩ := (op_shut h).2 hf
    have eC : f_CL_close σ = (.inl (-1), σ) := by
      show (if f_CL_isShut σ = 0 then _ else _) = _
      rw [if_neg e1]
    have eM : f_Mo_close τ = (-1, bg τ) := by
      show f_Mo_close_4 (f_Mo_begin τ).1 (f_Mo_begin τ).2 = _
      rw [e2]
      show (if (1 : Int32) = 0 then _ else _) = _
      rw [if_neg (by decide)]
    refine ⟨⟨k_shut σ, fun z => absurd z e1, fun _ => trivial⟩, ⟨k_begin τ, ?_⟩, ?_⟩
    · rw [e2]; exact ⟨fun z => absurd z (show ¬ (1 : Int32) = 0 by decide), fun _ => trivial⟩
    · rw [eC, eM]; exact res_shut h
end CLO
