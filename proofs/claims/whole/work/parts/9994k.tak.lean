-- which truths are taken
theorem ci99 (f : Int32) : ((99 : Int32) < f ↔ 99 < f.toInt) ∧ (f < (-99 : Int32) ↔ f.toInt < -99) ∧ ((-99 : Int32) ≤ f ↔ -99 ≤ f.toInt) ∧ (f < 0 ↔ f.toInt < 0) ∧ (f ≤ 0 ↔ f.toInt ≤ 0) ∧ (0 < f ↔ 0 < f.toInt) := by
  have d1 : (99 : Int32).toInt = 99 := by decide
  have d2 : (-99 : Int32).toInt = -99 := by decide
  have d0 : (0 : Int32).toInt = 0 := by decide
  refine ⟨?_, ?_, ?_, ?_, ?_, ?_⟩
  · rw [Int32.lt_iff_toInt_lt, d1]
  · rw [Int32.lt_iff_toInt_lt, d2]
  · rw [Int32.le_iff_toInt_le, d2]
  · rw [Int32.lt_iff_toInt_lt, d0]
  · rw [Int32.le_iff_toInt_le, d0]
  · rw [Int32.lt_iff_toInt_lt, d0]
section TAK
variable {n q c k f : Nat} {σ τ : St}
/-- what is inside a truth -/
theorem ins_ex (h : IV n q c k f σ τ) {t : Nat} (ht : t < n) : ∃ d, d < n ∧ (τ.1 5 t = 7 → τ.1 8 t = nI d) ∧ (¬ τ.1 5 t = 7 → d = t) ∧ k_Ba_inside (nI t) σ ∧ f_Ba_inside (nI t) σ = nI d := by
  obtain ⟨⟨ek, -, ef, -, -⟩, kk, -, kf, -, -⟩ := h.acc ht
  have kin : k_Ba_inside (nI t) σ := ⟨kk, fun _ => ⟨kf, trivial⟩, fun _ => trivial⟩
  by_cases z : τ.1 5 t = 7
  · have hK := h.2.2.2.1.1 t ht
    have hW := (h.2.1.2.2 t ht).2
    obtain ⟨d, d1, d2⟩ := hW.1.resolve_left (hK.2.2.2.2.2.2.1 z).1
    refine ⟨d, by omega, fun _ => d2, fun w => absurd z w, kin, ?_⟩
    show (if f_Te_kindOf (nI t) σ = 7 then f_Te_firstOf (nI t) σ else nI t) = _
    rw [ek, if_pos z, ef, d2]
  · refine ⟨t, ht, fun w => absurd w z, fun _ => rfl, kin, ?_⟩
    show (if f_Te_kindOf (nI t) σ = 7 then f_Te_firstOf (nI t) σ else nI t) = _
    rw [ek, if_neg z]
theorem tak (h : IV n q c k f σ τ) {t : Nat} (g : Int32) (ht : t < n) : k_Ba_takes (nI t) g σ ∧ k_Mo_formed (nI t) g (bg τ) ∧ (f_Ba_takes (nI t) g σ = 0 ↔ f_Mo_formed (nI t) g (bg τ) = 0) ∧
    (¬ f_Ba_takes (nI t) g σ = 0 → (-99 ≤ g.toInt ∧ g.toInt ≤ 99) ∧ τ.1 6 t = 0 ∧ k_Ba_inside (nI t) σ ∧ ∃ a b, SD n τ t a b ∧ τ.1 6 a = 1 ∧ τ.1 6 b = 1 ∧ opA (nI t) σ = nI a ∧ opB (nI t) σ = nI b) := by
  have hn := h.1
  obtain ⟨d, hd, d1, d2, kin, ein⟩ := ins_ex h ht
  obtain ⟨⟨ek, -, -, -, -⟩, kk, -, kf, -, -⟩ := h.acc ht
  obtain ⟨⟨ekd, -, efd, esd, -⟩, kkd, -, kfd, -, -⟩ := h.acc hd
  have hKt := h.2.2.2.1.1 t ht
  have hKd := h.2.2.2.1.1 d hd
  have hWd := (h.2.1.2.2 d hd).2
  have hcl : (nI t).toNatClampNeg = t := nI_clamp (by omega)
  have hin : vp_in (nI t) 400 := by rw [in_iff, i_nI (by omega)]; omega
  have hcd : (nI d).toNatClampNeg = d := nI_clamp (by omega)
  have hid : vp_in (nI d) 400 := by rw [in_iff, i_nI (by omega)]; omega
  have n1 : ¬ nI t = -1 := nI_ne_m1 (by omega)
  have p0 : 0 ≤ nI t := (dx_pos (Or.inr ⟨t, by omega, rfl⟩)).mpr (nI_pos (by omega))
  have d10 : ¬ (1 : Int32) = 0 := by decide
  obtain ⟨i1, i2, i3, i4, -, -⟩ := ci99 g
  -- the sides
  have sid : τ.1 5 d = 5 ∨ τ.1 5 d = 6 → ∃ u v, u < d ∧ v < d ∧ τ.1 8 d = nI u ∧ τ.1 9 d = nI v := fun z => by
    have n8 : ¬ τ.1 8 d = -1 ∧ ¬ τ.1 9 d = -1 := by
      rcases z with z | z
      · exact ⟨(hKd.2.2.2.2.1 z).1, (hKd.2.2.2.2.1 z).2.1⟩
      · exact ⟨(hKd.2.2.2.2.2.1 z).1, (hKd.2.2.2.2.2.1 z).2.1⟩
    obtain ⟨u, u1, u2⟩ := hWd.1.resolve_left n8.1
    obtain ⟨v, v1, v2⟩ := hWd.2.1.resolve_left n8.2
    exact ⟨u, v, u1, v1, u2, v2⟩
  let P : Prop := τ.1 5 t = 7 ∧ τ.1 5 d = 5 ∧ τ.1 6 (τ.1 8 d).toNatClampNeg = 1
  -- the opposed equation
  have esrt : τ.1 5 d = 5 → f_Te_sortOf (f_Te_firstOf (nI d) σ) σ = τ.1 6 (τ.1 8 d).toNatClampNeg := fun z => by
    obtain ⟨u, v, u1, v1, u2, v2⟩ := sid (Or.inl z)
    obtain ⟨⟨-, es, -⟩, -⟩ := h.acc (t := u) (by omega)
    rw [efd, u2, es, nI_clamp (by omega)]
  have ksrt : ∀ x, k_Te_sortOf x σ := fun x => k_acc h.2.1.1 (by omega) x
  have eop : (f_Ba_isOpposedEquation (nI t) σ = 0 ↔ ¬ P) ∧ k_Ba_isOpposedEquation (nI t) σ := by
    refine ⟨?_, kin, ?_⟩
    · show (if f_Te_kindOf (nI t) σ = 7 then (if f_Te_kindOf (f_Ba_inside (nI t) σ) σ = 5 then (if f_Te_sortOf (f_Te_firstOf (f_Ba_inside (nI t) σ) σ) σ = 1 then (1 : Int32) else 0) else 0) else 0) = 0 ↔ _
      rw [ein, ek, ekd]
      by_cases z1 : τ.1 5 t = 7
      · rw [if_pos z1]
        by_cases z2 : τ.1 5 d = 5
        · rw [if_pos z2, esrt z2]
          by_cases z3 : τ.1 6 (τ.1 8 d).toNatClampNeg = 1
          · rw [if_pos z3]
            exact ⟨fun w => absurd w d10, fun w => absurd ⟨z1, z2, z3⟩ w⟩
          · rw [if_neg z3]
            exact ⟨fun _ w => z3 w.2.2, fun _ => rfl⟩
        · rw [if_neg z2]
          exact ⟨fun _ w => z2 w.2.1, fun _ => rfl⟩
      · rw [if_neg z1]
        exact ⟨fun _ w => z1 w.1, fun _ => rfl⟩
    · rw [ein]
      exact ⟨kk, fun _ => ⟨kkd, fun _ => ⟨kfd, ksrt _, fun _ => ⟨rfl, trivial⟩, fun _ => ⟨rfl, trivial⟩⟩, fun _ => ⟨rfl, trivial⟩⟩, fun _ => ⟨rfl, trivial⟩⟩
  let Cn : Prop := (-99 ≤ g.toInt ∧ g.toInt ≤ 99) ∧ (P ∨ (¬ g.toInt < 0 ∧ τ.1 5 d = 6))
  have eT : f_Ba_takes (nI t) g σ = 0 ↔ ¬ Cn := by
    show (if nI t = -1 then (1 : Int32) else (if 99 < g then 0 else (if (-99) ≤ g then (if f_Ba_isOpposedEquation (nI t) σ = 0 then (if g < 0 then 0 else (if f_Te_kindOf (f_Ba_inside (nI t) σ) σ = 6 then 1 else 0)) else 1) else 0))) = 0 ↔ _
    rw [if_neg n1, ein, ekd]
    by_cases z1 : 99 < g
    · rw [if_pos z1]
      exact ⟨fun _ w => by have := i1.mp z1; have := w.1; omega, fun _ => rfl⟩
    · have y1 : ¬ 99 < g.toInt := fun w => z1 (i1.mpr w)
      rw [if_neg z1]
      by_cases z2 : (-99 : Int32) ≤ g
      · have y2 := i3.mp z2
        rw [if_pos z2]
        by_cases z3 : f_Ba_isOpposedEquation (nI t) σ = 0
        · have y3 := eop.1.mp z3
          rw [if_pos z3]
          by_cases z4 : g < 0
          · have y4 := i4.mp z4
            rw [if_pos z4]
            refine ⟨fun _ w => ?_, fun _ => rfl⟩
            rcases w.2 with w | w
            · exact y3 w
            · exact w.1 y4
          · have y4 : ¬ g.toInt < 0 := fun w => z4 (i4.mpr w)
            rw [if_neg z4]
            by_cases z5 : τ.1 5 d = 6
            · rw [if_pos z5]
              exact ⟨fun w => absurd w d10, fun w => absurd ⟨⟨by omega, by omega⟩, Or.inr ⟨y4, z5⟩⟩ w⟩
            · rw [if_neg z5]
              refine ⟨fun _ w => ?_, fun _ => rfl⟩
              rcases w.2 with w | w
              · exact y3 w
              · exact z5 w.2
        · have y3 : P := Classical.not_not.mp (fun w => z3 (eop.1.mpr w))
          rw [if_neg z3]
          exact ⟨fun w => absurd w d10, fun w => absurd ⟨⟨by omega, by omega⟩, Or.inl y3⟩ w⟩
      · have y2 : ¬ -99 ≤ g.toInt := fun w => z2 (i3.mpr w)
        rw [if_neg z2]
        exact ⟨fun _ w => y2 w.1.1, fun _ => rfl⟩
  have kT : k_Ba_takes (nI t) g σ := ⟨fun z => absurd z n1, fun _ => ⟨fun _ => trivial, fun _ => ⟨fun _ => ⟨eop.2, fun _ => ⟨fun _ => ⟨rfl, trivial⟩, fun _ => ⟨kin, by rw [ein]; exact kkd, fun _ => ⟨rfl, trivial⟩, fun _ => ⟨rfl, trivial⟩⟩⟩, fun _ => ⟨rfl, trivial⟩⟩, fun _ => trivial⟩⟩⟩
  -- the reference
  have c5 : ∀ j, (bg τ).1 5 j = τ.1 5 j := fun _ => rfl
  have e27 : f_Mo_formed (nI t) g (bg τ) = f_Mo_formed_27 (nI t) g (nI d) (bg τ) ∧ (k_Mo_formed_27 (nI t) g (nI d) (bg τ) → k_Mo_formed (nI t) g (bg τ)) := by
    by_cases z : τ.1 5 t = 7
    · have z' : (bg τ).1 5 (nI t).toNatClampNeg = 7 := by rw [hcl]; exact z
      have z8 : (bg τ).1 8 (nI t).toNatClampNeg = nI d := by rw [hcl]; exact d1 z
      refine ⟨?_, fun w => ⟨fun _ => ⟨hin, fun _ => ⟨hin, by rw [z8]; exact w⟩, fun y => absurd z' y⟩, fun y => absurd p0 y⟩⟩
      rw [f_Mo_formed, if_pos p0, if_pos z', z8]
    · have z' : ¬ (bg τ).1 5 (nI t).toNatClampNeg = 7 := by rw [hcl]; exact z
      have e := d2 z
      subst e
      refine ⟨?_, fun w => ⟨fun _ => ⟨hin, fun y => absurd y z', fun _ => w⟩, fun y => absurd p0 y⟩⟩
      rw [f_Mo_formed, if_pos p0, if_neg z']
  have q7 : (bg τ).1 5 (nI t).toNatClampNeg = τ.1 5 t := by rw [hcl]; rfl
  have q5 : (bg τ).1 5 (nI d).toNatClampNeg = τ.1 5 d := by rw [hcd]; rfl
  have q6 : (bg τ).1 6 ((bg τ).1 8 (nI d).toNatClampNeg).toNatClampNeg = τ.1 6 (τ.1 8 d).toNatClampNeg := by rw [hcd]; rfl
  have k107 : k_Mo_formed_107 (bg τ) := ⟨rfl, trivial⟩
  have k91 : k_Mo_formed_91 g (bg τ) := ⟨fun _ => k107, fun _ => ⟨fun _ => k107, fun _ => ⟨rfl, trivial⟩⟩⟩
  have k69 : ∀ s : Int32, k_Mo_formed_69 g (nI d) s (bg τ) := fun s => ⟨fun _ => ⟨hid, fun _ => ⟨fun _ => k107, fun _ => k91⟩, fun _ => k107⟩, fun _ => k91⟩
  have kF : k_Mo_formed (nI t) g (bg τ) := e27.2 ⟨hin, fun _ => ⟨hid, fun y => ⟨hid, by
    obtain ⟨u, v, u1, v1, u2, v2⟩ := sid (Or.inl (q5.symm.trans y))
    have : (bg τ).1 8 (nI d).toNatClampNeg = nI u := by rw [hcd]; exact u2
    rw [this, in_iff, i_nI (by omega)]; omega, fun _ => k69 1, fun _ => k69 0⟩, fun _ => k69 0⟩, fun _ => k69 0⟩
  have e91 : f_Mo_formed_91 g (bg τ) = 0 ↔ ¬ (-99 ≤ g.toInt ∧ g.toInt ≤ 99) := by
    show (if g < -99 then (0 : Int32) else (if 99 < g then 0 else 1)) = 0 ↔ _
    by_cases z1 : g < -99
    · have := i2.mp z1
      rw [if_pos z1]
      exact ⟨fun _ w => by omega, fun _ => rfl⟩
    · have y1 : ¬ g.toInt < -99 := fun w => z1 (i2.mpr w)
      rw [if_neg z1]
      by_cases z2 : 99 < g
      · have := i1.mp z2
        rw [if_pos z2]
        exact ⟨fun _ w => by omega, fun _ => rfl⟩
      · have y2 : ¬ 99 < g.toInt := fun w => z2 (i1.mpr w)
        rw [if_neg z2]
        exact ⟨fun w => absurd w d10, fun w => absurd ⟨by omega, by omega⟩ w⟩
  have e69 : ¬ P → (f_Mo_formed_69 g (nI d) 0 (bg τ) = 0 ↔ ¬ Cn) := fun hP => by
    show (if (0 : Int32) = 0 then (if (bg τ).1 5 (nI d).toNatClampNeg = 6 then (if g < 0 then (0 : Int32) else f_Mo_formed_91 g (bg τ)) else 0) else f_Mo_formed_91 g (bg τ)) = 0 ↔ _
    rw [if_pos rfl, q5]
    by_cases z5 : τ.1 5 d = 6
    · rw [if_pos z5]
      by_cases z4 : g < 0
      · have y4 := i4.mp z4
        rw [if_pos z4]
        refine ⟨fun _ w => ?_, fun _ => rfl⟩
        rcases w.2 with w | w
        · exact hP w
        · exact w.1 y4
      · have y4 : ¬ g.toInt < 0 := fun w => z4 (i4.mpr w)
        rw [if_neg z4, e91]
        exact ⟨fun w w2 => w w2.1, fun w w2 => w ⟨w2, Or.inr ⟨y4, z5⟩⟩⟩
    · rw [if_neg z5]
      refine ⟨fun _ w => ?_, fun _ => rfl⟩
      rcases w.2 with w | w
      · exact hP w
      · exact z5 w.2
  have eF : f_Mo_formed (nI t) g (bg τ) = 0 ↔ ¬ Cn := by
    rw [e27.1]
    show (if (bg τ).1 5 (nI t).toNatClampNeg = 7 then (if (bg τ).1 5 (nI d).toNatClampNeg = 5 then (if (bg τ).1 6 ((bg τ).1 8 (nI d).toNatClampNeg).toNatClampNeg = 1 then f_Mo_formed_69 g (nI d) 1 (bg τ) else f_Mo_formed_69 g (nI d) 0 (bg τ)) else f_Mo_formed_69 g (nI d) 0 (bg τ)) else f_Mo_formed_69 g (nI d) 0 (bg τ)) = 0 ↔ _
    rw [q7, q5, q6]
    by_cases z1 : τ.1 5 t = 7
    · rw [if_pos z1]
      by_cases z2 : τ.1 5 d = 5
      · rw [if_pos z2]
        by_cases z3 : τ.1 6 (τ.1 8 d).toNatClampNeg = 1
        · rw [if_pos z3]
          show (if (1 : Int32) = 0 then _ else f_Mo_formed_91 g (bg τ)) = 0 ↔ _
          rw [if_neg d10, e91]
          exact ⟨fun w w2 => w w2.1, fun w w2 => w ⟨w2, Or.inl ⟨z1, z2, z3⟩⟩⟩
        · rw [if_neg z3]; exact e69 (fun w => z3 w.2.2)
      · rw [if_neg z2]; exact e69 (fun w => z2 w.2.1)
    · rw [if_neg z1]; exact e69 (fun w => z1 w.1)
  refine ⟨kT, kF, eT.trans eF.symm, fun hne => ?_⟩
  have hC : Cn := Classical.not_not.mp (fun w => hne (eT.mpr w))
  have k56 : τ.1 5 d = 5 ∨ τ.1 5 d = 6 := by
    rcases hC.2 with w | w
    · exact Or.inl w.2.1
    · exact Or.inr w.2
  obtain ⟨u, v, u1, v1, u2, v2⟩ := sid k56
  have po : ∀ j, j < d → pO (τ.1 6) (nI j) = τ.1 6 j := fun j hj => by
    unfold pO
    rw [if_neg (nI_ne_m1 (by omega)), nI_clamp (by omega)]
  have s1 : τ.1 6 u = 1 ∧ τ.1 6 v = 1 := by
    rcases hC.2 with w | w
    · obtain ⟨-, -, -, -, y⟩ := hKd.2.2.2.2.1 w.2.1
      rw [u2, v2, po u u1, po v v1] at y
      have y2 := w.2.2
      rw [u2, nI_clamp (by omega)] at y2
      exact ⟨y2, y.symm.trans y2⟩
    · obtain ⟨-, -, -, -, y1, y2⟩ := hKd.2.2.2.2.2.1 w.2
      rw [u2, po u u1] at y1
      rw [v2, po v v1] at y2
      exact ⟨y1, y2⟩
  have s0 : τ.1 6 t = 0 := by
    by_cases z : τ.1 5 t = 7
    · exact (hKt.2.2.2.2.2.2.1 z).2.2.2.1
    · have e := d2 z
      rcases hC.2 with w | w
      · exact absurd w.1 z
      · rw [e] at w
        exact (hKt.2.2.2.2.2.1 w.2).2.2.2.1
  refine ⟨hC.1, s0, kin, ?_⟩
  have eo : f_Te_firstOf (f_Ba_inside (nI t) σ) σ = nI u := by rw [ein, efd, u2]
  have ew : f_Te_secondOf (f_Ba_inside (nI t) σ) σ = nI v := by rw [ein, esd, v2]
  have etr : trn (nI t) σ = 0 ↔ ¬ (τ.1 5 t = 7 ∧ τ.1 5 d = 6) := by
    show (if f_Te_kindOf (nI t) σ = 7 then (if f_Te_kindOf (f_Ba_inside (nI t) σ) σ = 6 then (1 : Int32) else 0) else 0) = 0 ↔ _
    rw [ein, ek, ekd]
    by_cases z1 : τ.1 5 t = 7
    · rw [if_pos z1]
      by_cases z2 : τ.1 5 d = 6
      · rw [if_pos z2]
        exact ⟨fun w => absurd w d10, fun w => absurd ⟨z1, z2⟩ w⟩
      · rw [if_neg z2]
        exact ⟨fun _ w => z2 w.2, fun _ => rfl⟩
    · rw [if_neg z1]
      exact ⟨fun _ w => z1 w.1, fun _ => rfl⟩
  by_cases z : τ.1 5 t = 7 ∧ τ.1 5 d = 6
  · have nt : ¬ trn (nI t) σ = 0 := fun w => etr.mp w z
    refine ⟨v, u, ⟨ht, by omega, by omega, d, u, v, hd, d1, d2, u2, v2, fun _ => ⟨rfl, rfl⟩, fun w => absurd z w⟩, s1.2, s1.1, ?_, ?_⟩
    · unfold opA; rw [if_neg nt, ew]
    · unfold opB; rw [if_neg nt, eo]
  · have nt : trn (nI t) σ = 0 := etr.mpr z
    refine ⟨u, v, ⟨ht, by omega, by omega, d, u, v, hd, d1, d2, u2, v2, fun w => absurd w z, fun _ => ⟨rfl, rfl⟩⟩, s1.1, s1.2, ?_, ?_⟩
    · unfold opA; rw [if_pos nt, eo]
    · unfold opB; rw [if_pos nt, ew]
end TAK
/-- which terms a sum is made for -/
theorem nd_sd {σ : St} {G : Nat → Nat → Prop} {Sp : Nat → St → Prop} (C : Cl σ G Sp) : ∀ (d : Nat) (X : Nat → Bool) (t j : Nat), G d t → nd σ (d + 1) X t j = true → X j = true ∨ ∃ d', G d' j := by
  intro d
  induction d with
  | zero =>
    intro X t j hG hj
    obtain ⟨-, -, -, h4, h3⟩ := C 0 t hG
    rw [nd_s] at hj
    by_cases z : X t = true
    · rw [if_pos z] at hj; exact Or.inl hj
    · rw [if_neg z] at hj
      by_cases w : j = t
      · exact Or.inr ⟨0, by rw [w]; exact hG⟩
      · have hj : (if j = t then true else ndp σ 0 X t j) = true := hj
        rw [if_neg w] at hj
        unfold ndp at hj
        by_cases k4 : f_Te_kindOf (nI t) σ = 4
        · obtain ⟨d', b, e, -⟩ := h4 k4
          omega
        · rw [if_neg k4] at hj
          by_cases k3 : f_Te_kindOf (nI t) σ = 3
          · obtain ⟨d', a, b, e, -⟩ := h3 k3
            omega
          · rw [if_neg k3] at hj; exact Or.inl hj
  | succ d ih =>
    intro X t j hG hj
    obtain ⟨lt, -, -, h4, h3⟩ := C (d + 1) t hG
    rw [nd_s] at hj
    by_cases z : X t = true
    · rw [if_pos z] at hj; exact Or.inl hj
    · rw [if_neg z] at hj
      by_cases w : j = t
      · exact Or.inr ⟨d + 1, by rw [w]; exact hG⟩
      · have hj : (if j = t then true else ndp σ (d + 1) X t j) = true := hj
        rw [if_neg w] at hj
        unfold ndp at hj
        by_cases k4 : f_Te_kindOf (nI t) σ = 4
        · obtain ⟨d', b, e, e2, b1, b2, -⟩ := h4 k4
          have : d' = d := by omega
          subst this
          rw [if_pos k4, e2, nI_clamp (by omega)] at hj
          exact ih X b j b2 hj
        · rw [if_neg k4] at hj
          by_cases k3 : f_Te_kindOf (nI t) σ = 3
          · obtain ⟨d', a, b, e, e1, e2, a1, b1, a2, b2, -⟩ := h3 k3
            have : d' = d := by omega
            subst this
            rw [if_pos k3, e1, e2, nI_clamp (by omega), nI_clamp (by omega)] at hj
            rcases ih _ a j a2 hj with w | w
            · exact ih X b j b2 w
            · exact Or.inr w
          · rw [if_neg k3] at hj; exact Or.inl hj
