-- variable; what a refusal leaves, more widely
section VAR
variable {n q c k f : Nat} {σ τ : St}
theorem op_variable (a b : Int32) (h : IV n q c k f σ τ) : k_CL_variable a b σ ∧ k_Mo_variable a b τ ∧ (f_CL_variable a b σ).1 = (f_Mo_variable a b τ).1 ∧ IV n q c k f (f_CL_variable a b σ).2 (f_Mo_variable a b τ).2 ∧ rwM n τ (f_Mo_variable a b τ).2 := by
  have hIV : IV n q c k f σ (sF τ 0 0 0) := h
  obtain ⟨h1, hT, hL, hK, h2, h3, h4, ⟨ns, ny, g1, g2, g3, g4, g5, g6, g7, g8, g9⟩, hF, hC, hP, hfl⟩ := h
  have i0 : a < 0 ↔ a.toInt < 0 := by rw [Int32.lt_iff_toInt_lt, Int32.toInt_zero]
  have i1 : (3 : Int32) ≤ a ↔ 3 ≤ a.toInt := by rw [Int32.le_iff_toInt_le]; rfl
  have i2 : (2 : Int32) < a ↔ 2 < a.toInt := by rw [Int32.lt_iff_toInt_lt]; rfl
  have i3 : b < 0 ↔ b.toInt < 0 := by rw [Int32.lt_iff_toInt_lt, Int32.toInt_zero]
  have i4 : τ.1 0 2 ≤ b ↔ (ns : Int) ≤ b.toInt := by rw [g5, Int32.le_iff_toInt_le, i_nI (by omega)]
  have i5 : τ.1 0 8 ≤ 0 ↔ n = 0 := by rw [hT.2.1]; exact (nI_le_iff (b := 0) (by omega) (by omega)).trans (by omega)
  have i6 : σ.1 6 11 = 0 ↔ n = 0 := by rw [hT.1]; exact nI_inj (b := 0) (by omega) (by omega)
  have kV : k_Sg_isVariable a σ := ⟨fun _ => ⟨rfl, trivial⟩, fun _ => ⟨fun _ => ⟨rfl, trivial⟩, fun _ => ⟨rfl, trivial⟩⟩⟩
  have eV : f_Sg_isVariable a σ = if a < 0 then 0 else (if (3 : Int32) ≤ a then 0 else 1) := rfl
  have eS := isSort_0 g4 g2 b
  have eC : f_CL_variable a b σ = if σ.1 6 11 = 0 then (if f_Sg_isVariable a σ = 0 then (0, σ) else (if f_Sg_isSort b σ = 0 then (0, σ) else (1, sA σ 5 a b))) else (0, σ) := by
    show (if σ.1 6 11 = 0 then f_CL_variable_19 (f_Sg_setVariable a b σ).1 (f_Sg_setVariable a b σ).2 else (0, σ)) = _
    have e0 : f_Sg_setVariable a b σ = if f_Sg_isVariable a σ = 0 then (0, σ) else (if f_Sg_isSort b σ = 0 then (0, σ) else (1, sA σ 5 a b)) := rfl
    rw [e0]
    by_cases z1 : f_Sg_isVariable a σ = 0
    · rw [if_pos z1]; rfl
    · rw [if_neg z1]
      by_cases z2 : f_Sg_isSort b σ = 0
      · rw [if_pos z2]; rfl
      · rw [if_neg z2]; rfl
  have eM : f_Mo_variable a b τ = if a < 0 then (0, sF τ 0 0 0) else (if (2 : Int32) < a then (0, sF τ 0 0 0) else (if b < 0 then (0, sF τ 0 0 0) else (if τ.1 0 2 ≤ b then (0, sF τ 0 0 0) else (if τ.1 0 8 ≤ 0 then (1, sA (sF τ 0 0 0) 4 a b) else (0, sF τ 0 0 0))))) := rfl
  have hin : ¬ a < 0 → ¬ (2 : Int32) < a → vp_in a 3 := fun z1 z2 => by rw [in_iff]; rw [i0] at z1; rw [i2] at z2; omega
  have k19 : ∀ (x : Int32) (X : St), k_CL_variable_19 x X := fun x X => ⟨fun _ => ⟨rfl, trivial⟩, fun _ => ⟨rfl, trivial⟩⟩
  have kM : k_Mo_variable a b τ := ⟨fun _ => trivial, fun z1 => ⟨fun _ => trivial, fun z2 => ⟨fun _ => trivial, fun _ => ⟨fun _ => trivial, fun _ => ⟨fun _ => ⟨hin z1 z2, trivial⟩, fun _ => trivial⟩⟩⟩⟩⟩
  have v0 : f_Sg_isVariable a σ = 0 ↔ ¬ (0 ≤ a.toInt ∧ a.toInt < 3) := by
    rw [eV]
    by_cases z1 : a < 0
    · rw [if_pos z1]; rw [i0] at z1; exact ⟨fun _ => by omega, fun _ => rfl⟩
    · rw [if_neg z1]; rw [i0] at z1
      by_cases z2 : (3 : Int32) ≤ a
      · rw [if_pos z2]; rw [i1] at z2; exact ⟨fun _ => by omega, fun _ => rfl⟩
      · rw [if_neg z2]; rw [i1] at z2; exact ⟨fun w => absurd w (by decide), fun w => absurd ⟨by omega, by omega⟩ w⟩
  have kC : k_CL_variable a b σ := ⟨trivial, fun _ => ⟨⟨kV, fun _ => trivial, fun z => ⟨k_isSort b σ, fun _ => trivial, fun _ => ⟨by
    rw [in_iff]; have := mt v0.mpr z; omega, trivial⟩⟩⟩, k19 _ _⟩, fun _ => ⟨rfl, trivial⟩⟩
  refine ⟨kC, kM, ?_⟩
  by_cases hp : n = 0 ∧ (0 ≤ a.toInt ∧ a.toInt < 3) ∧ (0 ≤ b.toInt ∧ b.toInt < ns)
  · obtain ⟨p1, p2, p3⟩ := hp
    rw [eC, eM, if_pos (i6.mpr p1), if_neg (fun z => v0.mp z p2), if_neg (fun z => eS.mp z p3), if_neg (fun z => by rw [i0] at z; omega), if_neg (fun z => by rw [i2] at z; omega), if_neg (fun z => by rw [i3] at z; omega), if_neg (fun z => by rw [i4] at z; omega), if_pos (i5.mpr p1)]
    refine ⟨rfl, ⟨h1, hT, hL, ⟨hK.1, ny, g3, g7, fun t ht => absurd ht (by omega)⟩, h2, h3, h4, ⟨ns, ny, g1, g2, g3, g4, g5, g6, g7, g8, fun j hj => ?_⟩, hF, hC, hP, hfl⟩, fun c0 q1 q2 x hx => ?_⟩
    · show upd (σ.1 5) a.toNatClampNeg b j = upd (τ.1 4) a.toNatClampNeg b j ∧ ∃ i, i < ns ∧ upd (τ.1 4) a.toNatClampNeg b j = nI i
      rw [upd_at, upd_at]
      by_cases e : j = a.toNatClampNeg
      · rw [if_pos e, if_pos e]; exact ⟨rfl, b.toInt.toNat, by omega, nJ_of p3.1⟩
      · rw [if_neg e, if_neg e]; exact g9 j hj
    · omega
  · have eC0 : f_CL_variable a b σ = (0, σ) := by
      rw [eC]
      by_cases z1 : σ.1 6 11 = 0
      · rw [if_pos z1]
        by_cases z2 : f_Sg_isVariable a σ = 0
        · rw [if_pos z2]
        · rw [if_neg z2]
          by_cases z3 : f_Sg_isSort b σ = 0
          · rw [if_pos z3]
          · exact absurd ⟨i6.mp z1, Classical.not_not.mp (mt v0.mpr z2), Classical.not_not.mp (mt eS.mpr z3)⟩ hp
      · rw [if_neg z1]
    have eM0 : f_Mo_variable a b τ = (0, sF τ 0 0 0) := by
      rw [eM]
      by_cases z1 : a < 0
      · rw [if_pos z1]
      · rw [if_neg z1]
        by_cases z2 : (2 : Int32) < a
        · rw [if_pos z2]
        · rw [if_neg z2]
          by_cases z3 : b < 0
          · rw [if_pos z3]
          · rw [if_neg z3]
            by_cases z4 : τ.1 0 2 ≤ b
            · rw [if_pos z4]
            · rw [if_neg z4]
              by_cases z5 : τ.1 0 8 ≤ 0
              · rw [i0] at z1; rw [i2] at z2; rw [i3] at z3; rw [i4] at z4
                exact absurd ⟨i5.mp z5, ⟨by omega, by omega⟩, ⟨by omega, by omega⟩⟩ hp
              · rw [if_neg z5]
    rw [eC0, eM0]
    exact ⟨rfl, hIV, rw_sF n 0 τ 0⟩
end VAR
/-- the rows that are kept, of a call that ends with a refusal -/
def RR (n0 : Nat) (σ τ : St) : Prop := (∀ t, t < n0 → tmE σ τ t ∧ tmW τ t) ∧ LN n0 σ τ ∧ KD n0 τ ∧ σ.1 6 12 = nI n0
section RRS
variable {n0 n r q c k f : Nat} {τb σ τ τ' : St}
theorem RR.cong (h : RR n0 σ τ) (hn : n0 ≤ 400) (e : rwM n0 τ τ') (e2 : frM τ τ') : RR n0 σ τ' := by
  obtain ⟨h1, h2, h3, h4⟩ := h
  refine ⟨fun t ht => ?_, fun t ht => ?_, ⟨fun t ht => ?_, h3.2.cong e (fun c q1 q2 => e2.1 c (by omega)) (e2.2.1 3 (by omega) (by omega))⟩, h4⟩
  · obtain ⟨hE, hW⟩ := h1 t ht
    refine ⟨?_, hW.cong ht (by omega) e⟩
    unfold tmE kyR at *
    rw [e 5 (by omega) (by omega) t ht, e 6 (by omega) (by omega) t ht, e 7 (by omega) (by omega) t ht, e 8 (by omega) (by omega) t ht, e 9 (by omega) (by omega) t ht, e 10 (by omega) (by omega) t ht, e 11 (by omega) (by omega) t ht, e 12 (by omega) (by omega) t ht, e 13 (by omega) (by omega) t ht]
    exact hE
  · rw [e 5 (by omega) (by omega) t ht, e 8 (by omega) (by omega) t ht, e 9 (by omega) (by omega) t ht, e 11 (by omega) (by omega) t ht, e 12 (by omega) (by omega) t ht]
    exact h2 t ht
  · have hW := (h1 t ht).2
    exact (h3.1 t ht).cong ht (by omega) hW.1 hW.2.1 e
theorem RR.ofT (h : TT n0 n σ τ) : RR n0 σ τ := by
  obtain ⟨h1, h2, hM, hL, hK, e12, e9, -⟩ := h
  exact ⟨fun t ht => hM.2.2 t (by omega), fun t ht => hL t (by omega), ⟨fun t ht => hK.1 t (by omega), hK.2.le (by omega)⟩, e12⟩
theorem RR.res {cd : Nat → Int32} {al : Nat → Prop} {E : Nat} {x : Int32} (h : RR n0 σ τ) (h1 : n0 ≤ 100) (hR : RS n0 q c k f σ τ) (e9 : τ.1 0 9 = nI n0) (hd : ∀ t, t < n0 → τ.1 7 t ≤ 12) (hrw : rwM n0 τb τ) (hf : f < 60) (hx : cd E = x) (hx0 : ¬ x = 0) (hal : al E) : RES n0 τb (.inr E, un σ) (0, fl x τ) cd al := by
  obtain ⟨a1, a2, a3, a4⟩ := h
  obtain ⟨r1, r2, r3, r4, r5, r6, r7⟩ := hR
  refine ⟨⟨fun y hy => (by cases hy), fun E' hE => (by cases hE; exact ⟨by rw [hx]; rfl, by rw [hx]; exact hx0⟩)⟩, fun E' hE => (by cases hE; exact hal), ⟨n0, q, c, k, f + 1, Nat.le_refl n0, h1, ⟨a4, e9, a1⟩, a2, a3, a4, rfl, hd, r1, r2, r3, r4, by omega, ?_, ?_⟩, hrw.tr (rw_fl n0 τ x) (Nat.le_refl n0)⟩
  · show σ.1 0 10 + 1 = _
    rw [r6, nI_succ]
  · show τ.1 0 1 + 1 = _
    rw [r7, nI_succ]
end RRS
