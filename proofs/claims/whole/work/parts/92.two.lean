-- reading: a mark over two parts
section TWO
variable {n0 n p b nd a d : Nat} {σ Y : St}
theorem RD.acc {t : Nat} (h : RD n0 n p b nd σ Y) (hn : n ≤ 206) (ht : t < n) : (f_Te_kindOf (nI t) σ = Y.1 5 t ∧ f_Te_sortOf (nI t) σ = Y.1 6 t) ∧ k_Te_kindOf (nI t) σ ∧ k_Te_sortOf (nI t) σ := by
  have hT := h.1.2.2.1
  obtain ⟨e1, e2, -⟩ := (hT.2.2 t ht).1
  have ka := k_acc hT.1 (by omega) (nI t)
  exact ⟨⟨(acc_nI hT.1 (by omega) ht (σ.1 7) (-1)).trans e1, (acc_nI hT.1 (by omega) ht (σ.1 8) (-1)).trans e2⟩, ka, ka⟩
theorem RD.accN (h : RD n0 n p b nd σ Y) (hn : n ≤ 206) : f_Te_sortOf (-1) σ = -1 ∧ k_Te_sortOf (-1) σ ∧ f_Te_isTruth (-1) σ = 0 ∧ k_Te_isTruth (-1) σ := by
  have hT := h.1.2.2.1
  have e : f_Te_sortOf (-1) σ = -1 := by
    show (if f_Te_has (-1) σ = 0 then (-1 : Int32) else _) = _
    rw [if_pos ((has_iff hT.1 (by omega) (-1)).mpr (fun w => absurd w.1 (by decide)))]
  have ka := k_acc hT.1 (by omega) (-1)
  refine ⟨e, ka, ?_, ka, fun _ => ⟨rfl, trivial⟩, fun _ => ⟨rfl, trivial⟩⟩
  show (if f_Te_sortOf (-1) σ = 0 then (1 : Int32) else 0) = 0
  rw [e, if_neg (by decide)]
/-- what parts a mark takes -/
def fitT (τ : St) (K : Int32) (a d : Nat) : Prop := if K = 5 then τ.1 6 a = τ.1 6 d else (if K = 4 then τ.1 5 a = 2 ∧ τ.1 6 d = 1 else (if K = 3 then τ.1 6 a = 1 ∧ τ.1 6 d = 1 else (if K = 6 then τ.1 6 a = 1 ∧ τ.1 6 d = 1 else τ.1 6 a = 0 ∧ τ.1 6 d = 0)))
def two6 (K : Int32) : Prop := K = 3 ∨ K = 4 ∨ K = 5 ∨ K = 6 ∨ K = 8 ∨ K = 9
theorem cl_295 {x y K s : Int32} (h33 : Y.1 0 33 = 0) (h10 : ¬ K = 10) : (s = 0 → k_Mo_closeBracket_295 x y K s Y ∧ f_Mo_closeBracket_295 x y K s Y = (0, sF Y 0 33 1)) ∧ (¬ s = 0 → f_Mo_closeBracket_295 x y K s Y = f_Mo_made K x y (sF Y 0 33 0) ∧ (k_Mo_made K x y (sF Y 0 33 0) → k_Mo_closeBracket_295 x y K s Y)) := by
  have n1 : ¬ (sF Y 0 33 1).1 0 33 = 0 := show ¬ (1 : Int32) = 0 by decide
  have e0 : (sF Y 0 33 0).1 0 33 = 0 := rfl
  have k310 : k_Mo_closeBracket_310 x y K Y := ⟨⟨rfl, rfl⟩, fun z => absurd z n1, fun _ => trivial⟩
  refine ⟨fun z => ⟨⟨fun _ => ⟨fun _ => k310, fun w => absurd z w⟩, fun w => absurd h33 w⟩, ?_⟩, fun z => ⟨?_, fun w => ⟨fun _ => ⟨fun w2 => absurd w2 z, fun _ => ⟨⟨rfl, rfl⟩, fun _ => ⟨fun w2 => absurd w2 h10, fun _ => ⟨w, trivial⟩⟩, fun w2 => absurd e0 w2⟩⟩, fun w2 => absurd h33 w2⟩⟩⟩
  · rw [f_Mo_closeBracket_295, if_pos h33, if_pos z]
    show f_Mo_closeBracket_318 x y K (sF Y 0 33 1) = _
    rw [f_Mo_closeBracket_318, if_neg n1]
  · rw [f_Mo_closeBracket_295, if_pos h33, if_neg z]
    show f_Mo_closeBracket_318 x y K (sF Y 0 33 0) = _
    rw [f_Mo_closeBracket_318, if_pos e0, if_neg h10, f_Mo_closeBracket_357]
theorem tr_M {t : Nat} (ht : t < 400) : k_Mo_isTruth (nI t) Y ∧ f_Mo_isTruth (nI t) Y = if Y.1 6 t = 0 then 1 else 0 := by
  have hcl : (nI t).toNatClampNeg = t := nI_clamp (by omega)
  refine ⟨(truth_M ht).1, ?_⟩
  show (if Y.1 6 (nI t).toNatClampNeg = 0 then (1 : Int32) else 0) = _
  rw [hcl]

theorem two_close_3 (h : RD n0 n p b nd σ Y) (hn : n ≤ 206) (ha : a < n) (hd : d < n) : k_Rd_canBePartsOf 3 (nI a) (nI d) σ ∧ (f_Rd_canBePartsOf 3 (nI a) (nI d) σ = 0 ↔ ¬ fitT Y 3 a d) ∧ (fitT Y 3 a d → f_Mo_closeBracket_146 (nI a) (nI d) 3 Y = f_Mo_made 3 (nI a) (nI d) (sF Y 0 33 0) ∧ (k_Mo_made 3 (nI a) (nI d) (sF Y 0 33 0) → k_Mo_closeBracket_146 (nI a) (nI d) 3 Y)) ∧ (¬ fitT Y 3 a d → k_Mo_closeBracket_146 (nI a) (nI d) 3 Y ∧ f_Mo_closeBracket_146 (nI a) (nI d) 3 Y = (0, sF Y 0 33 1)) := by
  have h33 := h.2.2.2.2.1
  obtain ⟨⟨ka, sa⟩, kka, ksa⟩ := h.acc hn ha
  obtain ⟨⟨kd, sd⟩, kkd, ksd⟩ := h.acc hn hd
  have hca : (nI a).toNatClampNeg = a := nI_clamp (by omega)
  have hcd : (nI d).toNatClampNeg = d := nI_clamp (by omega)
  have hia : vp_in (nI a) 400 := by rw [in_iff, i_nI (by omega)]; omega
  have hid : vp_in (nI d) 400 := by rw [in_iff, i_nI (by omega)]; omega
  have o : ¬ (1 : Int32) = 0 := by decide
  obtain ⟨b0, -⟩ := cl_295 (x := nI a) (y := nI d) (K := 3) (s := 0) h33 (by decide)
  obtain ⟨-, b1⟩ := cl_295 (x := nI a) (y := nI d) (K := 3) (s := 1) h33 (by decide)
  obtain ⟨b2, b3⟩ := b0 rfl
  obtain ⟨b4, b5⟩ := b1 o
  have ef : fitT Y 3 a d ↔ Y.1 6 a = 1 ∧ Y.1 6 d = 1 := by unfold fitT; rw [if_neg (by decide), if_neg (by decide), if_pos rfl]
  rw [ef]
  have eC : f_Rd_canBePartsOf 3 (nI a) (nI d) σ = if Y.1 6 a = 1 then (if Y.1 6 d = 1 then 1 else 0) else 0 := by
    rw [f_Rd_canBePartsOf, if_neg (by decide), if_neg (by decide), if_pos rfl, f_Rd_canBePartsOf_76, f_Rd_canBePartsOf_81, sa, sd]; rfl
  have eM : f_Mo_closeBracket_146 (nI a) (nI d) 3 Y = if Y.1 6 a = 1 then (if Y.1 6 d = 1 then f_Mo_closeBracket_295 (nI a) (nI d) 3 1 Y else f_Mo_closeBracket_295 (nI a) (nI d) 3 0 Y) else f_Mo_closeBracket_295 (nI a) (nI d) 3 0 Y := by
    rw [f_Mo_closeBracket_146, if_pos rfl, f_Mo_closeBracket_159, f_Mo_closeBracket_164, if_neg (by decide), if_neg (by decide), if_neg (by decide), if_neg (by decide), if_neg (by decide), if_neg (show ¬ (1 : Int32) = 0 by decide), hca, hcd]; rfl
  have kM : (Y.1 6 a = 1 → Y.1 6 d = 1 → k_Mo_closeBracket_295 (nI a) (nI d) 3 1 Y) → k_Mo_closeBracket_146 (nI a) (nI d) 3 Y := fun w => ⟨fun _ => ⟨fun z => absurd z (by decide), fun _ => ⟨fun z => absurd z (by decide), fun _ => ⟨fun z => absurd z (by decide), fun _ => ⟨fun z => absurd z (by decide), fun _ => ⟨fun z => absurd z (by decide), fun _ => ⟨hia, fun z1 => ⟨hid, fun z2 => ⟨fun z => absurd z (by decide), fun _ => w (by rw [hca] at z1; exact z1) (by rw [hcd] at z2; exact z2)⟩, fun _ => b2⟩, fun _ => b2⟩⟩⟩⟩⟩⟩, fun z => absurd rfl z⟩
  refine ⟨⟨fun z => absurd z (by decide), fun _ => ⟨fun z => absurd z (by decide), fun _ => ⟨fun _ => ⟨ksa, fun _ => ⟨ksd, fun _ => ⟨rfl, trivial⟩, fun _ => ⟨rfl, trivial⟩⟩, fun _ => ⟨rfl, trivial⟩⟩, fun z => absurd rfl z⟩⟩⟩, ?_, fun z => ⟨by rw [eM, if_pos z.1, if_pos z.2, b4], fun w => kM (fun _ _ => b5 w)⟩, fun z => ⟨kM (fun w1 w2 => absurd ⟨w1, w2⟩ z), ?_⟩⟩
  · rw [eC]
    by_cases z1 : Y.1 6 a = 1
    · rw [if_pos z1]
      by_cases z2 : Y.1 6 d = 1
      · rw [if_pos z2]; exact ⟨fun w => absurd w o, fun w => absurd ⟨z1, z2⟩ w⟩
      · rw [if_neg z2]; exact ⟨fun _ w => z2 w.2, fun _ => rfl⟩
    · rw [if_neg z1]; exact ⟨fun _ w => z1 w.1, fun _ => rfl⟩
  · rw [eM, b3]
    by_cases z1 : Y.1 6 a = 1
    · rw [if_pos z1, if_neg (fun w => z ⟨z1, w⟩)]
    · rw [if_neg z1]
theorem two_close_4 (h : RD n0 n p b nd σ Y) (hn : n ≤ 206) (ha : a < n) (hd : d < n) : k_Rd_canBePartsOf 4 (nI a) (nI d) σ ∧ (f_Rd_canBePartsOf 4 (nI a) (nI d) σ = 0 ↔ ¬ fitT Y 4 a d) ∧ (fitT Y 4 a d → f_Mo_closeBracket_146 (nI a) (nI d) 4 Y = f_Mo_made 4 (nI a) (nI d) (sF Y 0 33 0) ∧ (k_Mo_made 4 (nI a) (nI d) (sF Y 0 33 0) → k_Mo_closeBracket_146 (nI a) (nI d) 4 Y)) ∧ (¬ fitT Y 4 a d → k_Mo_closeBracket_146 (nI a) (nI d) 4 Y ∧ f_Mo_closeBracket_146 (nI a) (nI d) 4 Y = (0, sF Y 0 33 1)) := by
  have h33 := h.2.2.2.2.1
  obtain ⟨⟨ka, sa⟩, kka, ksa⟩ := h.acc hn ha
  obtain ⟨⟨kd, sd⟩, kkd, ksd⟩ := h.acc hn hd
  have hca : (nI a).toNatClampNeg = a := nI_clamp (by omega)
  have hcd : (nI d).toNatClampNeg = d := nI_clamp (by omega)
  have hia : vp_in (nI a) 400 := by rw [in_iff, i_nI (by omega)]; omega
  have hid : vp_in (nI d) 400 := by rw [in_iff, i_nI (by omega)]; omega
  have o : ¬ (1 : Int32) = 0 := by decide
  obtain ⟨b0, -⟩ := cl_295 (x := nI a) (y := nI d) (K := 4) (s := 0) h33 (by decide)
  obtain ⟨-, b1⟩ := cl_295 (x := nI a) (y := nI d) (K := 4) (s := 1) h33 (by decide)
  obtain ⟨b2, b3⟩ := b0 rfl
  obtain ⟨b4, b5⟩ := b1 o
  have ef : fitT Y 4 a d ↔ Y.1 5 a = 2 ∧ Y.1 6 d = 1 := by unfold fitT; rw [if_neg (by decide), if_pos rfl]
  rw [ef]
  have eC : f_Rd_canBePartsOf 4 (nI a) (nI d) σ = if Y.1 5 a = 2 then (if Y.1 6 d = 1 then 1 else 0) else 0 := by
    rw [f_Rd_canBePartsOf, if_neg (by decide), if_pos rfl, ka, sd]; rfl
  have eM : f_Mo_closeBracket_146 (nI a) (nI d) 4 Y = if Y.1 6 a = 1 then (if Y.1 6 d = 1 then (if Y.1 5 a = 2 then f_Mo_closeBracket_295 (nI a) (nI d) 4 1 Y else f_Mo_closeBracket_295 (nI a) (nI d) 4 0 Y) else f_Mo_closeBracket_295 (nI a) (nI d) 4 0 Y) else f_Mo_closeBracket_295 (nI a) (nI d) 4 0 Y := by
    rw [f_Mo_closeBracket_146, if_neg (by decide), if_neg (by decide), f_Mo_closeBracket_164, if_neg (by decide), if_neg (by decide), if_neg (by decide), if_neg (by decide), if_neg (by decide), if_pos rfl, hca, hcd]; rfl
  have kM : (Y.1 5 a = 2 → Y.1 6 d = 1 → k_Mo_closeBracket_295 (nI a) (nI d) 4 1 Y) → k_Mo_closeBracket_146 (nI a) (nI d) 4 Y := fun w => ⟨fun z => absurd z (by decide), fun _ => ⟨fun z => absurd z (by decide), fun _ => ⟨fun z => absurd z (by decide), fun _ => ⟨fun z => absurd z (by decide), fun _ => ⟨fun z => absurd z (by decide), fun _ => ⟨fun z => absurd z (by decide), fun _ => ⟨fun z => absurd z (by decide), fun _ => ⟨hia, fun z1 => ⟨hid, fun z2 => ⟨fun _ => ⟨hia, fun z3 => w (by rw [hca] at z3; exact z3) (by rw [hcd] at z2; exact z2), fun _ => b2⟩, fun z => absurd rfl z⟩, fun _ => b2⟩, fun _ => b2⟩⟩⟩⟩⟩⟩⟩⟩
  have s1 : Y.1 5 a = 2 → Y.1 6 a = 1 := fun z => ((h.1.2.2.1.2.2 a ha).2.2.2.2.2.2.2.1 z).2.2.1
  refine ⟨⟨fun z => absurd z (by decide), fun _ => ⟨fun _ => ⟨kka, fun _ => ⟨ksd, fun _ => ⟨rfl, trivial⟩, fun _ => ⟨rfl, trivial⟩⟩, fun _ => ⟨rfl, trivial⟩⟩, fun z => absurd rfl z⟩⟩, ?_, fun z => ⟨by rw [eM, if_pos (s1 z.1), if_pos z.2, if_pos z.1, b4], fun w => kM (fun _ _ => b5 w)⟩, fun z => ⟨kM (fun w1 w2 => absurd ⟨w1, w2⟩ z), ?_⟩⟩
  · rw [eC]
    by_cases z1 : Y.1 5 a = 2
    · rw [if_pos z1]
      by_cases z2 : Y.1 6 d = 1
      · rw [if_pos z2]; exact ⟨fun w => absurd w o, fun w => absurd ⟨z1, z2⟩ w⟩
      · rw [if_neg z2]; exact ⟨fun _ w => z2 w.2, fun _ => rfl⟩
    · rw [if_neg z1]; exact ⟨fun _ w => z1 w.1, fun _ => rfl⟩
  · rw [eM, b3]
    by_cases z1 : Y.1 6 a = 1
    · rw [if_pos z1]
      by_cases z2 : Y.1 6 d = 1
      · rw [if_pos z2, if_neg (fun w => z ⟨w, z2⟩)]
      · rw [if_neg z2]
    · rw [if_neg z1]
theorem two_close_5 (h : RD n0 n p b nd σ Y) (hn : n ≤ 206) (ha : a < n) (hd : d < n) : k_Rd_canBePartsOf 5 (nI a) (nI d) σ ∧ (f_Rd_canBePartsOf 5 (nI a) (nI d) σ = 0 ↔ ¬ fitT Y 5 a d) ∧ (fitT Y 5 a d → f_Mo_closeBracket_146 (nI a) (nI d) 5 Y = f_Mo_made 5 (nI a) (nI d) (sF Y 0 33 0) ∧ (k_Mo_made 5 (nI a) (nI d) (sF Y 0 33 0) → k_Mo_closeBracket_146 (nI a) (nI d) 5 Y)) ∧ (¬ fitT Y 5 a d → k_Mo_closeBracket_146 (nI a) (nI d) 5 Y ∧ f_Mo_closeBracket_146 (nI a) (nI d) 5 Y = (0, sF Y 0 33 1)) := by
  have h33 := h.2.2.2.2.1
  obtain ⟨⟨ka, sa⟩, kka, ksa⟩ := h.acc hn ha
  obtain ⟨⟨kd, sd⟩, kkd, ksd⟩ := h.acc hn hd
  have hca : (nI a).toNatClampNeg = a := nI_clamp (by omega)
  have hcd : (nI d).toNatClampNeg = d := nI_clamp (by omega)
  have hia : vp_in (nI a) 400 := by rw [in_iff, i_nI (by omega)]; omega
  have hid : vp_in (nI d) 400 := by rw [in_iff, i_nI (by omega)]; omega
  have o : ¬ (1 : Int32) = 0 := by decide
  obtain ⟨b0, -⟩ := cl_295 (x := nI a) (y := nI d) (K := 5) (s := 0) h33 (by decide)
  obtain ⟨-, b1⟩ := cl_295 (x := nI a) (y := nI d) (K := 5) (s := 1) h33 (by decide)
  obtain ⟨b2, b3⟩ := b0 rfl
  obtain ⟨b4, b5⟩ := b1 o
  have ef : fitT Y 5 a d ↔ Y.1 6 a = Y.1 6 d := by unfold fitT; rw [if_pos rfl]
  rw [ef]
  have eC : f_Rd_canBePartsOf 5 (nI a) (nI d) σ = if Y.1 6 a = Y.1 6 d then 1 else 0 := by
    rw [f_Rd_canBePartsOf, if_pos rfl, sa, sd]; rfl
  have eM : f_Mo_closeBracket_146 (nI a) (nI d) 5 Y = if Y.1 6 a = Y.1 6 d then f_Mo_closeBracket_295 (nI a) (nI d) 5 1 Y else f_Mo_closeBracket_295 (nI a) (nI d) 5 0 Y := by
    rw [f_Mo_closeBracket_146, if_neg (by decide), if_neg (by decide), f_Mo_closeBracket_164, if_neg (by decide), if_neg (by decide), if_pos rfl, hca, hcd]
  have kM : (Y.1 6 a = Y.1 6 d → k_Mo_closeBracket_295 (nI a) (nI d) 5 1 Y) → k_Mo_closeBracket_146 (nI a) (nI d) 5 Y := fun w => ⟨fun z => absurd z (by decide), fun _ => ⟨fun z => absurd z (by decide), fun _ => ⟨fun z => absurd z (by decide), fun _ => ⟨fun z => absurd z (by decide), fun _ => ⟨fun _ => ⟨hia, hid, fun z => w (by rw [hca, hcd] at z; exact z), fun _ => b2⟩, fun z => absurd rfl z⟩⟩⟩⟩⟩
  refine ⟨⟨fun _ => ⟨ksa, ksd, fun _ => ⟨rfl, trivial⟩, fun _ => ⟨rfl, trivial⟩⟩, fun z => absurd rfl z⟩, ?_, fun z => ⟨by rw [eM, if_pos z, b4], fun w => kM (fun _ => b5 w)⟩, fun z => ⟨kM (fun w => absurd w z), by rw [eM, if_neg z, b3]⟩⟩
  rw [eC]
  by_cases z : Y.1 6 a = Y.1 6 d
  · rw [if_pos z]; exact ⟨fun w => absurd w o, fun w => absurd z w⟩
  · rw [if_neg z]; exact ⟨fun _ => z, fun _ => rfl⟩
theorem two_close_6 (h : RD n0 n p b nd σ Y) (hn : n ≤ 206) (ha : a < n) (hd : d < n) : k_Rd_canBePartsOf 6 (nI a) (nI d) σ ∧ (f_Rd_canBePartsOf 6 (nI a) (nI d) σ = 0 ↔ ¬ fitT Y 6 a d) ∧ (fitT Y 6 a d → f_Mo_closeBracket_146 (nI a) (nI d) 6 Y = f_Mo_made 6 (nI a) (nI d) (sF Y 0 33 0) ∧ (k_Mo_made 6 (nI a) (nI d) (sF Y 0 33 0) → k_Mo_closeBracket_146 (nI a) (nI d) 6 Y)) ∧ (¬ fitT Y 6 a d → k_Mo_closeBracket_146 (nI a) (nI d) 6 Y ∧ f_Mo_closeBracket_146 (nI a) (nI d) 6 Y = (0, sF Y 0 33 1)) := by
  have h33 := h.2.2.2.2.1
  obtain ⟨⟨ka, sa⟩, kka, ksa⟩ := h.acc hn ha
  obtain ⟨⟨kd, sd⟩, kkd, ksd⟩ := h.acc hn hd
  have hca : (nI a).toNatClampNeg = a := nI_clamp (by omega)
  have hcd : (nI d).toNatClampNeg = d := nI_clamp (by omega)
  have hia : vp_in (nI a) 400 := by rw [in_iff, i_nI (by omega)]; omega
  have hid : vp_in (nI d) 400 := by rw [in_iff, i_nI (by omega)]; omega
  have o : ¬ (1 : Int32) = 0 := by decide
  obtain ⟨b0, -⟩ := cl_295 (x := nI a) (y := nI d) (K := 6) (s := 0) h33 (by decide)
  obtain ⟨-, b1⟩ := cl_295 (x := nI a) (y := nI d) (K := 6) (s := 1) h33 (by decide)
  obtain ⟨b2, b3⟩ := b0 rfl
  obtain ⟨b4, b5⟩ := b1 o
  have ef : fitT Y 6 a d ↔ Y.1 6 a = 1 ∧ Y.1 6 d = 1 := by unfold fitT; rw [if_neg (by decide), if_neg (by decide), if_neg (by decide), if_pos rfl]
  rw [ef]
  have eC : f_Rd_canBePartsOf 6 (nI a) (nI d) σ = if Y.1 6 a = 1 then (if Y.1 6 d = 1 then 1 else 0) else 0 := by
    rw [f_Rd_canBePartsOf, if_neg (by decide), if_neg (by decide), if_neg (by decide), if_pos rfl, f_Rd_canBePartsOf_76, f_Rd_canBePartsOf_81, sa, sd]; rfl
  have eM : f_Mo_closeBracket_146 (nI a) (nI d) 6 Y = if Y.1 6 a = 1 then (if Y.1 6 d = 1 then f_Mo_closeBracket_295 (nI a) (nI d) 6 1 Y else f_Mo_closeBracket_295 (nI a) (nI d) 6 0 Y) else f_Mo_closeBracket_295 (nI a) (nI d) 6 0 Y := by
    rw [f_Mo_closeBracket_146, if_neg (by decide), if_pos rfl, f_Mo_closeBracket_159, f_Mo_closeBracket_164, if_neg (by decide), if_neg (by decide), if_neg (by decide), if_neg (by decide), if_neg (by decide), if_neg (show ¬ (1 : Int32) = 0 by decide), hca, hcd]; rfl
  have kM : (Y.1 6 a = 1 → Y.1 6 d = 1 → k_Mo_closeBracket_295 (nI a) (nI d) 6 1 Y) → k_Mo_closeBracket_146 (nI a) (nI d) 6 Y := fun w => ⟨fun z => absurd z (by decide), fun _ => ⟨fun _ => ⟨fun z => absurd z (by decide), fun _ => ⟨fun z => absurd z (by decide), fun _ => ⟨fun z => absurd z (by decide), fun _ => ⟨fun z => absurd z (by decide), fun _ => ⟨fun z => absurd z (by decide), fun _ => ⟨hia, fun z1 => ⟨hid, fun z2 => ⟨fun z => absurd z (by decide), fun _ => w (by rw [hca] at z1; exact z1) (by rw [hcd] at z2; exact z2)⟩, fun _ => b2⟩, fun _ => b2⟩⟩⟩⟩⟩⟩, fun z => absurd rfl z⟩⟩
  refine ⟨⟨fun z => absurd z (by decide), fun _ => ⟨fun z => absurd z (by decide), fun _ => ⟨fun z => absurd z (by decide), fun _ => ⟨fun _ => ⟨ksa, fun _ => ⟨ksd, fun _ => ⟨rfl, trivial⟩, fun _ => ⟨rfl, trivial⟩⟩, fun _ => ⟨rfl, trivial⟩⟩, fun z => absurd rfl z⟩⟩⟩⟩, ?_, fun z => ⟨by rw [eM, if_pos z.1, if_pos z.2, b4], fun w => kM (fun _ _ => b5 w)⟩, fun z => ⟨kM (fun w1 w2 => absurd ⟨w1, w2⟩ z), ?_⟩⟩
  · rw [eC]
    by_cases z1 : Y.1 6 a = 1
    · rw [if_pos z1]
      by_cases z2 : Y.1 6 d = 1
      · rw [if_pos z2]; exact ⟨fun w => absurd w o, fun w => absurd ⟨z1, z2⟩ w⟩
      · rw [if_neg z2]; exact ⟨fun _ w => z2 w.2, fun _ => rfl⟩
    · rw [if_neg z1]; exact ⟨fun _ w => z1 w.1, fun _ => rfl⟩
  · rw [eM, b3]
    by_cases z1 : Y.1 6 a = 1
    · rw [if_pos z1, if_neg (fun w => z ⟨z1, w⟩)]
    · rw [if_neg z1]
theorem two_close_8 (h : RD n0 n p b nd σ Y) (hn : n ≤ 206) (ha : a < n) (hd : d < n) : k_Rd_canBePartsOf 8 (nI a) (nI d) σ ∧ (f_Rd_canBePartsOf 8 (nI a) (nI d) σ = 0 ↔ ¬ fitT Y 8 a d) ∧ (fitT Y 8 a d → f_Mo_closeBracket_146 (nI a) (nI d) 8 Y = f_Mo_made 8 (nI a) (nI d) (sF Y 0 33 0) ∧ (k_Mo_made 8 (nI a) (nI d) (sF Y 0 33 0) → k_Mo_closeBracket_146 (nI a) (nI d) 8 Y)) ∧ (¬ fitT Y 8 a d → k_Mo_closeBracket_146 (nI a) (nI d) 8 Y ∧ f_Mo_closeBracket_146 (nI a) (nI d) 8 Y = (0, sF Y 0 33 1)) := by
  have h33 := h.2.2.2.2.1
  obtain ⟨⟨ka, sa⟩, kka, ksa⟩ := h.acc hn ha
  obtain ⟨⟨kd, sd⟩, kkd, ksd⟩ := h.acc hn hd
  have hca : (nI a).toNatClampNeg = a := nI_clamp (by omega)
  have hcd : (nI d).toNatClampNeg = d := nI_clamp (by omega)
  have hia : vp_in (nI a) 400 := by rw [in_iff, i_nI (by omega)]; omega
  have hid : vp_in (nI d) 400 := by rw [in_iff, i_nI (by omega)]; omega
  have o : ¬ (1 : Int32) = 0 := by decide
  obtain ⟨b0, -⟩ := cl_295 (x := nI a) (y := nI d) (K := 8) (s := 0) h33 (by decide)
  obtain ⟨-, b1⟩ := cl_295 (x := nI a) (y := nI d) (K := 8) (s := 1) h33 (by decide)
  obtain ⟨b2, b3⟩ := b0 rfl
  obtain ⟨b4, b5⟩ := b1 o
  have ef : fitT Y 8 a d ↔ Y.1 6 a = 0 ∧ Y.1 6 d = 0 := by unfold fitT; rw [if_neg (by decide), if_neg (by decide), if_neg (by decide), if_neg (by decide)]
  rw [ef]
  have eC : f_Rd_canBePartsOf 8 (nI a) (nI d) σ = if Y.1 6 a = 0 then (if Y.1 6 d = 0 then 1 else 0) else 0 := by
    rw [f_Rd_canBePartsOf, if_neg (by decide), if_neg (by decide), if_neg (by decide), if_neg (by decide), f_Rd_canBePartsOf_81, sa, sd]; rfl
  have tz : ∀ t, t < 400 → ¬ f_Mo_isTruth (nI t) Y = 0 → Y.1 6 t = 0 := fun t ht w => Classical.byContradiction fun w2 => w (by rw [(tr_M ht).2, if_neg w2])
  have tz2 : ∀ t, t < 400 → Y.1 6 t = 0 → ¬ f_Mo_isTruth (nI t) Y = 0 := fun t ht w => by rw [(tr_M ht).2, if_pos w]; exact o
  have tz3 : ∀ t, t < 400 → ¬ Y.1 6 t = 0 → f_Mo_isTruth (nI t) Y = 0 := fun t ht w => by rw [(tr_M ht).2, if_neg w]
  have eM : f_Mo_closeBracket_146 (nI a) (nI d) 8 Y = if f_Mo_isTruth (nI a) Y = 0 then f_Mo_closeBracket_295 (nI a) (nI d) 8 0 Y else (if f_Mo_isTruth (nI d) Y = 0 then f_Mo_closeBracket_295 (nI a) (nI d) 8 0 Y else f_Mo_closeBracket_295 (nI a) (nI d) 8 1 Y) := by
    rw [f_Mo_closeBracket_146, if_neg (by decide), if_neg (by decide), f_Mo_closeBracket_164, if_neg (by decide), if_neg (by decide), if_neg (by decide), if_pos rfl]; rfl
  have kM : (Y.1 6 a = 0 → Y.1 6 d = 0 → k_Mo_closeBracket_295 (nI a) (nI d) 8 1 Y) → k_Mo_closeBracket_146 (nI a) (nI d) 8 Y := fun w => ⟨fun z => absurd z (by decide), fun _ => ⟨fun z => absurd z (by decide), fun _ => ⟨fun z => absurd z (by decide), fun _ => ⟨fun z => absurd z (by decide), fun _ => ⟨fun z => absurd z (by decide), fun _ => ⟨fun _ => ⟨(tr_M (by omega)).1, fun _ => b2, fun z1 => ⟨(tr_M (by omega)).1, fun _ => b2, fun z2 => w (tz a (by omega) z1) (tz d (by omega) z2)⟩⟩, fun z => absurd rfl z⟩⟩⟩⟩⟩⟩
  refine ⟨⟨fun z => absurd z (by decide), fun _ => ⟨fun z => absurd z (by decide), fun _ => ⟨fun z => absurd z (by decide), fun _ => ⟨fun z => absurd z (by decide), fun _ => ⟨ksa, fun _ => ⟨ksd, fun _ => ⟨rfl, trivial⟩, fun _ => ⟨rfl, trivial⟩⟩, fun _ => ⟨rfl, trivial⟩⟩⟩⟩⟩⟩, ?_, fun z => ⟨by rw [eM, if_neg (tz2 a (by omega) z.1), if_neg (tz2 d (by omega) z.2), b4], fun w => kM (fun _ _ => b5 w)⟩, fun z => ⟨kM (fun w1 w2 => absurd ⟨w1, w2⟩ z), ?_⟩⟩
  · rw [eC]
    by_cases z1 : Y.1 6 a = 0
    · rw [if_pos z1]
      by_cases z2 : Y.1 6 d = 0
      · rw [if_pos z2]; exact ⟨fun w => absurd w o, fun w => absurd ⟨z1, z2⟩ w⟩
      · rw [if_neg z2]; exact ⟨fun _ w => z2 w.2, fun _ => rfl⟩
    · rw [if_neg z1]; exact ⟨fun _ w => z1 w.1, fun _ => rfl⟩
  · rw [eM, b3]
    by_cases z1 : Y.1 6 a = 0
    · rw [if_neg (tz2 a (by omega) z1), if_pos (tz3 d (by omega) (fun w => z ⟨z1, w⟩))]
    · rw [if_pos (tz3 a (by omega) z1)]
theorem two_close_9 (h : RD n0 n p b nd σ Y) (hn : n ≤ 206) (ha : a < n) (hd : d < n) : k_Rd_canBePartsOf 9 (nI a) (nI d) σ ∧ (f_Rd_canBePartsOf 9 (nI a) (nI d) σ = 0 ↔ ¬ fitT Y 9 a d) ∧ (fitT Y 9 a d → f_Mo_closeBracket_146 (nI a) (nI d) 9 Y = f_Mo_made 9 (nI a) (nI d) (sF Y 0 33 0) ∧ (k_Mo_made 9 (nI a) (nI d) (sF Y 0 33 0) → k_Mo_closeBracket_146 (nI a) (nI d) 9 Y)) ∧ (¬ fitT Y 9 a d → k_Mo_closeBracket_146 (nI a) (nI d) 9 Y ∧ f_Mo_closeBracket_146 (nI a) (nI d) 9 Y = (0, sF Y 0 33 1)) := by
  have h33 := h.2.2.2.2.1
  obtain ⟨⟨ka, sa⟩, kka, ksa⟩ := h.acc hn ha
  obtain ⟨⟨kd, sd⟩, kkd, ksd⟩ := h.acc hn hd
  have hca : (nI a).toNatClampNeg = a := nI_clamp (by omega)
  have hcd : (nI d).toNatClampNeg = d := nI_clamp (by omega)
  have hia : vp_in (nI a) 400 := by rw [in_iff, i_nI (by omega)]; omega
  have hid : vp_in (nI d) 400 := by rw [in_iff, i_nI (by omega)]; omega
  have o : ¬ (1 : Int32) = 0 := by decide
  obtain ⟨b0, -⟩ := cl_295 (x := nI a) (y := nI d) (K := 9) (s := 0) h33 (by decide)
  obtain ⟨-, b1⟩ := cl_295 (x := nI a) (y := nI d) (K := 9) (s := 1) h33 (by decide)
  obtain ⟨b2, b3⟩ := b0 rfl
  obtain ⟨b4, b5⟩ := b1 o
  have ef : fitT Y 9 a d ↔ Y.1 6 a = 0 ∧ Y.1 6 d = 0 := by unfold fitT; rw [if_neg (by decide), if_neg (by decide), if_neg (by decide), if_neg (by decide)]
  rw [ef]
  have eC : f_Rd_canBePartsOf 9 (nI a) (nI d) σ = if Y.1 6 a = 0 then (if Y.1 6 d = 0 then 1 else 0) else 0 := by
    rw [f_Rd_canBePartsOf, if_neg (by decide), if_neg (by decide), if_neg (by decide), if_neg (by decide), f_Rd_canBePartsOf_81, sa, sd]; rfl
  have tz : ∀ t, t < 400 → ¬ f_Mo_isTruth (nI t) Y = 0 → Y.1 6 t = 0 := fun t ht w => Classical.byContradiction fun w2 => w (by rw [(tr_M ht).2, if_neg w2])
  have tz2 : ∀ t, t < 400 → Y.1 6 t = 0 → ¬ f_Mo_isTruth (nI t) Y = 0 := fun t ht w => by rw [(tr_M ht).2, if_pos w]; exact o
  have tz3 : ∀ t, t < 400 → ¬ Y.1 6 t = 0 → f_Mo_isTruth (nI t) Y = 0 := fun t ht w => by rw [(tr_M ht).2, if_neg w]
  have eM : f_Mo_closeBracket_146 (nI a) (nI d) 9 Y = if f_Mo_isTruth (nI a) Y = 0 then f_Mo_closeBracket_295 (nI a) (nI d) 9 0 Y else (if f_Mo_isTruth (nI d) Y = 0 then f_Mo_closeBracket_295 (nI a) (nI d) 9 0 Y else f_Mo_closeBracket_295 (nI a) (nI d) 9 1 Y) := by
    rw [f_Mo_closeBracket_146, if_neg (by decide), if_neg (by decide), f_Mo_closeBracket_164, if_neg (by decide), if_neg (by decide), if_neg (by decide), if_neg (by decide), if_pos rfl]; rfl
  have kM : (Y.1 6 a = 0 → Y.1 6 d = 0 → k_Mo_closeBracket_295 (nI a) (nI d) 9 1 Y) → k_Mo_closeBracket_146 (nI a) (nI d) 9 Y := fun w => ⟨fun z => absurd z (by decide), fun _ => ⟨fun z => absurd z (by decide), fun _ => ⟨fun z => absurd z (by decide), fun _ => ⟨fun z => absurd z (by decide), fun _ => ⟨fun z => absurd z (by decide), fun _ => ⟨fun z => absurd z (by decide), fun _ => ⟨fun _ => ⟨(tr_M (by omega)).1, fun _ => b2, fun z1 => ⟨(tr_M (by omega)).1, fun _ => b2, fun z2 => w (tz a (by omega) z1) (tz d (by omega) z2)⟩⟩, fun z => absurd rfl z⟩⟩⟩⟩⟩⟩⟩
  refine ⟨⟨fun z => absurd z (by decide), fun _ => ⟨fun z => absurd z (by decide), fun _ => ⟨fun z => absurd z (by decide), fun _ => ⟨fun z => absurd z (by decide), fun _ => ⟨ksa, fun _ => ⟨ksd, fun _ => ⟨rfl, trivial⟩, fun _ => ⟨rfl, trivial⟩⟩, fun _ => ⟨rfl, trivial⟩⟩⟩⟩⟩⟩, ?_, fun z => ⟨by rw [eM, if_neg (tz2 a (by omega) z.1), if_neg (tz2 d (by omega) z.2), b4], fun w => kM (fun _ _ => b5 w)⟩, fun z => ⟨kM (fun w1 w2 => absurd ⟨w1, w2⟩ z), ?_⟩⟩
  · rw [eC]
    by_cases z1 : Y.1 6 a = 0
    · rw [if_pos z1]
      by_cases z2 : Y.1 6 d = 0
      · rw [if_pos z2]; exact ⟨fun w => absurd w o, fun w => absurd ⟨z1, z2⟩ w⟩
      · rw [if_neg z2]; exact ⟨fun _ w => z2 w.2, fun _ => rfl⟩
    · rw [if_neg z1]; exact ⟨fun _ w => z1 w.1, fun _ => rfl⟩
  · rw [eM, b3]
    by_cases z1 : Y.1 6 a = 0
    · rw [if_neg (tz2 a (by omega) z1), if_pos (tz3 d (by omega) (fun w => z ⟨z1, w⟩))]
    · rw [if_pos (tz3 a (by omega) z1)]
theorem two_close {K : Int32} (hK : two6 K) (h : RD n0 n p b nd σ Y) (hn : n ≤ 206) (ha : a < n) (hd : d < n) : k_Rd_canBePartsOf K (nI a) (nI d) σ ∧ (f_Rd_canBePartsOf K (nI a) (nI d) σ = 0 ↔ ¬ fitT Y K a d) ∧ (fitT Y K a d → f_Mo_closeBracket_146 (nI a) (nI d) K Y = f_Mo_made K (nI a) (nI d) (sF Y 0 33 0) ∧ (k_Mo_made K (nI a) (nI d) (sF Y 0 33 0) → k_Mo_closeBracket_146 (nI a) (nI d) K Y)) ∧ (¬ fitT Y K a d → k_Mo_closeBracket_146 (nI a) (nI d) K Y ∧ f_Mo_closeBracket_146 (nI a) (nI d) K Y = (0, sF Y 0 33 1)) := by
  rcases hK with rfl | rfl | rfl | rfl | rfl | rfl
  · exact two_close_3 h hn ha hd
  · exact two_close_4 h hn ha hd
  · exact two_close_5 h hn ha hd
  · exact two_close_6 h hn ha hd
  · exact two_close_8 h hn ha hd
  · exact two_close_9 h hn ha hd
theorem two_make {K : Int32} (hK : two6 K) (h : RD n0 n p b nd σ Y) (hn : n ≤ 206) (ha : a < n) (hd : d < n) (hf : fitT Y K a d) : ∃ s, s = (if 4 < K then 0 else 1) ∧ k_Te_make K s (-1) (nI a) (nI d) σ ∧ k_Mo_made K (nI a) (nI d) Y ∧ ∃ m n' σ' τ', f_Te_make K s (-1) (nI a) (nI d) σ = (nI m, σ') ∧ f_Mo_made K (nI a) (nI d) Y = (nI m, τ') ∧ m < n' ∧ n ≤ n' ∧ n' ≤ n + 1 ∧ RD n0 n' p b nd σ' τ' ∧ rwM n Y τ' ∧ fcR σ σ' ∧ fmR Y τ' ∧ ∀ c, 22 ≤ c → c ≤ 25 → τ'.1 c = Y.1 c := by
  have na : ¬ nI a = -1 := nI_ne_m1 (by omega)
  have nd' : ¬ nI d = -1 := nI_ne_m1 (by omega)
  have hca : (nI a).toNatClampNeg = a := nI_clamp (by omega)
  have hcd : (nI d).toNatClampNeg = d := nI_clamp (by omega)
  have pa : ∀ f : Nat → Int32, pO f (nI a) = f a := fun f => by unfold pO; rw [if_neg na, hca]
  have pd : ∀ f : Nat → Int32, pO f (nI d) = f d := fun f => by unfold pO; rw [if_neg nd', hcd]
  rcases hK with rfl | rfl | rfl | rfl | rfl | rfl
  · have hf : Y.1 6 a = 1 ∧ Y.1 6 d = 1 := by unfold fitT at hf; rw [if_neg (by decide), if_neg (by decide), if_pos rfl] at hf; exact hf
    obtain ⟨k1, k2, m, n', σ', τ', f1, f2, g⟩ := h.make (k := 3) (s := 1) (l := -1) (a := nI a) (c := nI d) hn ⟨3, by omega, by decide +kernel⟩ (by decide) (by decide) ⟨1, by omega, by decide +kernel⟩ (Or.inr ⟨a, ha, rfl⟩) (Or.inr ⟨d, hd, rfl⟩) (fun z => absurd z na)
      (fun τ' r5 r6 r8 r9 r10 ag => by
        unfold kdW
        rw [r5, r6, r8, r9, r10]
        exact ⟨fun z => absurd z (by decide), fun z => absurd z (by decide), fun _ => ⟨na, nd', rfl, rfl, by rw [pa, ag 6 (by omega) (by omega) a ha]; exact hf.1, by rw [pd, ag 6 (by omega) (by omega) d hd]; exact hf.2⟩, fun z => absurd z (by decide), fun z => absurd z (by decide), fun z => absurd z (by decide), fun z => absurd z (by decide), fun z => absurd z (by decide), fun z => absurd z (by decide), fun z => absurd z (by decide)⟩)
      (fun _ _ _ => ⟨fun z => absurd z (by decide), fun z => absurd z (by decide)⟩)
    refine ⟨1, by decide, k1, ⟨fun _ => ⟨k2, trivial⟩, fun z => absurd rfl z⟩, m, n', σ', τ', f1, ?_, g⟩
    rw [f_Mo_made, if_pos rfl]
    show ((f_Mo_found 3 1 (nI a) (nI d) (-1) 0 0 Y).1, (f_Mo_found 3 1 (nI a) (nI d) (-1) 0 0 Y).2) = _
    rw [f2]
  · have hf : Y.1 5 a = 2 ∧ Y.1 6 d = 1 := by unfold fitT at hf; rw [if_neg (by decide), if_pos rfl] at hf; exact hf
    obtain ⟨k1, k2, m, n', σ', τ', f1, f2, g⟩ := h.make (k := 4) (s := 1) (l := -1) (a := nI a) (c := nI d) hn ⟨4, by omega, by decide +kernel⟩ (by decide) (by decide) ⟨1, by omega, by decide +kernel⟩ (Or.inr ⟨a, ha, rfl⟩) (Or.inr ⟨d, hd, rfl⟩) (fun z => absurd z na)
      (fun τ' r5 r6 r8 r9 r10 ag => by
        unfold kdW
        rw [r5, r6, r8, r9, r10]
        exact ⟨fun z => absurd z (by decide), fun z => absurd z (by decide), fun z => absurd z (by decide), fun _ => ⟨na, nd', rfl, rfl, by rw [pa, ag 5 (by omega) (by omega) a ha]; exact hf.1, by rw [pd, ag 6 (by omega) (by omega) d hd]; exact hf.2⟩, fun z => absurd z (by decide), fun z => absurd z (by decide), fun z => absurd z (by decide), fun z => absurd z (by decide), fun z => absurd z (by decide), fun z => absurd z (by decide)⟩)
      (fun _ _ _ => ⟨fun z => absurd z (by decide), fun z => absurd z (by decide)⟩)
    refine ⟨1, by decide, k1, ⟨fun z => absurd z (by decide), fun _ => ⟨fun _ => ⟨k2, trivial⟩, fun z => absurd rfl z⟩⟩, m, n', σ', τ', f1, ?_, g⟩
    rw [f_Mo_made, if_neg (by decide), if_pos rfl]
    show ((f_Mo_found 4 1 (nI a) (nI d) (-1) 0 0 Y).1, (f_Mo_found 4 1 (nI a) (nI d) (-1) 0 0 Y).2) = _
    rw [f2]
  · have hf : Y.1 6 a = Y.1 6 d := by unfold fitT at hf; rw [if_pos rfl] at hf; exact hf
    obtain ⟨k1, k2, m, n', σ', τ', f1, f2, g⟩ := h.make (k := 5) (s := 0) (l := -1) (a := nI a) (c := nI d) hn ⟨5, by omega, by decide +kernel⟩ (by decide) (by decide) ⟨0, by omega, by decide +kernel⟩ (Or.inr ⟨a, ha, rfl⟩) (Or.inr ⟨d, hd, rfl⟩) (fun z => absurd z na)
      (fun τ' r5 r6 r8 r9 r10 ag => by
        unfold kdW
        rw [r5, r6, r8, r9, r10]
        exact ⟨fun z => absurd z (by decide), fun z => absurd z (by decide), fun z => absurd z (by decide), fun z => absurd z (by decide), fun _ => ⟨na, nd', rfl, rfl, by rw [pa, pd, ag 6 (by omega) (by omega) a ha, ag 6 (by omega) (by omega) d hd]; exact hf⟩, fun z => absurd z (by decide), fun z => absurd z (by decide), fun z => absurd z (by decide), fun z => absurd z (by decide), fun z => absurd z (by decide)⟩)
      (fun _ _ _ => ⟨fun z => absurd z (by decide), fun z => absurd z (by decide)⟩)
    refine ⟨0, by decide, k1, ⟨fun z => absurd z (by decide), fun _ => ⟨fun z => absurd z (by decide), fun _ => ⟨k2, trivial⟩⟩⟩, m, n', σ', τ', f1, ?_, g⟩
    rw [f_Mo_made, if_neg (by decide), if_neg (by decide)]
    show ((f_Mo_found 5 0 (nI a) (nI d) (-1) 0 0 Y).1, (f_Mo_found 5 0 (nI a) (nI d) (-1) 0 0 Y).2) = _
    rw [f2]
  · have hf : Y.1 6 a = 1 ∧ Y.1 6 d = 1 := by unfold fitT at hf; rw [if_neg (by decide), if_neg (by decide), if_neg (by decide), if_pos rfl] at hf; exact hf
    obtain ⟨k1, k2, m, n', σ', τ', f1, f2, g⟩ := h.make (k := 6) (s := 0) (l := -1) (a := nI a) (c := nI d) hn ⟨6, by omega, by decide +kernel⟩ (by decide) (by decide) ⟨0, by omega, by decide +kernel⟩ (Or.inr ⟨a, ha, rfl⟩) (Or.inr ⟨d, hd, rfl⟩) (fun z => absurd z na)
      (fun τ' r5 r6 r8 r9 r10 ag => by
        unfold kdW
        rw [r5, r6, r8, r9, r10]
        exact ⟨fun z => absurd z (by decide), fun z => absurd z (by decide), fun z => absurd z (by decide), fun z => absurd z (by decide), fun z => absurd z (by decide), fun _ => ⟨na, nd', rfl, rfl, by rw [pa, ag 6 (by omega) (by omega) a ha]; exact hf.1, by rw [pd, ag 6 (by omega) (by omega) d hd]; exact hf.2⟩, fun z => absurd z (by decide), fun z => absurd z (by decide), fun z => absurd z (by decide), fun z => absurd z (by decide)⟩)
      (fun _ _ _ => ⟨fun z => absurd z (by decide), fun z => absurd z (by decide)⟩)
    refine ⟨0, by decide, k1, ⟨fun z => absurd z (by decide), fun _ => ⟨fun z => absurd z (by decide), fun _ => ⟨k2, trivial⟩⟩⟩, m, n', σ', τ', f1, ?_, g⟩
    rw [f_Mo_made, if_neg (by decide), if_neg (by decide)]
    show ((f_Mo_found 6 0 (nI a) (nI d) (-1) 0 0 Y).1, (f_Mo_found 6 0 (nI a) (nI d) (-1) 0 0 Y).2) = _
    rw [f2]
  · have hf : Y.1 6 a = 0 ∧ Y.1 6 d = 0 := by unfold fitT at hf; rw [if_neg (by decide), if_neg (by decide), if_neg (by decide), if_neg (by decide)] at hf; exact hf
    obtain ⟨k1, k2, m, n', σ', τ', f1, f2, g⟩ := h.make (k := 8) (s := 0) (l := -1) (a := nI a) (c := nI d) hn ⟨8, by omega, by decide +kernel⟩ (by decide) (by decide) ⟨0, by omega, by decide +kernel⟩ (Or.inr ⟨a, ha, rfl⟩) (Or.inr ⟨d, hd, rfl⟩) (fun z => absurd z na)
      (fun τ' r5 r6 r8 r9 r10 ag => by
        unfold kdW
        rw [r5, r6, r8, r9, r10]
        exact ⟨fun z => absurd z (by decide), fun z => absurd z (by decide), fun z => absurd z (by decide), fun z => absurd z (by decide), fun z => absurd z (by decide), fun z => absurd z (by decide), fun z => absurd z (by decide), fun _ => ⟨na, nd', rfl, rfl, by rw [pa, ag 6 (by omega) (by omega) a ha]; exact hf.1, by rw [pd, ag 6 (by omega) (by omega) d hd]; exact hf.2⟩, fun z => absurd z (by decide), fun z => absurd z (by decide)⟩)
      (fun _ _ _ => ⟨fun z => absurd z (by decide), fun z => absurd z (by decide)⟩)
    refine ⟨0, by decide, k1, ⟨fun z => absurd z (by decide), fun _ => ⟨fun z => absurd z (by decide), fun _ => ⟨k2, trivial⟩⟩⟩, m, n', σ', τ', f1, ?_, g⟩
    rw [f_Mo_made, if_neg (by decide), if_neg (by decide)]
    show ((f_Mo_found 8 0 (nI a) (nI d) (-1) 0 0 Y).1, (f_Mo_found 8 0 (nI a) (nI d) (-1) 0 0 Y).2) = _
    rw [f2]
  · have hf : Y.1 6 a = 0 ∧ Y.1 6 d = 0 := by unfold fitT at hf; rw [if_neg (by decide), if_neg (by decide), if_neg (by decide), if_neg (by decide)] at hf; exact hf
    obtain ⟨k1, k2, m, n', σ', τ', f1, f2, g⟩ := h.make (k := 9) (s := 0) (l := -1) (a := nI a) (c := nI d) hn ⟨9, by omega, by decide +kernel⟩ (by decide) (by decide) ⟨0, by omega, by decide +kernel⟩ (Or.inr ⟨a, ha, rfl⟩) (Or.inr ⟨d, hd, rfl⟩) (fun z => absurd z na)
      (fun τ' r5 r6 r8 r9 r10 ag => by
        unfold kdW
        rw [r5, r6, r8, r9, r10]
        exact ⟨fun z => absurd z (by decide), fun z => absurd z (by decide), fun z => absurd z (by decide), fun z => absurd z (by decide), fun z => absurd z (by decide), fun z => absurd z (by decide), fun z => absurd z (by decide), fun z => absurd z (by decide), fun _ => ⟨na, nd', rfl, rfl, by rw [pa, ag 6 (by omega) (by omega) a ha]; exact hf.1, by rw [pd, ag 6 (by omega) (by omega) d hd]; exact hf.2⟩, fun z => absurd z (by decide)⟩)
      (fun _ _ _ => ⟨fun z => absurd z (by decide), fun z => absurd z (by decide)⟩)
    refine ⟨0, by decide, k1, ⟨fun z => absurd z (by decide), fun _ => ⟨fun z => absurd z (by decide), fun _ => ⟨k2, trivial⟩⟩⟩, m, n', σ', τ', f1, ?_, g⟩
    rw [f_Mo_made, if_neg (by decide), if_neg (by decide)]
    show ((f_Mo_found 9 0 (nI a) (nI d) (-1) 0 0 Y).1, (f_Mo_found 9 0 (nI a) (nI d) (-1) 0 0 Y).2) = _
    rw [f2]
end TWO
