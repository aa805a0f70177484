-- reading: a bracket opens
def isS (c : Int32) : Prop := c = 43 ∨ c = 42 ∨ c = 61 ∨ c = 60 ∨ c = 126 ∨ c = 38 ∨ c = 124 ∨ c = 33
theorem sign_M (c : Int32) (σ : St) : k_Mo_isSign c σ ∧ (f_Mo_isSign c σ = 0 ↔ ¬ isS c) := by
  refine ⟨⟨fun _ => ⟨rfl, trivial⟩, fun _ => ⟨fun _ => ⟨rfl, trivial⟩, fun _ => ⟨fun _ => ⟨rfl, trivial⟩, fun _ => ⟨fun _ => ⟨rfl, trivial⟩, fun _ => ⟨fun _ => ⟨rfl, trivial⟩, fun _ => ⟨fun _ => ⟨rfl, trivial⟩, fun _ => ⟨fun _ => ⟨rfl, trivial⟩, fun _ => ⟨fun _ => ⟨rfl, trivial⟩, fun _ => ⟨rfl, trivial⟩⟩⟩⟩⟩⟩⟩⟩⟩, ?_⟩
  have o : ¬ (1 : Int32) = 0 := by decide
  show (if c = 43 then (1 : Int32) else (if c = 42 then 1 else (if c = 61 then 1 else (if c = 60 then 1 else (if c = 126 then 1 else (if c = 38 then 1 else (if c = 124 then 1 else (if c = 33 then 1 else 0)))))))) = 0 ↔ _
  unfold isS
  by_cases h1 : c = 43
  · rw [if_pos h1]; exact ⟨fun w => absurd w o, fun w => absurd (Or.inl h1) w⟩
  rw [if_neg h1]
  by_cases h2 : c = 42
  · rw [if_pos h2]; exact ⟨fun w => absurd w o, fun w => absurd (Or.inr (Or.inl h2)) w⟩
  rw [if_neg h2]
  by_cases h3 : c = 61
  · rw [if_pos h3]; exact ⟨fun w => absurd w o, fun w => absurd (Or.inr (Or.inr (Or.inl h3))) w⟩
  rw [if_neg h3]
  by_cases h4 : c = 60
  · rw [if_pos h4]; exact ⟨fun w => absurd w o, fun w => absurd (Or.inr (Or.inr (Or.inr (Or.inl h4)))) w⟩
  rw [if_neg h4]
  by_cases h5 : c = 126
  · rw [if_pos h5]; exact ⟨fun w => absurd w o, fun w => absurd (Or.inr (Or.inr (Or.inr (Or.inr (Or.inl h5))))) w⟩
  rw [if_neg h5]
  by_cases h6 : c = 38
  · rw [if_pos h6]; exact ⟨fun w => absurd w o, fun w => absurd (Or.inr (Or.inr (Or.inr (Or.inr (Or.inr (Or.inl h6)))))) w⟩
  rw [if_neg h6]
  by_cases h7 : c = 124
  · rw [if_pos h7]; exact ⟨fun w => absurd w o, fun w => absurd (Or.inr (Or.inr (Or.inr (Or.inr (Or.inr (Or.inr (Or.inl h7))))))) w⟩
  rw [if_neg h7]
  by_cases h8 : c = 33
  · rw [if_pos h8]; exact ⟨fun w => absurd w o, fun w => absurd (Or.inr (Or.inr (Or.inr (Or.inr (Or.inr (Or.inr (Or.inr h8))))))) w⟩
  rw [if_neg h8]
  refine ⟨fun _ w => ?_, fun _ => rfl⟩
  rcases w with w | w | w | w | w | w | w | w
  · exact h1 w
  · exact h2 w
  · exact h3 w
  · exact h4 w
  · exact h5 w
  · exact h6 w
  · exact h7 w
  · exact h8 w
/-- a symbol that takes parts -/
def sgF (τ : St) (c : Int32) : Prop := ¬ c < 97 ∧ ¬ 108 < c ∧ ¬ τ.1 0 3 ≤ c - 97 ∧ ¬ τ.1 2 (c - 97).toNatClampNeg < 0
/-- behind the first two letters of a bracket -/
def opT (p : Nat) (τ : St) : St := sF (sF τ 0 32 (nI (p + 1))) 0 32 (nI (p + 2))
def opS (p b : Nat) (c : Int32) (τ : St) : St := sF (sA (sA (sA (sA (sF (opT p τ) 0 33 0) 22 (nI b) c) 23 (nI b) 0) 24 (nI b) (-1)) 25 (nI b) (-1)) 0 34 (nI (b + 1))
section OPN
variable {n0 n p b nd : Nat} {σ τ X : St}
theorem open_M (h : RD n0 n p b nd σ τ) : (b = 12 ∨ (¬ sgF τ (ltr τ nd (p + 1)) ∧ ¬ isS (ltr τ nd (p + 1))) → k_Mo_openBracket τ ∧ f_Mo_openBracket τ = sF (opT p τ) 0 33 1) ∧
    (b < 12 → (sgF τ (ltr τ nd (p + 1)) ∨ isS (ltr τ nd (p + 1))) → f_Mo_openBracket τ = f_Mo_openBracket_160 (ltr τ nd (p + 1)) (opS p b (ltr τ nd (p + 1)) τ) ∧ (k_Mo_openBracket_160 (ltr τ nd (p + 1)) (opS p b (ltr τ nd (p + 1)) τ) → k_Mo_openBracket τ)) := by
  obtain ⟨hp, -, e32⟩ := h.2.2.2.1
  have h120 := h.2.2.1.1
  have e33 := h.2.2.2.2.1
  obtain ⟨hb, e34⟩ := h.2.2.2.2.2
  have hd : DD nd σ (sF τ 0 32 (nI (p + 1))) := h.2.2.1
  obtain ⟨c1, c2⟩ := peek_M (p := p + 1) hd rfl (by omega)
  have c2 : f_Mo_peek (sF τ 0 32 (nI (p + 1))) = ltr τ nd (p + 1) := c2
  obtain ⟨⟨ny, y1, y2, -⟩, -⟩ := sg_at (i := 0) h.2.1 (by omega)
  have hin : vp_in (nI b) 40 := by rw [in_iff, i_nI (by omega)]; omega
  generalize ltr τ nd (p + 1) = c at *
  obtain ⟨sk, ss⟩ := sign_M c (opT p τ)
  have b12 : τ.1 0 34 = 12 ↔ b = 12 := by rw [e34]; exact nI_inj (b := 12) (by omega) (by omega)
  have e0 : f_Mo_openBracket τ = f_Mo_openBracket_25 c (opT p τ) := by
    show f_Mo_openBracket_25 (f_Mo_peek (sF τ 0 32 (τ.1 0 32 + 1))) (sF (sF τ 0 32 (τ.1 0 32 + 1)) 0 32 (τ.1 0 32 + 1 + 1)) = _
    rw [e32, ← nI_succ, ← nI_succ, c2]; rfl
  have k0 : k_Mo_openBracket_25 c (opT p τ) → k_Mo_openBracket τ := fun w => by
    show k_Mo_openBracket_10 (sF τ 0 32 (τ.1 0 32 + 1))
    rw [e32, ← nI_succ]
    refine ⟨c1, ?_⟩
    rw [c2]
    show k_Mo_openBracket_25 c (sF (sF τ 0 32 (nI (p + 1))) 0 32 (nI (p + 1) + 1))
    rw [← nI_succ]; exact w
  -- both roads from the letter on
  have e94 : f_Mo_openBracket_94 c (opT p τ) = sF (opT p τ) 0 33 1 := by
    show f_Mo_openBracket_102 c (sF (opT p τ) 0 33 1) = _
    rw [f_Mo_openBracket_102, if_neg (show ¬ (sF (opT p τ) 0 33 1).1 0 33 = 0 from (by decide : ¬ (1 : Int32) = 0))]
  have k94 : k_Mo_openBracket_94 c (opT p τ) := ⟨⟨rfl, rfl⟩, fun z => absurd z (show ¬ (1 : Int32) = 0 by decide), fun _ => trivial⟩
  have e98 : f_Mo_openBracket_98 c (opT p τ) = f_Mo_openBracket_160 c (opS p b c τ) := by
    show f_Mo_openBracket_102 c (sF (opT p τ) 0 33 0) = _
    rw [f_Mo_openBracket_102, if_pos (show (sF (opT p τ) 0 33 0).1 0 33 = 0 from rfl)]
    show f_Mo_openBracket_160 c (sF (sA (sA (sA (sA (sF (opT p τ) 0 33 0) 22 (τ.1 0 34) c) 23 (τ.1 0 34) 0) 24 (τ.1 0 34) (-1)) 25 (τ.1 0 34) (-1)) 0 34 (τ.1 0 34 + 1)) = _
    rw [e34, ← nI_succ]; rfl
  have k98 : k_Mo_openBracket_160 c (opS p b c τ) → k_Mo_openBracket_98 c (opT p τ) := fun w => by
    refine ⟨⟨rfl, rfl⟩, fun _ => ⟨?_, ?_⟩, fun z => absurd rfl z⟩
    · show vp_in (τ.1 0 34) 40
      rw [e34]; exact hin
    · refine ⟨?_, ?_, ?_, ?_⟩
      · show vp_in (τ.1 0 34) 40
        rw [e34]; exact hin
      · show vp_in (τ.1 0 34) 40
        rw [e34]; exact hin
      · show vp_in (τ.1 0 34) 40
        rw [e34]; exact hin
      · show k_Mo_openBracket_160 c (sF (sA (sA (sA (sA (sF (opT p τ) 0 33 0) 22 (τ.1 0 34) c) 23 (τ.1 0 34) 0) 24 (τ.1 0 34) (-1)) 25 (τ.1 0 34) (-1)) 0 34 (τ.1 0 34 + 1))
        rw [e34, ← nI_succ]; exact w
  have o33 : (opT p τ).1 0 33 = 0 := e33
  have o34 : (opT p τ).1 0 34 = τ.1 0 34 := rfl
  have e65 : ∀ s : Int32, f_Mo_openBracket_65 c s (opT p τ) = if τ.1 0 34 = 12 then sF (opT p τ) 0 33 1 else (if s = 0 then (if f_Mo_isSign c (opT p τ) = 0 then sF (opT p τ) 0 33 1 else f_Mo_openBracket_160 c (opS p b c τ)) else f_Mo_openBracket_160 c (opS p b c τ)) := fun s => by
    rw [f_Mo_openBracket_65, if_pos o33, e94, e98, o34]
  have k65 : ∀ s : Int32, (¬ τ.1 0 34 = 12 → (¬ s = 0 ∨ ¬ f_Mo_isSign c (opT p τ) = 0) → k_Mo_openBracket_160 c (opS p b c τ)) → k_Mo_openBracket_65 c s (opT p τ) := fun s w => ⟨fun _ => ⟨fun _ => k94, fun z => ⟨fun _ => ⟨sk, fun _ => k94, fun z2 => k98 (w z (Or.inr z2))⟩, fun z2 => k98 (w z (Or.inl z2))⟩⟩, fun z => absurd o33 z⟩
  have e25 : ∃ s : Int32, (s = 0 ∨ s = 1) ∧ (¬ s = 0 ↔ sgF τ c) ∧ f_Mo_openBracket_25 c (opT p τ) = f_Mo_openBracket_65 c s (opT p τ) ∧ (k_Mo_openBracket_65 c s (opT p τ) → k_Mo_openBracket_25 c (opT p τ)) := by
    have o3 : (opT p τ).1 0 3 = τ.1 0 3 := rfl
    have o2 : (opT p τ).1 2 = τ.1 2 := rfl
    have k64 : k_Mo_openBracket_65 c 0 (opT p τ) → k_Mo_openBracket_64 c (opT p τ) := fun w => w
    unfold sgF
    by_cases z1 : c < 97
    · refine ⟨0, Or.inl rfl, ⟨fun w => absurd rfl w, fun w => absurd z1 w.1⟩, ?_, fun w => ⟨fun _ => w, fun z => absurd z1 z⟩⟩
      rw [f_Mo_openBracket_25, if_pos z1]; rfl
    · by_cases z2 : 108 < c
      · refine ⟨0, Or.inl rfl, ⟨fun w => absurd rfl w, fun w => absurd z2 w.2.1⟩, ?_, fun w => ⟨fun z => absurd z z1, fun _ => ⟨fun _ => w, fun z => absurd z2 z⟩⟩⟩
        rw [f_Mo_openBracket_25, if_neg z1, if_pos z2]; rfl
      · by_cases z3 : τ.1 0 3 ≤ c - 97
        · refine ⟨0, Or.inl rfl, ⟨fun w => absurd rfl w, fun w => absurd z3 w.2.2.1⟩, ?_, fun w => ⟨fun z => absurd z z1, fun _ => ⟨fun z => absurd z z2, fun _ => ⟨fun _ => w, fun z => absurd z3 z⟩⟩⟩⟩
          rw [f_Mo_openBracket_25, if_neg z1, if_neg z2, o3, if_pos z3]; rfl
        · have hv : vp_in (c - 97) 12 := by
            have e97 : (97 : Int32).toInt = 97 := by decide
            have q1 : ¬ c.toInt < 97 := fun w => z1 (by rw [Int32.lt_iff_toInt_lt, e97]; exact w)
            have rg := i_rng c
            have es : (c - 97).toInt = c.toInt - 97 := by rw [i_sub (by rw [e97]; omega), e97]
            rw [y2, Int32.le_iff_toInt_le, i_nI (by omega), es] at z3
            rw [in_iff, es]; omega
          by_cases z4 : τ.1 2 (c - 97).toNatClampNeg < 0
          · refine ⟨0, Or.inl rfl, ⟨fun w => absurd rfl w, fun w => absurd z4 w.2.2.2⟩, ?_, fun w => ⟨fun z => absurd z z1, fun _ => ⟨fun z => absurd z z2, fun _ => ⟨fun z => absurd z z3, fun _ => ⟨hv, fun _ => w, fun z => absurd z4 z⟩⟩⟩⟩⟩
            rw [f_Mo_openBracket_25, if_neg z1, if_neg z2, o3, if_neg z3, o2, if_pos z4]; rfl
          · refine ⟨1, Or.inr rfl, ⟨fun _ => ⟨z1, z2, z3, z4⟩, fun _ => by decide⟩, ?_, fun w => ⟨fun z => absurd z z1, fun _ => ⟨fun z => absurd z z2, fun _ => ⟨fun z => absurd z z3, fun _ => ⟨hv, fun z => absurd z z4, fun _ => w⟩⟩⟩⟩⟩
            rw [f_Mo_openBracket_25, if_neg z1, if_neg z2, o3, if_neg z3, o2, if_neg z4]
  obtain ⟨s, -, hs, es, kS⟩ := e25
  refine ⟨fun hbad => ?_, fun hb2 hg => ?_⟩
  · have w : ∀ X : St, (if τ.1 0 34 = 12 then sF (opT p τ) 0 33 1 else (if s = 0 then (if f_Mo_isSign c (opT p τ) = 0 then sF (opT p τ) 0 33 1 else X) else X)) = sF (opT p τ) 0 33 1 := fun X => by
      rcases hbad with hbad | ⟨g1, g2⟩
      · rw [if_pos (b12.mpr hbad)]
      · rw [if_pos (Classical.byContradiction fun z => g1 (hs.mp z)), if_pos (ss.mpr g2), ite_self]
    refine ⟨k0 (kS (k65 s (fun z1 z2 => ?_))), by rw [e0, es, e65, w]⟩
    rcases hbad with hbad | ⟨g1, g2⟩
    · exact absurd (b12.mpr hbad) z1
    · rcases z2 with z2 | z2
      · exact absurd (hs.mp z2) g1
      · exact absurd (ss.mpr g2) z2
  · refine ⟨?_, fun w => k0 (kS (k65 s (fun _ _ => w)))⟩
    rw [e0, es, e65, if_neg (fun z => by have := b12.mp z; omega)]
    rcases hg with hg | hg
    · rw [if_neg (hs.mpr hg)]
    · by_cases z : s = 0
      · rw [if_pos z, if_neg (fun w => ss.mp w hg)]
      · rw [if_neg z]
theorem RD.op {c : Int32} (h : RD n0 n p b nd σ τ) (hb : b < 12) (hp : p + 1 < nd) : RD n0 n (p + 2) (b + 1) nd (sF σ 20 3 (nI (p + 2))) (opS p b c τ) ∧ fmR τ (opS p b c τ) ∧ stk b τ (opS p b c τ) ∧ (∀ j, rwM j τ (opS p b c τ)) ∧ (opS p b c τ).1 22 b = c ∧ (opS p b c τ).1 23 b = 0 ∧ (opS p b c τ).1 24 b = -1 ∧ (opS p b c τ).1 25 b = -1 := by
  have hcl : (nI b).toNatClampNeg = b := nI_clamp (by omega)
  have ot : ∀ k, ¬ k = 0 → k < 22 ∨ 25 < k → (opS p b c τ).1 k = τ.1 k := fun k q1 q2 => by
    show pu (pu (pu (pu (pu (pu (pu (pu τ.1 0 _) 0 _) 0 _) 22 _) 23 _) 24 _) 25 _) 0 _ k = _
    rw [pu_at, if_neg q1, pu_at, if_neg (by omega), pu_at, if_neg (by omega), pu_at, if_neg (by omega), pu_at, if_neg (by omega), pu_at, if_neg q1, pu_at, if_neg q1, pu_at, if_neg q1]
  have o0 : ∀ j, ¬ j = 32 → ¬ j = 33 → ¬ j = 34 → (opS p b c τ).1 0 j = τ.1 0 j := fun j q1 q2 q3 => by
    show pu (pu (pu (pu (τ.1 0) 32 _) 32 _) 33 _) 34 _ j = _
    rw [pu_at, if_neg q3, pu_at, if_neg q2, pu_at, if_neg q1, pu_at, if_neg q1]
  have hC := mvC.pos σ (nI (p + 2))
  refine ⟨h.move hC.1 hC.2 (fun k q1 q2 => ot k q1 (Or.inl q2)) o0 rfl rfl rfl rfl (by omega) (by omega), ⟨fun k q => ot k (by omega) (by omega), fun j _ q2 q3 q4 => o0 j q2 q3 q4, rfl⟩, fun k q1 q2 j hj => ?_, fun j k q1 q2 x hx => by rw [ot k (by omega) (by omega)], ?_, ?_, ?_, ?_⟩
  · have e : k = 22 ∨ k = 23 ∨ k = 24 ∨ k = 25 := by omega
    rcases e with rfl | rfl | rfl | rfl
    · show upd (τ.1 22) (nI b).toNatClampNeg _ j = _
      rw [upd_at, hcl, if_neg (by omega)]
    · show upd (τ.1 23) (nI b).toNatClampNeg _ j = _
      rw [upd_at, hcl, if_neg (by omega)]
    · show upd (τ.1 24) (nI b).toNatClampNeg _ j = _
      rw [upd_at, hcl, if_neg (by omega)]
    · show upd (τ.1 25) (nI b).toNatClampNeg _ j = _
      rw [upd_at, hcl, if_neg (by omega)]
  · show upd (τ.1 22) (nI b).toNatClampNeg _ b = _
    rw [upd_at, hcl, if_pos rfl]
  · show upd (τ.1 23) (nI b).toNatClampNeg _ b = _
    rw [upd_at, hcl, if_pos rfl]
  · show upd (τ.1 24) (nI b).toNatClampNeg _ b = _
    rw [upd_at, hcl, if_pos rfl]
  · show upd (τ.1 25) (nI b).toNatClampNeg _ b = _
    rw [upd_at, hcl, if_pos rfl]
theorem op_206 {v : Int32} {Y : St} (hb : b ≤ 12) (h34 : Y.1 0 34 = nI (b + 1)) : k_Mo_openBracket_206 v Y ∧ ∃ Z, f_Mo_openBracket_206 v Y = Z ∧ Z.1 0 33 = 1 ∧ fmR Y Z ∧ ∀ j, rwM j Y Z := by
  have hcl : (nI b).toNatClampNeg = b := nI_clamp (by omega)
  have hin : vp_in (nI b) 40 := by rw [in_iff, i_nI (by omega)]; omega
  have n33 : ¬ (sA (sF Y 0 33 1) 25 (nI b) v).1 0 33 = 0 := show ¬ (1 : Int32) = 0 by decide
  have eB : f_Mo_blank (sA (sF Y 0 33 1) 25 (nI b) v) = sF (sF (sA (sF Y 0 33 1) 25 (nI b) v) 0 33 1) 0 32 (Y.1 0 32 + 1) := by
    rw [f_Mo_blank, if_neg n33]; rfl
  refine ⟨⟨⟨rfl, rfl⟩, ?_⟩, _, rfl, ?_⟩
  · show vp_in (Y.1 0 34 - 1) 40 ∧ k_Mo_openBracket_226 (sA (sF Y 0 33 1) 25 (Y.1 0 34 - 1) v)
    rw [h34, nI_pred]
    exact ⟨hin, ⟨fun z => absurd z n33, fun _ => ⟨⟨rfl, rfl⟩, trivial⟩⟩, trivial⟩
  · have e : f_Mo_openBracket_206 v Y = sF (sF (sA (sF Y 0 33 1) 25 (nI b) v) 0 33 1) 0 32 (Y.1 0 32 + 1) := by
      show f_Mo_blank (sA (sF Y 0 33 1) 25 (Y.1 0 34 - 1) v) = _
      rw [h34, nI_pred, eB]
    rw [e]
    have ot : ∀ k, ¬ k = 0 → ¬ k = 25 → (sF (sF (sA (sF Y 0 33 1) 25 (nI b) v) 0 33 1) 0 32 (Y.1 0 32 + 1)).1 k = Y.1 k := fun k q1 q2 => by
      show pu (pu (pu (pu Y.1 0 _) 25 _) 0 _) 0 _ k = _
      rw [pu_at, if_neg q1, pu_at, if_neg q1, pu_at, if_neg q2, pu_at, if_neg q1]
    refine ⟨rfl, ⟨fun k q => ot k (by omega) (by omega), fun j _ q2 q3 q4 => ?_, rfl⟩, fun j k q1 q2 x hx => by rw [ot k (by omega) (by omega)]⟩
    show pu (pu (pu (Y.1 0) 33 _) 33 _) 32 _ j = _
    rw [pu_at, if_neg q2, pu_at, if_neg q3, pu_at, if_neg q3]
end OPN
