-- sort, symbol, variable
theorem isSort_0 {σ : St} {ns : Nat} (h : σ.1 1 4 = nI ns) (hn : ns ≤ 5) (a : Int32) : f_Sg_isSort a σ = 0 ↔ ¬ (0 ≤ a.toInt ∧ a.toInt < ns) := by
  show (if a < 0 then (0 : Int32) else (if σ.1 1 4 ≤ a then 0 else 1)) = 0 ↔ _
  rw [h]
  by_cases h1 : a < 0
  · rw [if_pos h1]
    rw [Int32.lt_iff_toInt_lt, Int32.toInt_zero] at h1
    exact ⟨fun _ => by omega, fun _ => rfl⟩
  · rw [if_neg h1]
    rw [Int32.lt_iff_toInt_lt, Int32.toInt_zero] at h1
    by_cases h2 : nI ns ≤ a
    · rw [if_pos h2]
      rw [Int32.le_iff_toInt_le, i_nI (by omega)] at h2
      exact ⟨fun _ => by omega, fun _ => rfl⟩
    · rw [if_neg h2]
      rw [Int32.le_iff_toInt_le, i_nI (by omega)] at h2
      exact ⟨fun h => absurd h (by decide), fun h => absurd ⟨by omega, by omega⟩ h⟩
theorem k_isSort (a : Int32) (σ : St) : k_Sg_isSort a σ := ⟨fun _ => ⟨rfl, trivial⟩, fun _ => ⟨fun _ => ⟨rfl, trivial⟩, fun _ => ⟨rfl, trivial⟩⟩⟩
theorem m1_iff (a : Int32) : a = -1 ↔ a.toInt = -1 := by
  rw [← Int32.toInt_inj]; rfl
theorem isSON_0 {σ : St} {ns : Nat} (h : σ.1 1 4 = nI ns) (hn : ns ≤ 5) (a : Int32) : f_Sg_isSortOrNone a σ = 0 ↔ ¬ (-1 ≤ a.toInt ∧ a.toInt < ns) := by
  show (if a = -1 then (1 : Int32) else (if f_Sg_isSort a σ = 0 then 0 else 1)) = 0 ↔ _
  by_cases h1 : a = -1
  · rw [if_pos h1]
    rw [m1_iff] at h1
    exact ⟨fun h => absurd h (by decide), fun h => absurd ⟨by omega, by omega⟩ h⟩
  · rw [if_neg h1]
    rw [m1_iff] at h1
    by_cases h2 : f_Sg_isSort a σ = 0
    · rw [if_pos h2]
      rw [isSort_0 h hn] at h2
      exact ⟨fun _ => by omega, fun _ => rfl⟩
    · rw [if_neg h2]
      rw [isSort_0 h hn] at h2
      exact ⟨fun h => absurd h (by decide), fun h => absurd ⟨by omega, by omega⟩ h⟩
theorem k_isSON (a : Int32) (σ : St) : k_Sg_isSortOrNone a σ := ⟨fun _ => ⟨rfl, trivial⟩, fun _ => ⟨k_isSort a σ, fun _ => ⟨rfl, trivial⟩, fun _ => ⟨rfl, trivial⟩⟩⟩
/-- what symbol and the reference's symbol must find -/
def syP (ns ny : Nat) (a b c : Int32) : Prop := ny < 12 ∧ 0 ≤ a.toInt ∧ a.toInt < ns ∧ -1 ≤ b.toInt ∧ b.toInt < ns ∧ -1 ≤ c.toInt ∧ c.toInt < ns ∧ (b.toInt = -1 → c.toInt = -1)
def syC (a b c : Int32) (σ : St) : St := sF (sA (sA (sA σ 2 (σ.1 1 5) a) 3 (σ.1 1 5) b) 4 (σ.1 1 5) c) 1 5 (σ.1 1 5 + 1)
def syM (a b c : Int32) (τ : St) : St := sF (sA (sA (sA (sF τ 0 0 0) 1 (τ.1 0 3) a) 2 (τ.1 0 3) b) 3 (τ.1 0 3) c) 0 3 (τ.1 0 3 + 1)
theorem sy_C {σ : St} {ns ny : Nat} (h4 : σ.1 1 4 = nI ns) (hn : ns ≤ 5) (h5 : σ.1 1 5 = nI ny) (hy : ny ≤ 12) (a b c : Int32) :
    k_CL_symbol a b c σ ∧ (syP ns ny a b c → f_CL_symbol a b c σ = (nI ny, syC a b c σ)) ∧ (¬ syP ns ny a b c → f_CL_symbol a b c σ = (-1, σ)) := by
  have e12 : (12 : Int32) ≤ σ.1 1 5 ↔ 12 ≤ ny := by
    rw [h5]; exact nI_le_iff (a := 12) (by omega) (by omega)
  have ans : nI ny + 1 - 1 = nI ny := by rw [← nI_succ]; exact nI_pred ny
  have hin : ny < 12 → vp_in (σ.1 1 5) 12 := fun h => by rw [h5, in_iff, i_nI (by omega)]; omega
  have q : ∀ x : Int32 × St, (x.1, x.2) = x := fun _ => rfl
  have good : f_Sg_addSymbol_45 a b c σ = (nI ny, syC a b c σ) := by
    show (σ.1 1 5 + 1 - 1, syC a b c σ) = _
    rw [h5, ans]
  have kgood : ny < 12 → k_Sg_addSymbol_45 a b c σ := fun h => ⟨hin h, hin h, hin h, trivial⟩
  have main : k_Sg_addSymbol a b c σ ∧ (syP ns ny a b c → f_Sg_addSymbol a b c σ = (nI ny, syC a b c σ)) ∧ (¬ syP ns ny a b c → f_Sg_addSymbol a b c σ = (-1, σ)) := by
    unfold syP
    by_cases c1 : (12 : Int32) ≤ σ.1 1 5
    · refine ⟨⟨fun _ => trivial, fun h => absurd c1 h⟩, fun h => absurd (e12.mp c1) (by omega), fun _ => ?_⟩
      show (if (12 : Int32) ≤ σ.1 1 5 then _ else _) = _
      rw [if_pos c1]; rfl
    · have n1 : ny < 12 := by
        have h9 : ¬ 12 ≤ ny := fun h => c1 (e12.mpr h)
        omega
      by_cases c2 : f_Sg_isSort a σ = 0
      · refine ⟨⟨fun h => absurd h c1, fun _ => ⟨k_isSort a σ, fun _ => trivial, fun h => absurd c2 h⟩⟩, fun h => absurd ⟨h.2.1, h.2.2.1⟩ ((isSort_0 h4 hn a).mp c2), fun _ => ?_⟩
        show (if (12 : Int32) ≤ σ.1 1 5 then _ else (if f_Sg_isSort a σ = 0 then _ else _)) = _
        rw [if_neg c1, if_pos c2]; rfl
      · by_cases c3 : f_Sg_isSortOrNone b σ = 0
        · refine ⟨⟨fun h => absurd h c1, fun _ => ⟨k_isSort a σ, fun h => absurd h c2, fun _ => ⟨k_isSON b σ, fun _ => trivial, fun h => absurd c3 h⟩⟩⟩, fun h => absurd ⟨h.2.2.2.1, h.2.2.2.2.1⟩ ((isSON_0 h4 hn b).mp c3), fun _ => ?_⟩
          show (if (12 : Int32) ≤ σ.1 1 5 then _ else (if f_Sg_isSort a σ = 0 then _ else (if f_Sg_isSortOrNone b σ = 0 then _ else _))) = _
          rw [if_neg c1, if_neg c2, if_pos c3]; rfl
        · by_cases c4 : f_Sg_isSortOrNone c σ = 0
          · refine ⟨⟨fun h => absurd h c1, fun _ => ⟨k_isSort a σ, fun h => absurd h c2, fun _ => ⟨k_isSON b σ, fun h => absurd h c3, fun _ => ⟨k_isSON c σ, fun _ => trivial, fun h => absurd c4 h⟩⟩⟩⟩, fun h => absurd ⟨h.2.2.2.2.2.1, h.2.2.2.2.2.2.1⟩ ((isSON_0 h4 hn c).mp c4), fun _ => ?_⟩
            show (if (12 : Int32) ≤ σ.1 1 5 then _ else (if f_Sg_isSort a σ = 0 then _ else (if f_Sg_isSortOrNone b σ = 0 then _ else (if f_Sg_isSortOrNone c σ = 0 then _ else _)))) = _
            rw [if_neg c1, if_neg c2, if_neg c3, if_pos c4]; rfl
          · have k5 : (b = -1 → ((c = -1 → k_Sg_addSymbol_45 a b c σ) ∧ (¬ c = -1 → k_Sg_addSymbol_43 σ))) ∧ (¬ b = -1 → k_Sg_addSymbol_45 a b c σ) := ⟨fun _ => ⟨fun _ => kgood n1, fun _ => trivial⟩, fun _ => kgood n1⟩
            have i2 := Classical.not_not.mp (mt (isSort_0 h4 hn a).mpr c2)
            have i3 := Classical.not_not.mp (mt (isSON_0 h4 hn b).mpr c3)
            have i4 := Classical.not_not.mp (mt (isSON_0 h4 hn c).mpr c4)
            refine ⟨⟨fun h => absurd h c1, fun _ => ⟨k_isSort a σ, fun h => absurd h c2, fun _ => ⟨k_isSON b σ, fun h => absurd h c3, fun _ => ⟨k_isSON c σ, fun h => absurd h c4, fun _ => k5⟩⟩⟩⟩, ?_⟩
            have e0 : f_Sg_addSymbol a b c σ = if b = -1 then (if c = -1 then f_Sg_addSymbol_45 a b c σ else (-1, σ)) else f_Sg_addSymbol_45 a b c σ := by
              show (if (12 : Int32) ≤ σ.1 1 5 then _ else (if f_Sg_isSort a σ = 0 then _ else (if f_Sg_isSortOrNone b σ = 0 then _ else (if f_Sg_isSortOrNone c σ = 0 then _ else _)))) = _
              rw [if_neg c1, if_neg c2, if_neg c3, if_neg c4]; rfl
            rw [e0]
            by_cases c5 : b = -1
            · rw [if_pos c5]
              by_cases c6 : c = -1
              · rw [if_pos c6]
                rw [m1_iff] at c5 c6
                exact ⟨fun _ => good, fun h => absurd ⟨n1, i2.1, i2.2, i3.1, i3.2, i4.1, i4.2, fun _ => c6⟩ h⟩
              · rw [if_neg c6]
                rw [m1_iff] at c5 c6
                exact ⟨fun h => absurd (h.2.2.2.2.2.2.2 c5) c6, fun _ => rfl⟩
            · rw [if_neg c5]
              rw [m1_iff] at c5
              exact ⟨fun _ => good, fun h => absurd ⟨n1, i2.1, i2.2, i3.1, i3.2, i4.1, i4.2, fun h => absurd h c5⟩ h⟩
  exact ⟨⟨main.1, trivial⟩, main.2⟩
theorem sy_M {τ : St} {ns ny : Nat} (h4 : τ.1 0 2 = nI ns) (hn : ns ≤ 5) (h5 : τ.1 0 3 = nI ny) (hy : ny ≤ 12) (a b c : Int32) :
    k_Mo_symbol a b c τ ∧ (syP ns ny a b c → f_Mo_symbol a b c τ = (nI ny, syM a b c τ)) ∧ (¬ syP ns ny a b c → f_Mo_symbol a b c τ = (-1, sF τ 0 0 0)) := by
  have e12 : τ.1 0 3 = 12 ↔ ny = 12 := by
    rw [h5]; exact nI_inj (b := 12) (by omega) (by omega)
  have ans : nI ny + 1 - 1 = nI ny := by rw [← nI_succ]; exact nI_pred ny
  have hin : ny < 12 → vp_in (τ.1 0 3) 12 := fun h => by rw [h5, in_iff, i_nI (by omega)]; omega
  have r1 : ∀ x : Int32, (x < 0) ↔ x.toInt < 0 := fun x => by rw [Int32.lt_iff_toInt_lt, Int32.toInt_zero]
  have r2 : ∀ x : Int32, (x < -1) ↔ x.toInt < -1 := fun x => by rw [Int32.lt_iff_toInt_lt]; rfl
  have r3 : ∀ x : Int32, (τ.1 0 2 ≤ x) ↔ (ns : Int) ≤ x.toInt := fun x => by rw [h4, Int32.le_iff_toInt_le, i_nI (by omega)]
  have e53 : f_Mo_symbol_53 a b c (sF τ 0 0 0) = if τ.1 0 3 = 12 then (-1, sF τ 0 0 0) else (nI ny, syM a b c τ) := by
    show (if τ.1 0 3 = 12 then ((-1 : Int32), sF τ 0 0 0) else (τ.1 0 3 + 1 - 1, syM a b c τ)) = _
    rw [h5, ans]
  have k53 : k_Mo_symbol_53 a b c (sF τ 0 0 0) := by
    refine ⟨fun _ => trivial, fun h => ?_⟩
    have n1 : ny < 12 := by
      have h9 : ¬ ny = 12 := fun h8 => h (e12.mpr h8)
      omega
    exact ⟨hin n1, hin n1, hin n1, trivial⟩
  have e0 : f_Mo_symbol a b c τ = if a < 0 then (-1, sF τ 0 0 0) else (if τ.1 0 2 ≤ a then (-1, sF τ 0 0 0) else (if b < -1 then (-1, sF τ 0 0 0) else (if τ.1 0 2 ≤ b then (-1, sF τ 0 0 0) else (if c < -1 then (-1, sF τ 0 0 0) else (if τ.1 0 2 ≤ c then (-1, sF τ 0 0 0) else (if b = -1 then (if c = -1 then f_Mo_symbol_53 a b c (sF τ 0 0 0) else (-1, sF τ 0 0 0)) else f_Mo_symbol_53 a b c (sF τ 0 0 0))))))) := rfl
  refine ⟨⟨fun _ => trivial, fun _ => ⟨fun _ => trivial, fun _ => ⟨fun _ => trivial, fun _ => ⟨fun _ => trivial, fun _ => ⟨fun _ => trivial, fun _ => ⟨fun _ => trivial, fun _ => ⟨fun _ => ⟨fun _ => k53, fun _ => trivial⟩, fun _ => k53⟩⟩⟩⟩⟩⟩⟩, fun h => ?_, fun h => ?_⟩
  · obtain ⟨p1, p2, p3, p4, p5, p6, p7, p8⟩ := h
    have e54 : f_Mo_symbol_53 a b c (sF τ 0 0 0) = (nI ny, syM a b c τ) := by rw [e53, if_neg (by rw [e12]; omega)]
    rw [e0, if_neg (by rw [r1]; omega), if_neg (by rw [r3]; omega), if_neg (by rw [r2]; omega), if_neg (by rw [r3]; omega), if_neg (by rw [r2]; omega), if_neg (by rw [r3]; omega), e54]
    by_cases c5 : b = -1
    · rw [if_pos c5, if_pos (by rw [m1_iff] at c5 ⊢; exact p8 c5)]
    · rw [if_neg c5]
  · rw [e0]
    unfold syP at h
    by_cases c1 : a < 0
    · rw [if_pos c1]
    rw [if_neg c1]; rw [r1] at c1
    by_cases c2 : τ.1 0 2 ≤ a
    · rw [if_pos c2]
    rw [if_neg c2]; rw [r3] at c2
    by_cases c3 : b < -1
    · rw [if_pos c3]
    rw [if_neg c3]; rw [r2] at c3
    by_cases c4 : τ.1 0 2 ≤ b
    · rw [if_pos c4]
    rw [if_neg c4]; rw [r3] at c4
    by_cases c5 : c < -1
    · rw [if_pos c5]
    rw [if_neg c5]; rw [r2] at c5
    by_cases c6 : τ.1 0 2 ≤ c
    · rw [if_pos c6]
    rw [if_neg c6]; rw [r3] at c6
    rw [e53]
    by_cases c7 : τ.1 0 3 = 12
    · rw [if_pos c7, ite_self, ite_self]
    rw [if_neg c7]; rw [e12] at c7
    by_cases c8 : b = -1
    · rw [if_pos c8]
      by_cases c9 : c = -1
      · rw [m1_iff] at c8 c9
        exact absurd ⟨by omega, by omega, by omega, by omega, by omega, by omega, by omega, fun _ => c9⟩ h
      · rw [if_neg c9]
    · rw [m1_iff] at c8
      exact absurd ⟨by omega, by omega, by omega, by omega, by omega, by omega, by omega, fun h => absurd h c8⟩ h
