-- meaning
theorem nb1 : narrow .boolean (.int (1 : Int32)) = .int 1 := rfl
theorem nb0 : narrow .boolean (.int (0 : Int32)) = .int 0 := rfl
section MNG
variable {n0 n q c k f t i j : Nat} {τb σ τ : St}
/-- one clause of a meaning: the class's row and the reference's are the same -/
def MN (n0 n q c k f : Nat) (τb : St) (KF : Prop) (F : Int32 × St) (KW : Prop) (W : Int32 × St) : Prop := KF ∧ ∃ n' r' σ' τ', F = (1, σ') ∧ W = f_Mo_meaning_318 17185 τ' ∧ (k_Mo_meaning_318 17185 τ' → KW) ∧ n' ≤ n + 3 ∧ r' ≤ 3 ∧ PK n0 n' r' q c k f τb σ' τ'
theorem mn_8_0 (L0 : LG n0 n q c k f 0 τb σ τ [] []) (hn : n ≤ 100) (h1 : tru τ n t) (h2 : tru τ n i) (h3 : tru τ n j) : MN n0 n q c k f τb (k_CL_joinMeaningOfAnd (nI t) (nI i) (nI j) 0 σ) (f_CL_joinMeaningOfAnd (nI t) (nI i) (nI j) 0 σ) (k_Mo_meaning_123 (nI t) 0 17185 8 (nI i) (nI j) τ) (f_Mo_meaning_123 (nI t) 0 17185 8 (nI i) (nI j) τ) := by
  obtain ⟨ka1, kb1, m1, n1, σ1, τ1, fa1, fb1, la1, lb1, mo1, tm1, L1⟩ := L0.asN (by omega) (by omega) h1
  obtain ⟨kb2, τ2, fb2, mo2, L2⟩ := L1.asY (by omega) (by omega) (mo1 _ h2)
  obtain ⟨kj, r', σ', fj, hr, P⟩ := L2.fin2 (by omega) (by have := tm1.1; omega) (by have := h2.1; omega)
  refine ⟨⟨fun _ => ⟨ka1, by rw [fa1]; exact ⟨kj, by rw [fj]; exact ⟨nb1, trivial⟩⟩⟩, fun z => absurd rfl z⟩, _, r', σ', _, ?_, ?_, fun w => ⟨fun _ => ⟨fun z => absurd z (by decide), fun _ => ⟨kb1, by rw [fb1]; exact ⟨fun _ => ⟨fun z => absurd z (by decide), fun _ => ⟨fun _ => ⟨kb2, by rw [fb2]; exact ⟨fun _ => w, fun z => absurd rfl z⟩⟩, fun z => absurd rfl z⟩⟩, fun z => absurd rfl z⟩⟩⟩, fun z => absurd rfl z⟩, ?_, hr, P⟩
  · rw [f_CL_joinMeaningOfAnd, if_pos rfl]
    rw [fa1]; exact fj
  · rw [f_Mo_meaning_123, if_pos rfl, if_neg (by decide), f_Mo_meaning_174, fb1, f_Mo_meaning_177, if_pos rfl, if_neg (by decide), if_pos rfl, f_Mo_meaning_201, fb2, f_Mo_meaning_204, if_pos rfl]
  · omega
theorem mn_8_1 (L0 : LG n0 n q c k f 0 τb σ τ [] []) (hn : n ≤ 100) (h1 : tru τ n t) (h2 : tru τ n i) (h3 : tru τ n j) : MN n0 n q c k f τb (k_CL_joinMeaningOfAnd (nI t) (nI i) (nI j) 1 σ) (f_CL_joinMeaningOfAnd (nI t) (nI i) (nI j) 1 σ) (k_Mo_meaning_123 (nI t) 1 17185 8 (nI i) (nI j) τ) (f_Mo_meaning_123 (nI t) 1 17185 8 (nI i) (nI j) τ) := by
  obtain ⟨ka1, kb1, m1, n1, σ1, τ1, fa1, fb1, la1, lb1, mo1, tm1, L1⟩ := L0.asN (by omega) (by omega) h1
  obtain ⟨kb2, τ2, fb2, mo2, L2⟩ := L1.asY (by omega) (by omega) (mo1 _ h3)
  obtain ⟨kj, r', σ', fj, hr, P⟩ := L2.fin2 (by omega) (by have := tm1.1; omega) (by have := h3.1; omega)
  refine ⟨⟨fun z => absurd z (by decide), fun _ => ⟨fun _ => ⟨ka1, by rw [fa1]; exact ⟨kj, by rw [fj]; exact ⟨nb1, trivial⟩⟩⟩, fun z => absurd rfl z⟩⟩, _, r', σ', _, ?_, ?_, fun w => ⟨fun _ => ⟨fun z => absurd z (by decide), fun _ => ⟨kb1, by rw [fb1]; exact ⟨fun _ => ⟨fun _ => ⟨fun z => absurd z (by decide), fun _ => ⟨fun _ => ⟨kb2, by rw [fb2]; exact w⟩, fun z => absurd rfl z⟩⟩, fun z => absurd rfl z⟩, fun z => absurd rfl z⟩⟩⟩, fun z => absurd rfl z⟩, ?_, hr, P⟩
  · rw [f_CL_joinMeaningOfAnd, if_neg (by decide), if_pos rfl]
    rw [fa1]; exact fj
  · rw [f_Mo_meaning_123, if_pos rfl, if_neg (by decide), f_Mo_meaning_174, fb1, f_Mo_meaning_177, if_pos rfl, if_pos rfl, f_Mo_meaning_204, if_neg (by decide), if_pos rfl, f_Mo_meaning_221, fb2, f_Mo_meaning_224]
  · omega
theorem mn_8_2 (L0 : LG n0 n q c k f 0 τb σ τ [] []) (hn : n ≤ 100) (h1 : tru τ n t) (h2 : tru τ n i) (h3 : tru τ n j) : MN n0 n q c k f τb (k_CL_joinMeaningOfAnd (nI t) (nI i) (nI j) 2 σ) (f_CL_joinMeaningOfAnd (nI t) (nI i) (nI j) 2 σ) (k_Mo_meaning_123 (nI t) 2 17185 8 (nI i) (nI j) τ) (f_Mo_meaning_123 (nI t) 2 17185 8 (nI i) (nI j) τ) := by
  obtain ⟨kb1, τ1, fb1, mo1, L1⟩ := L0.asY (by omega) (by omega) h1
  obtain ⟨ka2, kb2, m2, n2, σ2, τ2, fa2, fb2, la2, lb2, mo2, tm2, L2⟩ := L1.asN (by omega) (by omega) (mo1 _ h2)
  obtain ⟨ka3, kb3, m3, n3, σ3, τ3, fa3, fb3, la3, lb3, mo3, tm3, L3⟩ := L2.asN (by omega) (by omega) (mo2 _ (mo1 _ h3))
  obtain ⟨kj, r', σ', fj, hr, P⟩ := L3.fin3 (by omega) (by have := h1.1; omega) (by have := tm2.1; omega) (by have := tm3.1; omega)
  refine ⟨⟨fun z => absurd z (by decide), fun _ => ⟨fun z => absurd z (by decide), fun _ => ⟨fun _ => ⟨ka2, by rw [fa2]; exact ⟨ka3, by rw [fa3]; exact ⟨kj, by rw [fj]; exact ⟨nb1, trivial⟩⟩⟩⟩, fun z => absurd rfl z⟩⟩⟩, _, r', σ', _, ?_, ?_, fun w => ⟨fun _ => ⟨fun _ => ⟨kb1, by rw [fb1]; exact ⟨fun _ => ⟨fun z => absurd z (by decide), fun _ => ⟨fun z => absurd z (by decide), fun _ => ⟨kb2, by rw [fb2]; exact ⟨fun z => absurd z (by decide), fun _ => ⟨fun z => absurd z (by decide), fun _ => ⟨kb3, by rw [fb3]; exact w⟩⟩⟩⟩⟩⟩, fun z => absurd rfl z⟩⟩, fun z => absurd rfl z⟩, fun z => absurd rfl z⟩, ?_, hr, P⟩
  · rw [f_CL_joinMeaningOfAnd, if_neg (by decide), if_neg (by decide), if_pos rfl]
    rw [fa2]
    show f_CL_joinMeaningOfAnd_76 (f_Te_opposite (nI j) σ2).1 (nI m2) (nI t) (f_Te_opposite (nI j) σ2).2 = _
    rw [fa3]; exact fj
  · rw [f_Mo_meaning_123, if_pos rfl, if_pos rfl, f_Mo_meaning_174, fb1, f_Mo_meaning_177, if_pos rfl, if_neg (by decide), if_neg (by decide), f_Mo_meaning_201, fb2, f_Mo_meaning_204, if_neg (by decide), if_neg (by decide), f_Mo_meaning_221, fb3, f_Mo_meaning_224]
  · omega
theorem mn_9_0 (L0 : LG n0 n q c k f 0 τb σ τ [] []) (hn : n ≤ 100) (h1 : tru τ n t) (h2 : tru τ n i) (h3 : tru τ n j) : MN n0 n q c k f τb (k_CL_joinMeaningOfOr (nI t) (nI i) (nI j) 0 σ) (f_CL_joinMeaningOfOr (nI t) (nI i) (nI j) 0 σ) (k_Mo_meaning_123 (nI t) 0 17185 9 (nI i) (nI j) τ) (f_Mo_meaning_123 (nI t) 0 17185 9 (nI i) (nI j) τ) := by
  obtain ⟨ka1, kb1, m1, n1, σ1, τ1, fa1, fb1, la1, lb1, mo1, tm1, L1⟩ := L0.asN (by omega) (by omega) h1
  obtain ⟨kb2, τ2, fb2, mo2, L2⟩ := L1.asY (by omega) (by omega) (mo1 _ h2)
  obtain ⟨kb3, τ3, fb3, mo3, L3⟩ := L2.asY (by omega) (by omega) (mo2 _ (mo1 _ h3))
  obtain ⟨kj, r', σ', fj, hr, P⟩ := L3.fin3 (by omega) (by have := tm1.1; omega) (by have := h2.1; omega) (by have := h3.1; omega)
  refine ⟨⟨fun _ => ⟨ka1, by rw [fa1]; exact ⟨kj, by rw [fj]; exact ⟨nb1, trivial⟩⟩⟩, fun z => absurd rfl z⟩, _, r', σ', _, ?_, ?_, fun w => ⟨fun z => absurd z (by decide), fun _ => ⟨fun _ => ⟨fun _ => ⟨kb1, by rw [fb1]; exact ⟨fun z => absurd z (by decide), fun _ => ⟨fun _ => ⟨fun z => absurd z (by decide), fun _ => ⟨fun _ => ⟨kb2, by rw [fb2]; exact ⟨fun z => absurd z (by decide), fun _ => ⟨fun _ => ⟨kb3, by rw [fb3]; exact w⟩, fun z => absurd rfl z⟩⟩⟩, fun z => absurd rfl z⟩⟩, fun z => absurd rfl z⟩⟩⟩, fun z => absurd (by decide) z⟩, fun z => absurd rfl z⟩⟩, ?_, hr, P⟩
  · rw [f_CL_joinMeaningOfOr, if_pos rfl]
    rw [fa1]; exact fj
  · rw [f_Mo_meaning_123, if_neg (by decide), if_pos rfl, if_pos (by decide), f_Mo_meaning_174, fb1, f_Mo_meaning_177, if_neg (by decide), if_pos rfl, if_neg (by decide), if_pos rfl, f_Mo_meaning_251, fb2, f_Mo_meaning_254, if_neg (by decide), if_pos rfl, f_Mo_meaning_271, fb3, f_Mo_meaning_274]
  · omega
theorem mn_9_1 (L0 : LG n0 n q c k f 0 τb σ τ [] []) (hn : n ≤ 100) (h1 : tru τ n t) (h2 : tru τ n i) (h3 : tru τ n j) : MN n0 n q c k f τb (k_CL_joinMeaningOfOr (nI t) (nI i) (nI j) 1 σ) (f_CL_joinMeaningOfOr (nI t) (nI i) (nI j) 1 σ) (k_Mo_meaning_123 (nI t) 1 17185 9 (nI i) (nI j) τ) (f_Mo_meaning_123 (nI t) 1 17185 9 (nI i) (nI j) τ) := by
  obtain ⟨kb1, τ1, fb1, mo1, L1⟩ := L0.asY (by omega) (by omega) h1
  obtain ⟨ka2, kb2, m2, n2, σ2, τ2, fa2, fb2, la2, lb2, mo2, tm2, L2⟩ := L1.asN (by omega) (by omega) (mo1 _ h2)
  obtain ⟨kj, r', σ', fj, hr, P⟩ := L2.fin2 (by omega) (by have := h1.1; omega) (by have := tm2.1; omega)
  refine ⟨⟨fun z => absurd z (by decide), fun _ => ⟨fun _ => ⟨ka2, by rw [fa2]; exact ⟨kj, by rw [fj]; exact ⟨nb1, trivial⟩⟩⟩, fun z => absurd rfl z⟩⟩, _, r', σ', _, ?_, ?_, fun w => ⟨fun z => absurd z (by decide), fun _ => ⟨fun _ => ⟨fun z => absurd z (by decide), fun _ => ⟨kb1, by rw [fb1]; exact ⟨fun z => absurd z (by decide), fun _ => ⟨fun _ => ⟨fun z => absurd z (by decide), fun _ => ⟨fun z => absurd z (by decide), fun _ => ⟨kb2, by rw [fb2]; exact ⟨fun _ => w, fun z => absurd rfl z⟩⟩⟩⟩, fun z => absurd rfl z⟩⟩⟩⟩, fun z => absurd rfl z⟩⟩, ?_, hr, P⟩
  · rw [f_CL_joinMeaningOfOr, if_neg (by decide), if_pos rfl]
    rw [fa2]; exact fj
  · rw [f_Mo_meaning_123, if_neg (by decide), if_pos rfl, if_neg (by decide), f_Mo_meaning_174, fb1, f_Mo_meaning_177, if_neg (by decide), if_pos rfl, if_neg (by decide), if_neg (by decide), f_Mo_meaning_251, fb2, f_Mo_meaning_254, if_pos rfl]
  · omega
theorem mn_9_2 (L0 : LG n0 n q c k f 0 τb σ τ [] []) (hn : n ≤ 100) (h1 : tru τ n t) (h2 : tru τ n i) (h3 : tru τ n j) : MN n0 n q c k f τb (k_CL_joinMeaningOfOr (nI t) (nI i) (nI j) 2 σ) (f_CL_joinMeaningOfOr (nI t) (nI i) (nI j) 2 σ) (k_Mo_meaning_123 (nI t) 2 17185 9 (nI i) (nI j) τ) (f_Mo_meaning_123 (nI t) 2 17185 9 (nI i) (nI j) τ) := by
  obtain ⟨kb1, τ1, fb1, mo1, L1⟩ := L0.asY (by omega) (by omega) h1
  obtain ⟨ka2, kb2, m2, n2, σ2, τ2, fa2, fb2, la2, lb2, mo2, tm2, L2⟩ := L1.asN (by omega) (by omega) (mo1 _ h3)
  obtain ⟨kj, r', σ', fj, hr, P⟩ := L2.fin2 (by omega) (by have := h1.1; omega) (by have := tm2.1; omega)
  refine ⟨⟨fun z => absurd z (by decide), fun _ => ⟨fun z => absurd z (by decide), fun _ => ⟨fun _ => ⟨ka2, by rw [fa2]; exact ⟨kj, by rw [fj]; exact ⟨nb1, trivial⟩⟩⟩, fun z => absurd rfl z⟩⟩⟩, _, r', σ', _, ?_, ?_, fun w => ⟨fun z => absurd z (by decide), fun _ => ⟨fun _ => ⟨fun z => absurd z (by decide), fun _ => ⟨kb1, by rw [fb1]; exact ⟨fun z => absurd z (by decide), fun _ => ⟨fun _ => ⟨fun _ => ⟨fun z => absurd z (by decide), fun _ => ⟨fun z => absurd z (by decide), fun _ => ⟨kb2, by rw [fb2]; exact w⟩⟩⟩, fun z => absurd rfl z⟩, fun z => absurd rfl z⟩⟩⟩⟩, fun z => absurd rfl z⟩⟩, ?_, hr, P⟩
  · rw [f_CL_joinMeaningOfOr, if_neg (by decide), if_neg (by decide), if_pos rfl]
    rw [fa2]; exact fj
  · rw [f_Mo_meaning_123, if_neg (by decide), if_pos rfl, if_neg (by decide), f_Mo_meaning_174, fb1, f_Mo_meaning_177, if_neg (by decide), if_pos rfl, if_pos rfl, f_Mo_meaning_254, if_neg (by decide), if_neg (by decide), f_Mo_meaning_271, fb2, f_Mo_meaning_274]
  · omega
theorem mn_5_0 (L0 : LG n0 n q c k f 0 τb σ τ [] []) (hn : n ≤ 100) (h1 : tru τ n t) (h2 : tru τ n i) (h3 : tru τ n j) : MN n0 n q c k f τb (k_CL_joinMeaningOfEqual (nI t) (nI i) (nI j) 0 σ) (f_CL_joinMeaningOfEqual (nI t) (nI i) (nI j) 0 σ) (k_Mo_meaning_123 (nI t) 0 17185 5 (nI i) (nI j) τ) (f_Mo_meaning_123 (nI t) 0 17185 5 (nI i) (nI j) τ) := by
  obtain ⟨ka1, kb1, m1, n1, σ1, τ1, fa1, fb1, la1, lb1, mo1, tm1, L1⟩ := L0.asN (by omega) (by omega) h1
  obtain ⟨ka2, kb2, m2, n2, σ2, τ2, fa2, fb2, la2, lb2, mo2, tm2, L2⟩ := L1.asN (by omega) (by omega) (mo1 _ h2)
  obtain ⟨kb3, τ3, fb3, mo3, L3⟩ := L2.asY (by omega) (by omega) (mo2 _ (mo1 _ h3))
  obtain ⟨kj, r', σ', fj, hr, P⟩ := L3.fin3 (by omega) (by have := tm1.1; omega) (by have := tm2.1; omega) (by have := h3.1; omega)
  refine ⟨⟨fun _ => ⟨ka1, by rw [fa1]; exact ⟨ka2, by rw [fa2]; exact ⟨kj, by rw [fj]; exact ⟨nb1, trivial⟩⟩⟩⟩, fun z => absurd rfl z⟩, _, r', σ', _, ?_, ?_, fun w => ⟨fun z => absurd z (by decide), fun _ => ⟨fun z => absurd z (by decide), fun _ => ⟨fun _ => ⟨kb1, by rw [fb1]; exact ⟨fun z => absurd z (by decide), fun _ => ⟨fun z => absurd z (by decide), fun _ => ⟨fun z => absurd z (by decide), fun _ => ⟨fun z => absurd z (by decide), fun _ => ⟨kb2, by rw [fb2]; exact ⟨fun _ => ⟨kb3, by rw [fb3]; exact w⟩, fun z => absurd rfl z⟩⟩⟩⟩⟩⟩⟩, fun z => absurd (by decide) z⟩⟩⟩, ?_, hr, P⟩
  · rw [f_CL_joinMeaningOfEqual, if_pos rfl]
    rw [fa1]
    show f_CL_joinMeaningOfEqual_49 (nI j) (f_Te_opposite (nI i) σ1).1 (nI m1) (f_Te_opposite (nI i) σ1).2 = _
    rw [fa2]; exact fj
  · rw [f_Mo_meaning_123, if_neg (by decide), if_neg (by decide), if_pos (by decide), f_Mo_meaning_174, fb1, f_Mo_meaning_177, if_neg (by decide), if_neg (by decide), if_neg (by decide), if_neg (by decide), f_Mo_meaning_295, fb2, f_Mo_meaning_298, if_pos rfl, f_Mo_meaning_310, f_Mo_meaning_315, fb3]
  · omega
theorem mn_5_1 (L0 : LG n0 n q c k f 0 τb σ τ [] []) (hn : n ≤ 100) (h1 : tru τ n t) (h2 : tru τ n i) (h3 : tru τ n j) : MN n0 n q c k f τb (k_CL_joinMeaningOfEqual (nI t) (nI i) (nI j) 1 σ) (f_CL_joinMeaningOfEqual (nI t) (nI i) (nI j) 1 σ) (k_Mo_meaning_123 (nI t) 1 17185 5 (nI i) (nI j) τ) (f_Mo_meaning_123 (nI t) 1 17185 5 (nI i) (nI j) τ) := by
  obtain ⟨ka1, kb1, m1, n1, σ1, τ1, fa1, fb1, la1, lb1, mo1, tm1, L1⟩ := L0.asN (by omega) (by omega) h1
  obtain ⟨kb2, τ2, fb2, mo2, L2⟩ := L1.asY (by omega) (by omega) (mo1 _ h2)
  obtain ⟨ka3, kb3, m3, n3, σ3, τ3, fa3, fb3, la3, lb3, mo3, tm3, L3⟩ := L2.asN (by omega) (by omega) (mo2 _ (mo1 _ h3))
  obtain ⟨kj, r', σ', fj, hr, P⟩ := L3.fin3 (by omega) (by have := tm1.1; omega) (by have := h2.1; omega) (by have := tm3.1; omega)
  refine ⟨⟨fun z => absurd z (by decide), fun _ => ⟨fun _ => ⟨ka1, by rw [fa1]; exact ⟨ka3, by rw [fa3]; exact ⟨kj, by rw [fj]; exact ⟨nb1, trivial⟩⟩⟩⟩, fun z => absurd rfl z⟩⟩, _, r', σ', _, ?_, ?_, fun w => ⟨fun z => absurd z (by decide), fun _ => ⟨fun z => absurd z (by decide), fun _ => ⟨fun _ => ⟨kb1, by rw [fb1]; exact ⟨fun z => absurd z (by decide), fun _ => ⟨fun z => absurd z (by decide), fun _ => ⟨fun _ => ⟨kb2, by rw [fb2]; exact ⟨fun z => absurd z (by decide), fun _ => ⟨fun z => absurd z (by decide), fun _ => ⟨kb3, by rw [fb3]; exact w⟩⟩⟩⟩, fun z => absurd rfl z⟩⟩⟩⟩, fun z => absurd (by decide) z⟩⟩⟩, ?_, hr, P⟩
  · rw [f_CL_joinMeaningOfEqual, if_neg (by decide), if_pos rfl]
    rw [fa1]
    show f_CL_joinMeaningOfEqual_72 (f_Te_opposite (nI j) σ1).1 (nI i) (nI m1) (f_Te_opposite (nI j) σ1).2 = _
    rw [fa3]; exact fj
  · rw [f_Mo_meaning_123, if_neg (by decide), if_neg (by decide), if_pos (by decide), f_Mo_meaning_174, fb1, f_Mo_meaning_177, if_neg (by decide), if_neg (by decide), if_pos rfl, f_Mo_meaning_290, f_Mo_meaning_295, fb2, f_Mo_meaning_298, if_neg (by decide), if_neg (by decide), f_Mo_meaning_315, fb3]
  · omega
theorem mn_5_2 (L0 : LG n0 n q c k f 0 τb σ τ [] []) (hn : n ≤ 100) (h1 : tru τ n t) (h2 : tru τ n i) (h3 : tru τ n j) : MN n0 n q c k f τb (k_CL_joinMeaningOfEqual (nI t) (nI i) (nI j) 2 σ) (f_CL_joinMeaningOfEqual (nI t) (nI i) (nI j) 2 σ) (k_Mo_meaning_123 (nI t) 2 17185 5 (nI i) (nI j) τ) (f_Mo_meaning_123 (nI t) 2 17185 5 (nI i) (nI j) τ) := by
  obtain ⟨kb1, τ1, fb1, mo1, L1⟩ := L0.asY (by omega) (by omega) h1
  obtain ⟨kb2, τ2, fb2, mo2, L2⟩ := L1.asY (by omega) (by omega) (mo1 _ h2)
  obtain ⟨kb3, τ3, fb3, mo3, L3⟩ := L2.asY (by omega) (by omega) (mo2 _ (mo1 _ h3))
  obtain ⟨kj, r', σ', fj, hr, P⟩ := L3.fin3 (by omega) (by have := h1.1; omega) (by have := h2.1; omega) (by have := h3.1; omega)
  refine ⟨⟨fun z => absurd z (by decide), fun _ => ⟨fun z => absurd z (by decide), fun _ => ⟨fun _ => ⟨kj, by rw [fj]; exact ⟨nb1, trivial⟩⟩, fun z => absurd rfl z⟩⟩⟩, _, r', σ', _, ?_, ?_, fun w => ⟨fun z => absurd z (by decide), fun _ => ⟨fun z => absurd z (by decide), fun _ => ⟨fun z => absurd z (by decide), fun _ => ⟨kb1, by rw [fb1]; exact ⟨fun z => absurd z (by decide), fun _ => ⟨fun z => absurd z (by decide), fun _ => ⟨fun z => absurd z (by decide), fun _ => ⟨fun _ => ⟨kb2, by rw [fb2]; exact ⟨fun z => absurd z (by decide), fun _ => ⟨fun _ => ⟨kb3, by rw [fb3]; exact w⟩, fun z => absurd rfl z⟩⟩⟩, fun z => absurd rfl z⟩⟩⟩⟩⟩⟩⟩⟩, ?_, hr, P⟩
  · rw [f_CL_joinMeaningOfEqual, if_neg (by decide), if_neg (by decide), if_pos rfl]
    exact fj
  · rw [f_Mo_meaning_123, if_neg (by decide), if_neg (by decide), if_neg (by decide), f_Mo_meaning_174, fb1, f_Mo_meaning_177, if_neg (by decide), if_neg (by decide), if_neg (by decide), if_pos rfl, f_Mo_meaning_290, f_Mo_meaning_295, fb2, f_Mo_meaning_298, if_neg (by decide), if_pos rfl, f_Mo_meaning_310, f_Mo_meaning_315, fb3]
  · omega
theorem mn_5_3 (L0 : LG n0 n q c k f 0 τb σ τ [] []) (hn : n ≤ 100) (h1 : tru τ n t) (h2 : tru τ n i) (h3 : tru τ n j) : MN n0 n q c k f τb (k_CL_joinMeaningOfEqual (nI t) (nI i) (nI j) 3 σ) (f_CL_joinMeaningOfEqual (nI t) (nI i) (nI j) 3 σ) (k_Mo_meaning_123 (nI t) 3 17185 5 (nI i) (nI j) τ) (f_Mo_meaning_123 (nI t) 3 17185 5 (nI i) (nI j) τ) := by
  obtain ⟨kb1, τ1, fb1, mo1, L1⟩ := L0.asY (by omega) (by omega) h1
  obtain ⟨ka2, kb2, m2, n2, σ2, τ2, fa2, fb2, la2, lb2, mo2, tm2, L2⟩ := L1.asN (by omega) (by omega) (mo1 _ h2)
  obtain ⟨ka3, kb3, m3, n3, σ3, τ3, fa3, fb3, la3, lb3, mo3, tm3, L3⟩ := L2.asN (by omega) (by omega) (mo2 _ (mo1 _ h3))
  obtain ⟨kj, r', σ', fj, hr, P⟩ := L3.fin3 (by omega) (by have := h1.1; omega) (by have := tm2.1; omega) (by have := tm3.1; omega)
  refine ⟨⟨fun z => absurd z (by decide), fun _ => ⟨fun z => absurd z (by decide), fun _ => ⟨fun z => absurd z (by decide), fun _ => ⟨fun _ => ⟨ka2, by rw [fa2]; exact ⟨ka3, by rw [fa3]; exact ⟨kj, by rw [fj]; exact ⟨nb1, trivial⟩⟩⟩⟩, fun z => absurd rfl z⟩⟩⟩⟩, _, r', σ', _, ?_, ?_, fun w => ⟨fun z => absurd z (by decide), fun _ => ⟨fun z => absurd z (by decide), fun _ => ⟨fun z => absurd z (by decide), fun _ => ⟨kb1, by rw [fb1]; exact ⟨fun z => absurd z (by decide), fun _ => ⟨fun z => absurd z (by decide), fun _ => ⟨fun z => absurd z (by decide), fun _ => ⟨fun z => absurd z (by decide), fun _ => ⟨kb2, by rw [fb2]; exact ⟨fun z => absurd z (by decide), fun _ => ⟨fun z => absurd z (by decide), fun _ => ⟨kb3, by rw [fb3]; exact w⟩⟩⟩⟩⟩⟩⟩⟩⟩⟩⟩⟩, ?_, hr, P⟩
  · rw [f_CL_joinMeaningOfEqual, if_neg (by decide), if_neg (by decide), if_neg (by decide), if_pos rfl]
    rw [fa2]
    show f_CL_joinMeaningOfEqual_102 (f_Te_opposite (nI j) σ2).1 (nI m2) (nI t) (f_Te_opposite (nI j) σ2).2 = _
    rw [fa3]; exact fj
  · rw [f_Mo_meaning_123, if_neg (by decide), if_neg (by decide), if_neg (by decide), f_Mo_meaning_174, fb1, f_Mo_meaning_177, if_neg (by decide), if_neg (by decide), if_neg (by decide), if_neg (by decide), f_Mo_meaning_295, fb2, f_Mo_meaning_298, if_neg (by decide), if_neg (by decide), f_Mo_meaning_315, fb3]
  · omega
theorem mn_bad {x : Int32} (h : ¬ (x = 0 ∨ x = 1 ∨ x = 2)) (a b d : Int32) (σ : St) : (k_CL_joinMeaningOfAnd a b d x σ ∧ f_CL_joinMeaningOfAnd a b d x σ = (0, σ)) ∧ k_CL_joinMeaningOfOr a b d x σ ∧ f_CL_joinMeaningOfOr a b d x σ = (0, σ) := by
  have z0 : ¬ x = 0 := fun z => h (Or.inl z)
  have z1 : ¬ x = 1 := fun z => h (Or.inr (Or.inl z))
  have z2 : ¬ x = 2 := fun z => h (Or.inr (Or.inr z))
  refine ⟨⟨⟨fun z => absurd z z0, fun _ => ⟨fun z => absurd z z1, fun _ => ⟨fun z => absurd z z2, fun _ => trivial⟩⟩⟩, ?_⟩, ⟨fun z => absurd z z0, fun _ => ⟨fun z => absurd z z1, fun _ => ⟨fun z => absurd z z2, fun _ => trivial⟩⟩⟩, ?_⟩
  · rw [f_CL_joinMeaningOfAnd, if_neg z0, if_neg z1, if_neg z2]
  · rw [f_CL_joinMeaningOfOr, if_neg z0, if_neg z1, if_neg z2]
theorem mn_badE {x : Int32} (h : ¬ (x = 0 ∨ x = 1 ∨ x = 2 ∨ x = 3)) (a b d : Int32) (σ : St) : k_CL_joinMeaningOfEqual a b d x σ ∧ f_CL_joinMeaningOfEqual a b d x σ = (0, σ) := by
  have z0 : ¬ x = 0 := fun z => h (Or.inl z)
  have z1 : ¬ x = 1 := fun z => h (Or.inr (Or.inl z))
  have z2 : ¬ x = 2 := fun z => h (Or.inr (Or.inr (Or.inl z)))
  have z3 : ¬ x = 3 := fun z => h (Or.inr (Or.inr (Or.inr z)))
  refine ⟨⟨fun z => absurd z z0, fun _ => ⟨fun z => absurd z z1, fun _ => ⟨fun z => absurd z z2, fun _ => ⟨fun z => absurd z z3, fun _ => trivial⟩⟩⟩⟩, ?_⟩
  rw [f_CL_joinMeaningOfEqual, if_neg z0, if_neg z1, if_neg z2, if_neg z3]
theorem le2 (x : Int32) : (¬ x < 0 ∧ x ≤ 2) ↔ (x = 0 ∨ x = 1 ∨ x = 2) := by
  rw [Int32.lt_iff_toInt_lt, Int32.le_iff_toInt_le, Int32.toInt_zero, show (2 : Int32).toInt = 2 from by decide, ← Int32.toInt_inj, ← Int32.toInt_inj, ← Int32.toInt_inj, Int32.toInt_zero, show (1 : Int32).toInt = 1 from by decide, show (2 : Int32).toInt = 2 from by decide]
  omega
theorem le3 (x : Int32) : (¬ x < 0 ∧ x ≤ 3) ↔ (x = 0 ∨ x = 1 ∨ x = 2 ∨ x = 3) := by
  rw [Int32.lt_iff_toInt_lt, Int32.le_iff_toInt_le, Int32.toInt_zero, show (3 : Int32).toInt = 3 from by decide, ← Int32.toInt_inj, ← Int32.toInt_inj, ← Int32.toInt_inj, ← Int32.toInt_inj, Int32.toInt_zero, show (1 : Int32).toInt = 1 from by decide, show (2 : Int32).toInt = 2 from by decide, show (3 : Int32).toInt = 3 from by decide]
  omega
theorem mn_end {n1 r1 : Nat} {σ1 τ1 : St} (P : PK n n1 r1 q c k f τ σ1 τ1) (hn : n1 ≤ 205) (hf : f < 60) : k_CL_meaning_38 1 σ1 ∧ k_Mo_meaning_318 17185 τ1 ∧ RES n τ (f_CL_meaning_38 1 σ1) (f_Mo_meaning_318 17185 τ1) cd_meaning al4 := by
  obtain ⟨d1, d2, d3⟩ := P.enter (cd := cd_meaning) (al := al4) (nm := 17185) (c3 := 3) (c4 := 4) (by omega) hf (fun _ => ⟨fs_3_17185 _, rfl, by decide, Or.inr (Or.inr (Or.inl rfl))⟩) (fs_4_17185 _) ⟨rfl, by decide, Or.inr (Or.inr (Or.inr rfl))⟩
  refine ⟨⟨fun z => absurd z (by decide), fun _ => ⟨trivial, d1, fun _ _ => trivial⟩⟩, ⟨d2, trivial⟩, ?_⟩
  have e : f_CL_meaning_38 1 σ1 = f_CL_enterRow (f_Sc_innermost σ1) 0 σ1 := by
    show (if (1 : Int32) = 0 then _ else xb (f_CL_enterRow (f_Sc_innermost σ1) 0 σ1) (fun x u => (.inl x, u))) = _
    rw [if_neg (by decide), xb_id]
  rw [e]; exact d3
theorem op_meaning (a x : Int32) (h : IV n q c k f σ τ) : k_CL_meaning a x σ ∧ k_Mo_meaning a x τ ∧ RES n τ (f_CL_meaning a x σ) (f_Mo_meaning a x τ) cd_meaning al4 := by
  have hn := h.1
  by_cases hf : f < 60
  · obtain ⟨e1, e2⟩ := (op_shut h).1 hf
    have eC : f_CL_meaning a x σ = if f_Te_has a σ = 0 then (.inr 1, un σ) else f_CL_meaning_32 a x (sF σ 25 1 0) := by
      show (if f_CL_isShut σ = 0 then (if f_Te_has a σ = 0 then (.inr 1, un σ) else f_CL_meaning_32 a x (sF σ 25 1 0)) else _) = _
      rw [if_pos e1]
    have eM : f_Mo_meaning a x τ = if f_Mo_isTerm a (bg τ) = 0 then ((f_Mo_fails 1 17185 (bg τ)).1, (f_Mo_fails 1 17185 (bg τ)).2) else f_Mo_meaning_36 a x 17185 (τ.1 5 a.toNatClampNeg) (bg τ) := by
      show f_Mo_meaning_4 a x (f_Mo_begin τ).1 (f_Mo_begin τ).2 = _
      rw [e2]
      show (if (0 : Int32) = 0 then _ else _) = _
      rw [if_pos rfl]; rfl
    rcases arg_cases a n with ha | ⟨t, ht, rfl⟩
    · obtain ⟨g1, g2⟩ := (op_has h a).1 ha
      refine ⟨⟨k_shut σ, fun _ => ⟨k_has a σ, fun _ => ⟨kthr1 σ, fun _ _ => trivial⟩, fun z => absurd g1 z⟩, fun _ => trivial⟩, ⟨k_begin τ, ?_⟩, ?_⟩
      · rw [e2]; exact ⟨fun _ => ⟨kk_isTerm a (bg τ), fun _ => ⟨(fs_1_17185 _).1, trivial⟩, fun z => absurd g2 z⟩, fun _ => trivial⟩
      · rw [eC, eM, if_pos g1, if_pos g2, (fs_1_17185 _).2]
        exact h.refuse0 hf rfl (by decide) (Or.inl rfl)
    · obtain ⟨g1, g2⟩ := (op_has h (nI t)).2 (nI_arg ht hn)
      have hcl : (nI t).toNatClampNeg = t := nI_clamp (by omega)
      have hin : vp_in (nI t) 400 := by rw [in_iff, i_nI (by omega)]; omega
      have P0 := PK.start h
      have L0 := LG.start h
      generalize hσ : sF σ 25 1 0 = σ0 at P0 L0
      obtain ⟨⟨ek, -, ef, es, -⟩, kk, -, kf, ks, -⟩ := P0.acc (by omega) ht
      have ek : f_Te_kindOf (nI t) σ0 = τ.1 5 t := ek
      have ef : f_Te_firstOf (nI t) σ0 = τ.1 8 t := ef
      have es : f_Te_secondOf (nI t) σ0 = τ.1 9 t := es
      obtain ⟨hW, hK⟩ := h.row ht
      have KC : k_CL_joinMeaning (nI t) x σ0 → k_CL_meaning_38 (f_CL_joinMeaning (nI t) x σ0).1 (f_CL_joinMeaning (nI t) x σ0).2 → k_CL_meaning (nI t) x σ := fun w1 w2 => by
        refine ⟨k_shut σ, fun _ => ⟨k_has _ σ, fun z => absurd z g1, fun _ => ⟨trivial, ?_⟩⟩, fun _ => trivial⟩
        show k_CL_meaning_32 (nI t) x (sF σ 25 1 0)
        rw [hσ]; exact ⟨w1, w2⟩
      have KM : k_Mo_meaning_36 (nI t) x 17185 (τ.1 5 t) (bg τ) → k_Mo_meaning (nI t) x τ := fun w => by
        refine ⟨k_begin τ, ?_⟩
        rw [e2]
        refine ⟨fun _ => ⟨kk_isTerm _ (bg τ), fun z => absurd z g2, fun _ => ⟨hin, ?_⟩⟩, fun _ => trivial⟩
        show k_Mo_meaning_36 (nI t) x 17185 (τ.1 5 (nI t).toNatClampNeg) (bg τ)
        rw [hcl]; exact w
      have e100 : f_Mo_meaning_100 17185 (bg τ) = (0, fl 2 (bg τ)) := by
        show ((f_Mo_fails 2 17185 (bg τ)).1, (f_Mo_fails 2 17185 (bg τ)).2) = _
        rw [(fs_2_17185 _).2]
      have k100 : k_Mo_meaning_100 17185 (bg τ) := ⟨(fs_2_17185 _).1, trivial⟩
      rw [eC, eM, if_neg g1, if_neg g2, hcl, hσ]
      -- both refuse
      have bad : k_CL_joinMeaning (nI t) x σ0 → f_CL_joinMeaning (nI t) x σ0 = (0, σ0) → k_Mo_meaning_36 (nI t) x 17185 (τ.1 5 t) (bg τ) → f_Mo_meaning_36 (nI t) x 17185 (τ.1 5 t) (bg τ) = (0, fl 2 (bg τ)) → k_CL_meaning (nI t) x σ ∧ k_Mo_meaning (nI t) x τ ∧ RES n τ (f_CL_meaning_32 (nI t) x σ0) (f_Mo_meaning_36 (nI t) x 17185 (τ.1 5 t) (bg τ)) cd_meaning al4 := fun w1 w2 w3 w4 => by
        refine ⟨KC w1 (by rw [w2]; exact ⟨fun _ => ⟨kthr2 _, fun _ _ => trivial⟩, fun z => absurd rfl z⟩), KM w3, ?_⟩
        rw [w4]
        show RES n τ (f_CL_meaning_38 (f_CL_joinMeaning (nI t) x σ0).1 (f_CL_joinMeaning (nI t) x σ0).2) _ _ _
        rw [w2]
        show RES n τ (if (0 : Int32) = 0 then ((.inr 2, un σ0) : XR) else _) _ _ _
        rw [if_pos rfl]
        exact P0.refuse hf rfl (by decide) (Or.inr (Or.inl rfl))
      -- both go on
      have good : ∀ (KF : Prop) (F : Int32 × St) (KW : Prop) (W : Int32 × St), MN n n q c k f τ KF F KW W → (KF → k_CL_joinMeaning (nI t) x σ0) → (∀ σ', F = (1, σ') → f_CL_joinMeaning (nI t) x σ0 = (1, σ')) → (KW → k_Mo_meaning_36 (nI t) x 17185 (τ.1 5 t) (bg τ)) → f_Mo_meaning_36 (nI t) x 17185 (τ.1 5 t) (bg τ) = W → k_CL_meaning (nI t) x σ ∧ k_Mo_meaning (nI t) x τ ∧ RES n τ (f_CL_meaning_32 (nI t) x σ0) (f_Mo_meaning_36 (nI t) x 17185 (τ.1 5 t) (bg τ)) cd_meaning al4 := fun KF F KW W hM w1 w2 w3 w4 => by
        obtain ⟨b1, n1, r1, σ1, τ1, b2, b3, b4, b5, b6, b7⟩ := hM
        obtain ⟨d1, d2, d3⟩ := mn_end b7 (by omega) hf
        have w2 := w2 σ1 b2
        refine ⟨KC (w1 b1) (by rw [w2]; exact d1), KM (w3 (b4 d2)), ?_⟩
        rw [w4, b3]
        show RES n τ (f_CL_meaning_38 (f_CL_joinMeaning (nI t) x σ0).1 (f_CL_joinMeaning (nI t) x σ0).2) _ _ _
        rw [w2]; exact d3
      have eJ : f_CL_joinMeaning (nI t) x σ0 = f_CL_joinMeaning_19 (nI t) x (τ.1 8 t) (τ.1 9 t) σ0 := by
        show f_CL_joinMeaning_19 (nI t) x (f_Te_firstOf (nI t) σ0) (f_Te_secondOf (nI t) σ0) σ0 = _
        rw [ef, es]
      have kJ : k_CL_joinMeaning_19 (nI t) x (τ.1 8 t) (τ.1 9 t) σ0 → k_CL_joinMeaning (nI t) x σ0 := fun w => by
        refine ⟨kf, ks, ?_⟩
        rw [ef, es]; exact w
      have e69 : ∀ (K : Int32) (B : Int32), (if K = 5 then (3 : Int32) else 2) = B → f_Mo_meaning_69 (nI t) x 17185 K (bg τ) = if x < 0 then (0, fl 2 (bg τ)) else (if x ≤ B then f_Mo_meaning_123 (nI t) x 17185 K (τ.1 8 t) (τ.1 9 t) (bg τ) else (0, fl 2 (bg τ))) := fun K B hB => by
        have e97 : ∀ B : Int32, f_Mo_meaning_97 (nI t) x 17185 K B x (bg τ) = if x ≤ B then f_Mo_meaning_123 (nI t) x 17185 K (τ.1 8 t) (τ.1 9 t) (bg τ) else (0, fl 2 (bg τ)) := fun B => by
          show (if x ≤ B then f_Mo_meaning_123 (nI t) x 17185 K (τ.1 8 (nI t).toNatClampNeg) (τ.1 9 (nI t).toNatClampNeg) (bg τ) else f_Mo_meaning_100 17185 (bg τ)) = _
          rw [hcl, e100]
        rw [f_Mo_meaning_69, f_Mo_meaning_74, if_neg (by decide), e100, e97, e97, ← hB]
        by_cases w : K = 5
        · rw [if_pos w, if_pos w]
        · rw [if_neg w, if_neg w]
      have k69 : ∀ (K : Int32) (B : Int32), (if K = 5 then (3 : Int32) else 2) = B → (¬ x < 0 → x ≤ B → k_Mo_meaning_123 (nI t) x 17185 K (τ.1 8 t) (τ.1 9 t) (bg τ)) → k_Mo_meaning_69 (nI t) x 17185 K (bg τ) := fun K B hB w => by
        have k97 : ∀ B : Int32, (x ≤ B → k_Mo_meaning_123 (nI t) x 17185 K (τ.1 8 t) (τ.1 9 t) (bg τ)) → k_Mo_meaning_97 (nI t) x 17185 K B x (bg τ) := fun B w => by
          refine ⟨fun z => ⟨hin, hin, ?_⟩, fun _ => k100⟩
          show k_Mo_meaning_123 (nI t) x 17185 K (τ.1 8 (nI t).toNatClampNeg) (τ.1 9 (nI t).toNatClampNeg) (bg τ)
          rw [hcl]; exact w z
        refine ⟨fun z => absurd z (by decide), fun _ => ⟨fun _ => k100, fun z1 => ⟨fun z2 => k97 3 (fun z3 => w z1 ?_), fun z2 => k97 2 (fun z3 => w z1 ?_)⟩⟩⟩
        · rw [← hB, if_pos z2]; exact z3
        · rw [← hB, if_neg z2]; exact z3
      have e73 : ∀ K : Int32, f_Mo_meaning_73 (nI t) x 17185 K (bg τ) = (0, fl 2 (bg τ)) := fun K => by
        rw [f_Mo_meaning_73, f_Mo_meaning_74, if_pos rfl, e100]
      have k73 : ∀ K : Int32, k_Mo_meaning_73 (nI t) x 17185 K (bg τ) := fun K => ⟨fun _ => k100, fun z => absurd rfl z⟩
      have par : ¬ τ.1 8 t = -1 → ¬ τ.1 9 t = -1 → ∃ i j, i < t ∧ j < t ∧ τ.1 8 t = nI i ∧ τ.1 9 t = nI j := fun w1 w2 => two_parts hW (by omega) w1 w2
      have p6 : ∀ i, i < t → ∀ v, τ.1 8 t = nI i → pO (τ.1 6) (τ.1 8 t) = v → τ.1 6 i = v := fun i hi v w1 w2 => by
        rw [w1] at w2; unfold pO at w2; rw [if_neg (nI_ne_m1 (by omega)), nI_clamp (by omega)] at w2; exact w2
      have p7 : ∀ i, i < t → ∀ v, τ.1 9 t = nI i → pO (τ.1 6) (τ.1 9 t) = v → τ.1 6 i = v := fun i hi v w1 w2 => by
        rw [w1] at w2; unfold pO at w2; rw [if_neg (nI_ne_m1 (by omega)), nI_clamp (by omega)] at w2; exact w2
      by_cases h8 : τ.1 5 t = 8
      · obtain ⟨a1, a2, -, a4, a5, a6⟩ := hK.2.2.2.2.2.2.2.1 h8
        obtain ⟨i, j, i1, j1, i2, j2⟩ := par a1 a2
        have si := p6 i i1 0 i2 a5
        have sj := p7 j j1 0 j2 a6
        have ek8 : f_Te_kindOf (nI t) σ0 = 8 := ek.trans h8
        have eF : f_CL_joinMeaning (nI t) x σ0 = f_CL_joinMeaningOfAnd (nI t) (nI i) (nI j) x σ0 := by
          rw [eJ, f_CL_joinMeaning_19, ek8, if_neg (by decide), if_neg (by decide), if_neg (by decide), if_pos rfl, i2, j2]; rfl
        have kF : k_CL_joinMeaningOfAnd (nI t) (nI i) (nI j) x σ0 → narrow .boolean (.int (f_CL_joinMeaningOfAnd (nI t) (nI i) (nI j) x σ0).1) = .int (f_CL_joinMeaningOfAnd (nI t) (nI i) (nI j) x σ0).1 → k_CL_joinMeaning (nI t) x σ0 := fun w1 w2 => by
          refine kJ ⟨kk, ?_⟩
          rw [ek8, i2, j2]
          exact ⟨fun z => absurd z (by decide), fun _ => ⟨fun z => absurd z (by decide), fun _ => ⟨fun z => absurd z (by decide), fun _ => ⟨fun _ => ⟨w1, w2, trivial⟩, fun z => absurd rfl z⟩⟩⟩⟩
        have e36 : f_Mo_meaning_36 (nI t) x 17185 (τ.1 5 t) (bg τ) = if x < 0 then (0, fl 2 (bg τ)) else (if x ≤ 2 then f_Mo_meaning_123 (nI t) x 17185 8 (nI i) (nI j) (bg τ) else (0, fl 2 (bg τ))) := by
          rw [h8, f_Mo_meaning_36, if_pos rfl, e69 8 2 (if_neg (by decide)), i2, j2]
        have k36 : (¬ x < 0 → x ≤ 2 → k_Mo_meaning_123 (nI t) x 17185 8 (nI i) (nI j) (bg τ)) → k_Mo_meaning_36 (nI t) x 17185 (τ.1 5 t) (bg τ) := fun w => by
          rw [h8]
          rw [← i2, ← j2] at w
          exact ⟨fun _ => k69 8 2 (if_neg (by decide)) w, fun z => absurd rfl z⟩
        by_cases hx : x = 0 ∨ x = 1 ∨ x = 2
        · obtain ⟨x1, x2⟩ := (le2 x).mpr hx
          have hM : MN n n q c k f τ (k_CL_joinMeaningOfAnd (nI t) (nI i) (nI j) x σ0) (f_CL_joinMeaningOfAnd (nI t) (nI i) (nI j) x σ0) (k_Mo_meaning_123 (nI t) x 17185 8 (nI i) (nI j) (bg τ)) (f_Mo_meaning_123 (nI t) x 17185 8 (nI i) (nI j) (bg τ)) := by
            rcases hx with rfl | rfl | rfl
            · exact mn_8_0 L0 hn ⟨ht, a4⟩ ⟨by omega, si⟩ ⟨by omega, sj⟩
            · exact mn_8_1 L0 hn ⟨ht, a4⟩ ⟨by omega, si⟩ ⟨by omega, sj⟩
            · exact mn_8_2 L0 hn ⟨ht, a4⟩ ⟨by omega, si⟩ ⟨by omega, sj⟩
          exact good _ _ _ _ hM (fun w => kF w (by obtain ⟨-, -, -, σ1, -, b2, -⟩ := hM; rw [b2]; exact nb1)) (fun σ' w => eF.trans w) (fun w => k36 (fun _ _ => w)) (by rw [e36, if_neg x1, if_pos x2])
        · obtain ⟨b1, b2⟩ := (mn_bad hx (nI t) (nI i) (nI j) σ0).1
          have hb : (if x < 0 then ((0 : Int32), fl 2 (bg τ)) else (if x ≤ 2 then f_Mo_meaning_123 (nI t) x 17185 8 (nI i) (nI j) (bg τ) else (0, fl 2 (bg τ)))) = (0, fl 2 (bg τ)) := by
            by_cases z1 : x < 0
            · rw [if_pos z1]
            · rw [if_neg z1, if_neg (fun z2 => hx ((le2 x).mp ⟨z1, z2⟩))]
          exact bad (kF b1 (by rw [b2]; exact nb0)) (eF.trans b2) (k36 (fun z1 z2 => absurd ((le2 x).mp ⟨z1, z2⟩) hx)) (e36.trans hb)
      by_cases h9 : τ.1 5 t = 9
      · obtain ⟨a1, a2, -, a4, a5, a6⟩ := hK.2.2.2.2.2.2.2.2.1 h9
        obtain ⟨i, j, i1, j1, i2, j2⟩ := par a1 a2
        have si := p6 i i1 0 i2 a5
        have sj := p7 j j1 0 j2 a6
        have ek9 : f_Te_kindOf (nI t) σ0 = 9 := ek.trans h9
        have eF : f_CL_joinMeaning (nI t) x σ0 = f_CL_joinMeaningOfOr (nI t) (nI i) (nI j) x σ0 := by
          rw [eJ, f_CL_joinMeaning_19, ek9, if_neg (by decide), if_neg (by decide), if_neg (by decide), if_neg (by decide), if_pos rfl, i2, j2]; rfl
        have kF : k_CL_joinMeaningOfOr (nI t) (nI i) (nI j) x σ0 → narrow .boolean (.int (f_CL_joinMeaningOfOr (nI t) (nI i) (nI j) x σ0).1) = .int (f_CL_joinMeaningOfOr (nI t) (nI i) (nI j) x σ0).1 → k_CL_joinMeaning (nI t) x σ0 := fun w1 w2 => by
          refine kJ ⟨kk, ?_⟩
          rw [ek9, i2, j2]
          exact ⟨fun z => absurd z (by decide), fun _ => ⟨fun z => absurd z (by decide), fun _ => ⟨fun z => absurd z (by decide), fun _ => ⟨fun z => absurd z (by decide), fun _ => ⟨fun _ => ⟨w1, w2, trivial⟩, fun z => absurd rfl z⟩⟩⟩⟩⟩
        have e36 : f_Mo_meaning_36 (nI t) x 17185 (τ.1 5 t) (bg τ) = if x < 0 then (0, fl 2 (bg τ)) else (if x ≤ 2 then f_Mo_meaning_123 (nI t) x 17185 9 (nI i) (nI j) (bg τ) else (0, fl 2 (bg τ))) := by
          rw [h9, f_Mo_meaning_36, if_neg (by decide), if_pos rfl, e69 9 2 (if_neg (by decide)), i2, j2]
        have k36 : (¬ x < 0 → x ≤ 2 → k_Mo_meaning_123 (nI t) x 17185 9 (nI i) (nI j) (bg τ)) → k_Mo_meaning_36 (nI t) x 17185 (τ.1 5 t) (bg τ) := fun w => by
          rw [h9]
          rw [← i2, ← j2] at w
          exact ⟨fun z => absurd z (by decide), fun _ => ⟨fun _ => k69 9 2 (if_neg (by decide)) w, fun z => absurd rfl z⟩⟩
        by_cases hx : x = 0 ∨ x = 1 ∨ x = 2
        · obtain ⟨x1, x2⟩ := (le2 x).mpr hx
          have hM : MN n n q c k f τ (k_CL_joinMeaningOfOr (nI t) (nI i) (nI j) x σ0) (f_CL_joinMeaningOfOr (nI t) (nI i) (nI j) x σ0) (k_Mo_meaning_123 (nI t) x 17185 9 (nI i) (nI j) (bg τ)) (f_Mo_meaning_123 (nI t) x 17185 9 (nI i) (nI j) (bg τ)) := by
            rcases hx with rfl | rfl | rfl
            · exact mn_9_0 L0 hn ⟨ht, a4⟩ ⟨by omega, si⟩ ⟨by omega, sj⟩
            · exact mn_9_1 L0 hn ⟨ht, a4⟩ ⟨by omega, si⟩ ⟨by omega, sj⟩
            · exact mn_9_2 L0 hn ⟨ht, a4⟩ ⟨by omega, si⟩ ⟨by omega, sj⟩
          exact good _ _ _ _ hM (fun w => kF w (by obtain ⟨-, -, -, σ1, -, b2, -⟩ := hM; rw [b2]; exact nb1)) (fun σ' w => eF.trans w) (fun w => k36 (fun _ _ => w)) (by rw [e36, if_neg x1, if_pos x2])
        · obtain ⟨b1, b2⟩ := (mn_bad hx (nI t) (nI i) (nI j) σ0).2
          have hb : (if x < 0 then ((0 : Int32), fl 2 (bg τ)) else (if x ≤ 2 then f_Mo_meaning_123 (nI t) x 17185 9 (nI i) (nI j) (bg τ) else (0, fl 2 (bg τ)))) = (0, fl 2 (bg τ)) := by
            by_cases z1 : x < 0
            · rw [if_pos z1]
            · rw [if_neg z1, if_neg (fun z2 => hx ((le2 x).mp ⟨z1, z2⟩))]
          exact bad (kF b1 (by rw [b2]; exact nb0)) (eF.trans b2) (k36 (fun z1 z2 => absurd ((le2 x).mp ⟨z1, z2⟩) hx)) (e36.trans hb)
      by_cases h5 : τ.1 5 t = 5
      · obtain ⟨a1, a2, -, a4, a5⟩ := hK.2.2.2.2.1 h5
        obtain ⟨i, j, i1, j1, i2, j2⟩ := par a1 a2
        have sij : τ.1 6 i = τ.1 6 j := p6 i i1 _ i2 (a5.trans (by rw [j2]; unfold pO; rw [if_neg (nI_ne_m1 (by omega)), nI_clamp (by omega)]))
        have ek5 : f_Te_kindOf (nI t) σ0 = 5 := ek.trans h5
        obtain ⟨kt1, kt2⟩ := truth_C P0.1.1.2.2.1 (by omega) (t := i) (by omega)
        have kt2 : f_Te_isTruth (nI i) σ0 = 0 ↔ ¬ τ.1 6 i = 0 := kt2
        obtain ⟨km1, km2⟩ := truth_M (τ := bg τ) (t := i) (by omega)
        have km2 : f_Mo_isTruth (nI i) (bg τ) = 0 ↔ ¬ τ.1 6 i = 0 := km2
        have eF : f_CL_joinMeaning (nI t) x σ0 = if f_Te_isTruth (nI i) σ0 = 0 then (0, σ0) else f_CL_joinMeaning_100 (f_CL_joinMeaningOfEqual (nI t) (nI i) (nI j) x σ0).1 (f_CL_joinMeaningOfEqual (nI t) (nI i) (nI j) x σ0).2 := by
          rw [eJ, f_CL_joinMeaning_19, ek5, if_pos rfl, i2, j2]; rfl
        have kF : (¬ f_Te_isTruth (nI i) σ0 = 0 → k_CL_joinMeaningOfEqual (nI t) (nI i) (nI j) x σ0) → k_CL_joinMeaning (nI t) x σ0 := fun w => by
          refine kJ ⟨kk, ?_⟩
          rw [ek5, i2, j2]
          exact ⟨fun _ => ⟨kt1, fun _ => ⟨rfl, trivial⟩, fun z => ⟨w z, fun _ => ⟨rfl, trivial⟩, fun _ => ⟨rfl, trivial⟩⟩⟩, fun z => absurd rfl z⟩
        have e36 : f_Mo_meaning_36 (nI t) x 17185 (τ.1 5 t) (bg τ) = if f_Mo_isTruth (nI i) (bg τ) = 0 then (0, fl 2 (bg τ)) else (if x < 0 then (0, fl 2 (bg τ)) else (if x ≤ 3 then f_Mo_meaning_123 (nI t) x 17185 5 (nI i) (nI j) (bg τ) else (0, fl 2 (bg τ)))) := by
          rw [h5]
          show (if (5 : Int32) = 8 then _ else (if (5 : Int32) = 9 then _ else (if (5 : Int32) = 5 then (if f_Mo_isTruth (τ.1 8 (nI t).toNatClampNeg) (bg τ) = 0 then f_Mo_meaning_73 (nI t) x 17185 5 (bg τ) else f_Mo_meaning_69 (nI t) x 17185 5 (bg τ)) else _))) = _
          rw [if_neg (by decide), if_neg (by decide), if_pos rfl, hcl, i2, e73, e69 5 3 (if_pos rfl), i2, j2]
        have k36 : (¬ f_Mo_isTruth (nI i) (bg τ) = 0 → ¬ x < 0 → x ≤ 3 → k_Mo_meaning_123 (nI t) x 17185 5 (nI i) (nI j) (bg τ)) → k_Mo_meaning_36 (nI t) x 17185 (τ.1 5 t) (bg τ) := fun w => by
          rw [h5]
          refine ⟨fun z => absurd z (by decide), fun _ => ⟨fun z => absurd z (by decide), fun _ => ⟨fun _ => ⟨hin, ?_⟩, fun z => absurd rfl z⟩⟩⟩
          have e8 : (bg τ).1 8 (nI t).toNatClampNeg = nI i := by
            show τ.1 8 (nI t).toNatClampNeg = nI i
            rw [hcl, i2]
          rw [e8]
          refine ⟨km1, fun _ => k73 5, fun z => k69 5 3 (if_pos rfl) (fun z1 z2 => ?_)⟩
          rw [i2, j2]; exact w z z1 z2
        by_cases s0 : τ.1 6 i = 0
        · have c1 : ¬ f_Te_isTruth (nI i) σ0 = 0 := fun z => kt2.mp z s0
          have c2 : ¬ f_Mo_isTruth (nI i) (bg τ) = 0 := fun z => km2.mp z s0
          rw [if_neg c1] at eF
          rw [if_neg c2] at e36
          by_cases hx : x = 0 ∨ x = 1 ∨ x = 2 ∨ x = 3
          · obtain ⟨x1, x2⟩ := (le3 x).mpr hx
            have hM : MN n n q c k f τ (k_CL_joinMeaningOfEqual (nI t) (nI i) (nI j) x σ0) (f_CL_joinMeaningOfEqual (nI t) (nI i) (nI j) x σ0) (k_Mo_meaning_123 (nI t) x 17185 5 (nI i) (nI j) (bg τ)) (f_Mo_meaning_123 (nI t) x 17185 5 (nI i) (nI j) (bg τ)) := by
              rcases hx with rfl | rfl | rfl | rfl
              · exact mn_5_0 L0 hn ⟨ht, a4⟩ ⟨by omega, s0⟩ ⟨by omega, sij.symm.trans s0⟩
              · exact mn_5_1 L0 hn ⟨ht, a4⟩ ⟨by omega, s0⟩ ⟨by omega, sij.symm.trans s0⟩
              · exact mn_5_2 L0 hn ⟨ht, a4⟩ ⟨by omega, s0⟩ ⟨by omega, sij.symm.trans s0⟩
              · exact mn_5_3 L0 hn ⟨ht, a4⟩ ⟨by omega, s0⟩ ⟨by omega, sij.symm.trans s0⟩
            refine good _ _ _ _ hM (fun w => kF (fun _ => w)) (fun σ' w => ?_) (fun w => k36 (fun _ _ _ => w)) (by rw [e36, if_neg x1, if_pos x2])
            rw [eF, w]
            show (if (1 : Int32) = 0 then _ else ((1 : Int32), σ')) = _
            rw [if_neg (by decide)]
          · obtain ⟨b1, b2⟩ := mn_badE hx (nI t) (nI i) (nI j) σ0
            have hb : (if x < 0 then ((0 : Int32), fl 2 (bg τ)) else (if x ≤ 3 then f_Mo_meaning_123 (nI t) x 17185 5 (nI i) (nI j) (bg τ) else (0, fl 2 (bg τ)))) = (0, fl 2 (bg τ)) := by
              by_cases z1 : x < 0
              · rw [if_pos z1]
              · rw [if_neg z1, if_neg (fun z2 => hx ((le3 x).mp ⟨z1, z2⟩))]
            refine bad (kF (fun _ => b1)) ?_ (k36 (fun _ z1 z2 => absurd ((le3 x).mp ⟨z1, z2⟩) hx)) (e36.trans hb)
            rw [eF, b2]
            show (if (0 : Int32) = 0 then ((0 : Int32), σ0) else _) = _
            rw [if_pos rfl]
        · have c1 : f_Te_isTruth (nI i) σ0 = 0 := kt2.mpr s0
          have c2 : f_Mo_isTruth (nI i) (bg τ) = 0 := km2.mpr s0
          exact bad (kF (fun z => absurd c1 z)) (by rw [eF, if_pos c1]) (k36 (fun z => absurd c2 z)) (by rw [e36, if_pos c2])
      · refine bad (kJ ⟨kk, ?_⟩) ?_ ?_ ?_
        · rw [ek]
          exact ⟨fun z => absurd z h5, fun _ => ⟨fun _ => trivial, fun _ => ⟨fun _ => trivial, fun _ => ⟨fun z => absurd z h8, fun _ => ⟨fun z => absurd z h9, fun _ => trivial⟩⟩⟩⟩⟩
        · rw [eJ, f_CL_joinMeaning_19, ek, if_neg h5, if_neg h8, if_neg h9, ite_self, ite_self]
        · exact ⟨fun z => absurd z h8, fun _ => ⟨fun z => absurd z h9, fun _ => ⟨fun z => absurd z h5, fun _ => k73 _⟩⟩⟩
        · rw [f_Mo_meaning_36, if_neg h8, if_neg h9, if_neg h5, e73]
  · obtain ⟨e1, e2⟩ := (op_shut h).2 hf
    have eC : f_CL_meaning a x σ = (.inl (-1), σ) := by
      show (if f_CL_isShut σ = 0 then _ else _) = _
      rw [if_neg e1]
    have eM : f_Mo_meaning a x τ = (-1, bg τ) := by
      show f_Mo_meaning_4 a x (f_Mo_begin τ).1 (f_Mo_begin τ).2 = _
      rw [e2]
      show (if (1 : Int32) = 0 then _ else _) = _
      rw [if_neg (by decide)]
    refine ⟨⟨k_shut σ, fun z => absurd z e1, fun _ => trivial⟩, ⟨k_begin τ, ?_⟩, ?_⟩
    · rw [e2]; exact ⟨fun z => absurd z (show ¬ (1 : Int32) = 0 by decide), fun _ => trivial⟩
    · rw [eC, eM]; exact res_shut h
end MNG
