-- longer steps within a call
section PK2
variable {n0 n r q c k f : Nat} {τb σ τ : St}
theorem PK.acc {t : Nat} (h : PK n0 n r q c k f τb σ τ) (hn : n ≤ 208) (ht : t < n) : (f_Te_kindOf (nI t) σ = τ.1 5 t ∧ f_Te_sortOf (nI t) σ = τ.1 6 t ∧ f_Te_firstOf (nI t) σ = τ.1 8 t ∧ f_Te_secondOf (nI t) σ = τ.1 9 t ∧ f_Te_nameOf (nI t) σ = τ.1 10 t) ∧ k_Te_kindOf (nI t) σ ∧ k_Te_sortOf (nI t) σ ∧ k_Te_firstOf (nI t) σ ∧ k_Te_secondOf (nI t) σ ∧ k_Te_nameOf (nI t) σ := by
  have hT := h.1.1.2.2.1
  obtain ⟨e1, e2, e3, e4, e5, -⟩ := (hT.2.2 t ht).1
  have ka := k_acc hT.1 hn (nI t)
  exact ⟨⟨(acc_nI hT.1 hn ht (σ.1 7) (-1)).trans e1, (acc_nI hT.1 hn ht (σ.1 8) (-1)).trans e2, (acc_nI hT.1 hn ht (σ.1 10) (-1)).trans e4, (acc_nI hT.1 hn ht (σ.1 11) (-1)).trans e5, (acc_nI hT.1 hn ht (σ.1 9) (-1)).trans e3⟩, ka, ka, ka, ka, ka⟩
theorem IV.acc {t : Nat} (h : IV n q c k f σ τ) (ht : t < n) : (f_Te_kindOf (nI t) σ = τ.1 5 t ∧ f_Te_sortOf (nI t) σ = τ.1 6 t ∧ f_Te_firstOf (nI t) σ = τ.1 8 t ∧ f_Te_secondOf (nI t) σ = τ.1 9 t ∧ f_Te_nameOf (nI t) σ = τ.1 10 t) ∧ k_Te_kindOf (nI t) σ ∧ k_Te_sortOf (nI t) σ ∧ k_Te_firstOf (nI t) σ ∧ k_Te_secondOf (nI t) σ ∧ k_Te_nameOf (nI t) σ := by
  have hn := h.1
  have hT := h.2.1
  obtain ⟨e1, e2, e3, e4, e5, -⟩ := (hT.2.2 t ht).1
  have ka := k_acc hT.1 (by omega) (nI t)
  exact ⟨⟨(acc_nI hT.1 (by omega) ht (σ.1 7) (-1)).trans e1, (acc_nI hT.1 (by omega) ht (σ.1 8) (-1)).trans e2, (acc_nI hT.1 (by omega) ht (σ.1 10) (-1)).trans e4, (acc_nI hT.1 (by omega) ht (σ.1 11) (-1)).trans e5, (acc_nI hT.1 (by omega) ht (σ.1 9) (-1)).trans e3⟩, ka, ka, ka, ka, ka⟩
theorem PK.joinOpp {t : Nat} (h : PK n0 n r q c k f τb σ τ) (hn : n ≤ 206) (hr : r < 68) (ht : tru τ n t) :
    k_Te_opposite (nI t) σ ∧ k_Ro_join (f_Te_opposite (nI t) σ).1 (f_Te_opposite (nI t) σ).2 ∧ k_Mo_joinAs (nI t) 0 τ ∧ ∃ n' r' σ' τ', f_Ro_join (f_Te_opposite (nI t) σ).1 (f_Te_opposite (nI t) σ).2 = σ' ∧ f_Mo_joinAs (nI t) 0 τ = τ' ∧ n ≤ n' ∧ n' ≤ n + 1 ∧ r ≤ r' ∧ r' ≤ r + 1 ∧ PK n0 n' r' q c k f τb σ' τ' ∧ rwM n τ τ' := by
  obtain ⟨k1, k2, m, n', σ', τ', f1, f2, a1, a2, a3, a4, a5⟩ := h.opp hn ht
  obtain ⟨b1, b2, r', b3, b4, b5, b6⟩ := a4.join hr a1 (by omega)
  refine ⟨k1, by rw [f1]; exact b1, ⟨fun _ => ⟨k2, by rw [f2]; exact ⟨b2, trivial⟩⟩, fun z => absurd rfl z⟩, n', r', f_Ro_join (nI m) σ', f_Mo_join (nI m) τ', by rw [f1], ?_, a2, a3, b3, b4, b5, fun c0 q1 q2 j hj => by rw [b6 c0 q1 q2]; exact a5 c0 q1 q2 j hj⟩
  show (if (0 : Int32) = 0 then f_Mo_join (f_Mo_opposite (nI t) τ).1 (f_Mo_opposite (nI t) τ).2 else _) = _
  rw [if_pos rfl, f2]
theorem PK.joinYes {t : Nat} (h : PK n0 n r q c k f τb σ τ) (hn : n ≤ 208) (hr : r < 68) (ht : tru τ n t) :
    k_Ro_join (nI t) σ ∧ k_Mo_joinAs (nI t) 1 τ ∧ ∃ r' σ' τ', f_Ro_join (nI t) σ = σ' ∧ f_Mo_joinAs (nI t) 1 τ = τ' ∧ r ≤ r' ∧ r' ≤ r + 1 ∧ PK n0 n r' q c k f τb σ' τ' ∧ rwM n τ τ' := by
  obtain ⟨b1, b2, r', b3, b4, b5, b6⟩ := h.join hr ht hn
  refine ⟨b1, ⟨fun z => absurd z (by decide), fun _ => ⟨b2, trivial⟩⟩, r', f_Ro_join (nI t) σ, f_Mo_join (nI t) τ, rfl, ?_, b3, b4, b5, fun c0 q1 q2 j hj => by rw [b6 c0 q1 q2]⟩
  show (if (1 : Int32) = 0 then _ else f_Mo_join (nI t) τ) = _
  rw [if_neg (by decide)]
theorem PK.joinEqn {p p2 : Nat} (h : PK n0 n r q c k f τb σ τ) (hn : n ≤ 206) (hr : r < 68) (hp : p < n) (hp2 : p2 < n) (hs : τ.1 6 p = τ.1 6 p2) :
    k_Te_equation (nI p) (nI p2) σ ∧ k_Ro_join (f_Te_equation (nI p) (nI p2) σ).1 (f_Te_equation (nI p) (nI p2) σ).2 ∧ k_Mo_made 5 (nI p) (nI p2) τ ∧ k_Mo_join (f_Mo_made 5 (nI p) (nI p2) τ).1 (f_Mo_made 5 (nI p) (nI p2) τ).2 ∧
      ∃ n' r' σ' τ', f_Ro_join (f_Te_equation (nI p) (nI p2) σ).1 (f_Te_equation (nI p) (nI p2) σ).2 = σ' ∧ f_Mo_join (f_Mo_made 5 (nI p) (nI p2) τ).1 (f_Mo_made 5 (nI p) (nI p2) τ).2 = τ' ∧ n ≤ n' ∧ n' ≤ n + 1 ∧ r ≤ r' ∧ r' ≤ r + 1 ∧ PK n0 n' r' q c k f τb σ' τ' ∧ rwM n τ τ' := by
  obtain ⟨k1, k2, m, n', σ', τ', f1, f2, a1, a2, a3, a4, a5⟩ := h.eqn hn hp hp2 hs
  obtain ⟨b1, b2, r', b3, b4, b5, b6⟩ := a4.join hr a1 (by omega)
  refine ⟨k1, by rw [f1]; exact b1, k2, by rw [f2]; exact b2, n', r', f_Ro_join (nI m) σ', f_Mo_join (nI m) τ', by rw [f1], by rw [f2], a2, a3, b3, b4, b5, fun c0 q1 q2 j hj => by rw [b6 c0 q1 q2]; exact a5 c0 q1 q2 j hj⟩
/-- the parts of a row that has two -/
theorem two_parts {t : Nat} (hW : tmW τ t) (ht : t < 400) (h1 : ¬ τ.1 8 t = -1) (h2 : ¬ τ.1 9 t = -1) : ∃ i j, i < t ∧ j < t ∧ τ.1 8 t = nI i ∧ τ.1 9 t = nI j := by
  obtain ⟨i, q1, q2⟩ := hW.1.resolve_left h1
  obtain ⟨j, q3, q4⟩ := hW.2.1.resolve_left h2
  exact ⟨i, j, q1, q3, q2, q4⟩
theorem IV.row {t : Nat} (h : IV n q c k f σ τ) (ht : t < n) : tmW τ t ∧ kdW τ t := ⟨(h.2.1.2.2 t ht).2, h.2.2.2.1.1 t ht⟩
/-- an equation's parts -/
theorem IV.eq5 {t : Nat} (h : IV n q c k f σ τ) (ht : t < n) (h5 : τ.1 5 t = 5) : ∃ i j, i < t ∧ j < t ∧ τ.1 8 t = nI i ∧ τ.1 9 t = nI j ∧ τ.1 6 t = 0 ∧ τ.1 6 i = τ.1 6 j := by
  have hn := h.1
  obtain ⟨hW, hK⟩ := h.row ht
  obtain ⟨a1, a2, -, a3, a4⟩ := hK.2.2.2.2.1 h5
  obtain ⟨i, j, b1, b2, b3, b4⟩ := two_parts hW (by omega) a1 a2
  refine ⟨i, j, b1, b2, b3, b4, a3, ?_⟩
  rw [b3, b4] at a4
  unfold pO at a4
  rw [if_neg (nI_ne_m1 (by omega)), if_neg (nI_ne_m1 (by omega)), nI_clamp (by omega), nI_clamp (by omega)] at a4
  exact a4
end PK2
