-- linear
section OPL
variable {n q c k f : Nat} {σ τ : St}
def Aa (n : Nat) (a : Int32) : Prop := a = -1 ∨ ∃ t, t < n ∧ a = nI t
def jL (a : Int32) (τ : St) : St := if a < 0 then τ else f_Mo_join a τ
def s3L (a1 a2 a3 a4 a5 a6 : Int32) (σ : St) : St := nxt a3 a6 (nxt a2 a5 (nxt a1 a4 (sF σ 24 5 0)))
/-- a reference's state in which only the sums' cells have changed -/
theorem fz_eq {X Z : St} (h : fz X Z) : Z = (pu (pu X.1 29 (Z.1 29)) 0 (pu (X.1 0) 45 (Z.1 0 45)), Z.2) := by
  have e : Z.1 = pu (pu X.1 29 (Z.1 29)) 0 (pu (X.1 0) 45 (Z.1 0 45)) := by
    funext c0
    rw [pu_at]
    by_cases z : c0 = 0
    · rw [if_pos z, z]
      funext j
      rw [pu_at]
      by_cases w : j = 45
      · rw [if_pos w, w]
      · rw [if_neg w]; exact h.2 j w
    · rw [if_neg z, pu_at]
      by_cases w : c0 = 29
      · rw [if_pos w, w]
      · rw [if_neg w]; exact h.1 c0 z w
  exact Prod.ext e rfl
theorem fm_ok (h : IV n q c k f σ τ) {a : Int32} (g : Int32) (hA : Aa n a) : k_Ba_takes a g σ ∧ k_Mo_formed a g (bg τ) ∧ (f_Ba_takes a g σ = 0 ↔ f_Mo_formed a g (bg τ) = 0) := by
  rcases hA with rfl | ⟨t, ht, rfl⟩
  · have m : ¬ (0 : Int32) ≤ -1 := by decide
    refine ⟨⟨fun _ => trivial, fun z => absurd rfl z⟩, ⟨fun z => absurd z m, fun _ => trivial⟩, ?_⟩
    show (if (-1 : Int32) = -1 then (1 : Int32) else _) = 0 ↔ (if (0 : Int32) ≤ -1 then _ else (1 : Int32)) = 0
    rw [if_pos rfl, if_neg m]
  · obtain ⟨k1, k2, e, -⟩ := tak h g ht
    exact ⟨k1, k2, e⟩
theorem ton (h : IV n q c k f σ τ) (a : Int32) : (Aa n a → ¬ f_CL_isTermOrNone a σ = 0) ∧ (¬ Aa n a → f_CL_isTermOrNone a σ = 0 ∧ ¬ a = -1 ∧ f_Mo_isTerm a (bg τ) = 0) ∧ k_CL_isTermOrNone a σ ∧ (¬ f_Mo_isTerm a (bg τ) = 0 → ∃ t, t < n ∧ a = nI t) := by
  have hn := h.1
  have d10 : ¬ (1 : Int32) = 0 := by decide
  have e : f_CL_isTermOrNone a σ = if a = -1 then 1 else (if f_Te_has a σ = 0 then 0 else 1) := rfl
  refine ⟨fun hA => ?_, fun hA => ?_, ⟨fun _ => ⟨rfl, trivial⟩, fun _ => ⟨k_has a σ, fun _ => ⟨rfl, trivial⟩, fun _ => ⟨rfl, trivial⟩⟩⟩, fun hT => ?_⟩
  · rw [e]
    rcases hA with rfl | ⟨t, ht, rfl⟩
    · rw [if_pos rfl]; exact d10
    · rw [if_neg (nI_ne_m1 (by omega)), if_neg ((op_has h (nI t)).2 (nI_arg ht hn)).1]; exact d10
  · have n1 : ¬ a = -1 := fun z => hA (Or.inl z)
    rcases arg_cases a n with ha | ha
    · obtain ⟨g1, g2⟩ := (op_has h a).1 ha
      exact ⟨by rw [e, if_neg n1, if_pos g1], n1, g2⟩
    · exact absurd (Or.inr ha) hA
  · rcases arg_cases a n with ha | ha
    · exact absurd ((op_has h a).1 ha).2 hT
    · exact ha
/-- what one truth gives -/
theorem arg3 (h : IV n q c k f σ τ) {a g : Int32} (cc : Int32 → Option Fr) (hA : Aa n a) (htk : ¬ f_Ba_takes a g σ = 0) : ∃ c', W3 n τ a g cc c' ∧ LD σ (GG n τ) (Sp τ) (fun e => e.1 99 0 = nI 101) a g (PT cc) (PT c') ∧ (¬ a = -1 → -99 ≤ g.toInt ∧ g.toInt ≤ 99) ∧ ((∀ x, DX x → ¬ RA n τ x → cc x = some (0, 1)) → ∀ x, DX x → ¬ RA n τ x → c' x = some (0, 1)) ∧ (a = -1 ∨ ∃ t, a = nI t ∧ tru τ n t) ∧ (∀ X j, dmL σ a X j = true → X j = true ∨ ∃ d, GG n τ d j) := by
  have hn := h.1
  rcases hA with rfl | ⟨t, ht, rfl⟩
  · refine ⟨cc, Or.inl ⟨rfl, rfl⟩, Or.inl ⟨rfl, fun x hx => hx⟩, fun z => absurd rfl z, fun w => w, Or.inl rfl, fun X j hj => ?_⟩
    unfold dmL at hj
    rw [if_pos rfl] at hj; exact Or.inl hj
  · obtain ⟨-, -, -, e⟩ := tak h g ht
    obtain ⟨hg, s0, kin, a, b, hD, sa, sb, oa, ob⟩ := e htk
    have n1 : ¬ nI t = -1 := nI_ne_m1 (by omega)
    have hW : ∀ t, t < n → tmW τ t := fun t ht => (h.2.1.2.2 t ht).2
    have hK := h.2.2.2.1.1
    have dp : ∀ j, j < n → (τ.1 7 j).toInt ≤ (11 : Nat) + 1 := fun j hj => by
      have := h.2.2.2.2.2.2.1 j hj
      rw [Int32.le_iff_toInt_le] at this
      have d : (12 : Int32).toInt = 12 := by decide
      omega
    have ga : GG n τ 11 a := ⟨hD.2.1, sa, dp a hD.2.1⟩
    have gb : GG n τ 11 b := ⟨hD.2.2.1, sb, dp b hD.2.2.1⟩
    refine ⟨ntc τ a b g.toInt cc, Or.inr ⟨t, a, b, rfl, hD, rfl⟩, ld_ok h.2.1 h.2.2.2.1 hn n1 kin oa ob ga gb hg, fun _ => hg, fun w x hx hr => ntc_no hn hW hK hD.2.1 hD.2.2.1 sa sb hx hr (w x hx hr), Or.inr ⟨t, rfl, ht, s0⟩, fun X j hj => ?_⟩
    have C := cl_ok h.2.1 h.2.2.2.1 hn
    unfold dmL at hj
    have la := hD.2.1
    have lb := hD.2.2.1
    rw [if_neg n1, oa, ob, nI_clamp (by omega), nI_clamp (by omega)] at hj
    rcases nd_sd C 11 _ b j gb hj with w | w
    · exact nd_sd C 11 _ a j ga w
    · exact Or.inr w
/-- what makes it strict -/
def strA (τ : St) (a g : Int32) : Prop := ¬ a = -1 ∧ τ.1 5 a.toNatClampNeg = 6 ∧ 0 < g
theorem st_ok (h : IV n q c k f σ τ) {a g : Int32} (hA : Aa n a) {σ' : St} (hk : f_Te_kindOf a σ' = f_Te_kindOf a σ) : stM a g σ' = 0 ↔ σ'.1 24 5 = 0 ∧ ¬ strA τ a g := by
  have hn := h.1
  have d10 : ¬ (1 : Int32) = 0 := by decide
  obtain ⟨-, -, -, -, i5, i6⟩ := ci99 g
  rcases hA with rfl | ⟨t, ht, rfl⟩
  · unfold stM
    rw [if_pos rfl]
    exact ⟨fun w => ⟨w, fun z => z.1 rfl⟩, fun w => w.1⟩
  · obtain ⟨⟨ek, -⟩, -⟩ := h.acc ht
    have n1 : ¬ nI t = -1 := nI_ne_m1 (by omega)
    have hcl : (nI t).toNatClampNeg = t := nI_clamp (by omega)
    unfold stM stL
    rw [if_neg n1, hk, ek]
    by_cases z1 : σ'.1 24 5 = 0
    · rw [if_pos z1]
      by_cases z2 : τ.1 5 t = 6
      · rw [if_pos z2]
        by_cases z3 : g ≤ 0
        · rw [if_pos z3]
          refine ⟨fun _ => ⟨z1, fun w => ?_⟩, fun _ => rfl⟩
          have := i5.mp z3
          have := i6.mp w.2.2
          omega
        · rw [if_neg z3]
          refine ⟨fun w => absurd w d10, fun w => absurd ⟨n1, by rw [hcl]; exact z2, i6.mpr ?_⟩ w.2⟩
          have : ¬ g.toInt ≤ 0 := fun y => z3 (i5.mpr y)
          omega
      · rw [if_neg z2]
        exact ⟨fun _ => ⟨z1, fun w => z2 (by have := w.2.1; rw [hcl] at this; exact this)⟩, fun _ => rfl⟩
    · rw [if_neg z1]
      exact ⟨fun w => absurd w d10, fun w => absurd w.1 z1⟩
theorem s3_st (h : IV n q c k f σ τ) {a1 a2 a3 : Int32} (a4 a5 a6 : Int32) (A1 : Aa n a1) (A2 : Aa n a2) (A3 : Aa n a3) : (s3L a1 a2 a3 a4 a5 a6 σ).1 24 5 = 0 ↔ ¬ strA τ a1 a4 ∧ ¬ strA τ a2 a5 ∧ ¬ strA τ a3 a6 := by
  show stM a3 a6 (nxt a2 a5 (nxt a1 a4 (sF σ 24 5 0))) = 0 ↔ _
  rw [st_ok h A3 (g := a6) (σ' := nxt a2 a5 (nxt a1 a4 (sF σ 24 5 0))) rfl]
  show stM a2 a5 (nxt a1 a4 (sF σ 24 5 0)) = 0 ∧ _ ↔ _
  rw [st_ok h A2 (g := a5) (σ' := nxt a1 a4 (sF σ 24 5 0)) rfl]
  show (stM a1 a4 (sF σ 24 5 0) = 0 ∧ _) ∧ _ ↔ _
  rw [st_ok h A1 (g := a4) (σ' := sF σ 24 5 0) rfl]
  exact ⟨fun w => ⟨w.1.1.2, w.1.2, w.2⟩, fun w => ⟨⟨⟨rfl, w.1⟩, w.2.1⟩, w.2.2⟩⟩
/-- the reference's end -/
theorem tl330 (h : IV n q c k f σ τ) {a1 a2 a3 a4 a5 a6 s : Int32} {Z : St} {t1 : Nat} (ht1 : t1 < n) (e1 : a1 = nI t1) (A2 : Aa n a2) (A3 : Aa n a3) (hZ : Z.1 5 = τ.1 5) (h0 : Z.1 0 45 = 0) : ∃ S : Int32, (S = 0 ↔ ¬ strA τ a1 a4 ∧ ¬ strA τ a2 a5 ∧ ¬ strA τ a3 a6) ∧ f_Mo_linear_120 1 a1 a2 a3 a4 a5 a6 17185 s (-2) Z = f_Mo_linear_330 a1 a2 a3 17185 s S Z ∧ (k_Mo_linear_330 a1 a2 a3 17185 s S Z → k_Mo_linear_120 1 a1 a2 a3 a4 a5 a6 17185 s (-2) Z) := by
  have hn := h.1
  have e2 : (-2 : Int32) < -1 := by decide
  have d10 : ¬ (1 : Int32) = 0 := by decide
  have neg : ∀ a, Aa n a → (a < 0 ↔ a = -1) ∧ (¬ a = -1 → vp_in a 400) := fun a hA => by
    rcases hA with rfl | ⟨t, ht, rfl⟩
    · exact ⟨by decide, fun z => absurd rfl z⟩
    · have n1 : ¬ nI t = -1 := nI_ne_m1 (by omega)
      exact ⟨⟨fun z => absurd z (nI_pos (by omega)), fun z => absurd z n1⟩, fun _ => by rw [in_iff, i_nI (by omega)]; omega⟩
  obtain ⟨g2, v2⟩ := neg a2 A2
  obtain ⟨g3, v3⟩ := neg a3 A3
  have v1 : vp_in a1 400 := (neg a1 (Or.inr ⟨t1, ht1, e1⟩)).2 (by rw [e1]; exact nI_ne_m1 (by omega))
  have n1 : ¬ a1 = -1 := by rw [e1]; exact nI_ne_m1 (by omega)
  obtain ⟨-, -, -, -, i5, i6⟩ := ci99 a6
  -- the third
  have r3 : ∃ S : Int32, (S = 0 ↔ ¬ strA τ a3 a6) ∧ f_Mo_linear_305 a1 a2 a3 a6 17185 s Z = f_Mo_linear_330 a1 a2 a3 17185 s S Z ∧ (k_Mo_linear_330 a1 a2 a3 17185 s S Z → k_Mo_linear_305 a1 a2 a3 a6 17185 s Z) := by
    by_cases z1 : a3 < 0
    · refine ⟨0, ⟨fun _ w => w.1 (g3.mp z1), fun _ => rfl⟩, ?_, fun w => ⟨fun _ => w, fun y => absurd z1 y⟩⟩
      rw [f_Mo_linear_305, if_pos z1]; rfl
    · have y1 : ¬ a3 = -1 := fun w => z1 (g3.mpr w)
      by_cases z2 : Z.1 5 a3.toNatClampNeg = 6
      · by_cases z3 : a6 ≤ 0
        · refine ⟨0, ⟨fun _ w => ?_, fun _ => rfl⟩, ?_, fun w => ⟨fun y => absurd y z1, fun _ => ⟨v3 y1, fun _ => ⟨fun _ => w, fun y => absurd z3 y⟩, fun y => absurd z2 y⟩⟩⟩
          · have := i5.mp z3
            have := i6.mp w.2.2
            omega
          · rw [f_Mo_linear_305, if_neg z1, if_pos z2, if_pos z3]; rfl
        · have pos : 0 < a6 := i6.mpr (by
            have : ¬ a6.toInt ≤ 0 := fun y => z3 (i5.mpr y)
            omega)
          refine ⟨1, ⟨fun w => absurd w d10, fun w => absurd ⟨y1, by rw [← hZ]; exact z2, pos⟩ w⟩, ?_, fun w => ⟨fun y => absurd y z1, fun _ => ⟨v3 y1, fun _ => ⟨fun y => absurd y z3, fun _ => w⟩, fun y => absurd z2 y⟩⟩⟩
          rw [f_Mo_linear_305, if_neg z1, if_pos z2, if_neg z3]; rfl
      · refine ⟨0, ⟨fun _ w => z2 (by rw [hZ]; exact w.2.1), fun _ => rfl⟩, ?_, fun w => ⟨fun y => absurd y z1, fun _ => ⟨v3 y1, fun y => absurd y z2, fun _ => w⟩⟩⟩
        rw [f_Mo_linear_305, if_neg z1, if_neg z2]; rfl
  obtain ⟨S3, s1, s2, s3⟩ := r3
  have r2 : ∃ S : Int32, (S = 0 ↔ ¬ strA τ a2 a5 ∧ ¬ strA τ a3 a6) ∧ f_Mo_linear_285 a1 a2 a3 a5 a6 17185 s Z = f_Mo_linear_330 a1 a2 a3 17185 s S Z ∧ (k_Mo_linear_330 a1 a2 a3 17185 s S Z → k_Mo_linear_285 a1 a2 a3 a5 a6 17185 s Z) := by
    by_cases z1 : a2 < 0
    · refine ⟨S3, ?_, ?_, fun w => ⟨fun _ => s3 w, fun y => absurd z1 y⟩⟩
      · rw [s1]; exact ⟨fun w => ⟨fun y => y.1 (g2.mp z1), w⟩, fun w => w.2⟩
      · rw [f_Mo_linear_285, if_pos z1, s2]
    · have y1 : ¬ a2 = -1 := fun w => z1 (g2.mpr w)
      by_cases z2 : Z.1 5 a2.toNatClampNeg = 6
      · by_cases z3 : 0 < a5
        · refine ⟨1, ⟨fun w => absurd w d10, fun w => absurd ⟨y1, by rw [← hZ]; exact z2, z3⟩ w.1⟩, ?_, fun w => ⟨fun y => absurd y z1, fun _ => ⟨v2 y1, fun _ => ⟨fun _ => w, fun y => absurd z3 y⟩, fun y => absurd z2 y⟩⟩⟩
          rw [f_Mo_linear_285, if_neg z1, if_pos z2, if_pos z3]; rfl
        · refine ⟨S3, ?_, ?_, fun w => ⟨fun y => absurd y z1, fun _ => ⟨v2 y1, fun _ => ⟨fun y => absurd y z3, fun _ => s3 w⟩, fun y => absurd z2 y⟩⟩⟩
          · rw [s1]; exact ⟨fun w => ⟨fun y => z3 y.2.2, w⟩, fun w => w.2⟩
          · rw [f_Mo_linear_285, if_neg z1, if_pos z2, if_neg z3, s2]
      · refine ⟨S3, ?_, ?_, fun w => ⟨fun y => absurd y z1, fun _ => ⟨v2 y1, fun y => absurd y z2, fun _ => s3 w⟩⟩⟩
        · rw [s1]; exact ⟨fun w => ⟨fun y => z2 (by rw [hZ]; exact y.2.1), w⟩, fun w => w.2⟩
        · rw [f_Mo_linear_285, if_neg z1, if_neg z2, s2]
  obtain ⟨S2, t1', t2', t3'⟩ := r2
  by_cases z2 : Z.1 5 a1.toNatClampNeg = 6
  · by_cases z3 : 0 < a4
    · refine ⟨1, ⟨fun w => absurd w d10, fun w => absurd ⟨n1, by rw [← hZ]; exact z2, z3⟩ w.1⟩, ?_, fun w => ⟨fun _ => ⟨fun _ => ⟨v1, fun _ => ⟨fun _ => w, fun y => absurd z3 y⟩, fun y => absurd z2 y⟩, fun y => absurd h0 y⟩, fun y => absurd e2 y⟩⟩
      rw [f_Mo_linear_120, if_pos e2, if_pos h0, if_pos z2, if_pos z3]; rfl
    · refine ⟨S2, ?_, ?_, fun w => ⟨fun _ => ⟨fun _ => ⟨v1, fun _ => ⟨fun y => absurd y z3, fun _ => t3' w⟩, fun y => absurd z2 y⟩, fun y => absurd h0 y⟩, fun y => absurd e2 y⟩⟩
      · rw [t1']; exact ⟨fun w => ⟨fun y => z3 y.2.2, w⟩, fun w => w.2⟩
      · rw [f_Mo_linear_120, if_pos e2, if_pos h0, if_pos z2, if_neg z3, t2']
  · refine ⟨S2, ?_, ?_, fun w => ⟨fun _ => ⟨fun _ => ⟨v1, fun y => absurd y z2, fun _ => t3' w⟩, fun y => absurd h0 y⟩, fun y => absurd e2 y⟩⟩
    · rw [t1']; exact ⟨fun w => ⟨fun y => z2 (by rw [hZ]; exact y.2.1), w⟩, fun w => w.2⟩
    · rw [f_Mo_linear_120, if_pos e2, if_pos h0, if_neg z2, t2']
/-- one truth more in the row -/
theorem jn_ok {n0 r : Nat} {τb σ' τ' : St} (P : PK n0 n r q c k f τb σ' τ') (hr : r < 68) (hn : n ≤ 208) {a : Int32} (hA : a = -1 ∨ ∃ t, a = nI t ∧ tru τ' n t) : k_Ro_join a σ' ∧ (¬ a < 0 → k_Mo_join a τ') ∧ ∃ r', r' ≤ r + 1 ∧ PK n0 n r' q c k f τb (f_Ro_join a σ') (jL a τ') ∧ (∀ c0, 5 ≤ c0 → c0 ≤ 13 → (jL a τ').1 c0 = τ'.1 c0) := by
  rcases hA with rfl | ⟨t, rfl, ht⟩
  · have m : (-1 : Int32) < 0 := by decide
    have e : f_Ro_join (-1) σ' = σ' := by
      show (if (-1 : Int32) = -1 then σ' else _) = _
      rw [if_pos rfl]
    have e2 : jL (-1) τ' = τ' := by unfold jL; rw [if_pos m]
    refine ⟨⟨fun _ => trivial, fun z => absurd rfl z⟩, fun z => absurd m z, r, by omega, ?_, ?_⟩
    · rw [e, e2]; exact P
    · rw [e2]; exact fun _ _ _ => rfl
  · have np : ¬ nI t < 0 := nI_pos (by have := ht.1; omega)
    have e2 : jL (nI t) τ' = f_Mo_join (nI t) τ' := by unfold jL; rw [if_neg np]
    obtain ⟨k1, k2, r', q1, q2, q3, q4⟩ := P.join hr ht hn
    refine ⟨k1, fun _ => k2, r', q2, ?_, ?_⟩
    · rw [e2]; exact q3
    · rw [e2]; exact q4
end OPL
