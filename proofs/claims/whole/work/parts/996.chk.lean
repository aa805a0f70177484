-- the look at what is in the way; the reference's results before it puts
section CHK
variable {n : Nat} {τ : St}
theorem ck104 {t0 u t1 : Nat} {x a2 nm : Int32} (ht : t0 < n) (hn : n ≤ 400) (hu : u < n) (h8 : ∀ t, t < n → B8 (τ.1 13 t)) (hx : X3 x) (hW : ∀ t, t < n → tmW τ t) (hK : ∀ t, t < n → kdW τ t) {X : St} (hX : ∀ c, ¬ c = 29 → X.1 c = τ.1 c) (kf : k_Mo_fails 2 nm X) :
    ∀ (d i fuel : Nat), i + d = t0 + 1 → d < fuel →
    (k_Mo_instance_104 fuel (nI t1) (nI u) nm x (nI t0) 1 (nI i) X ∧ f_Mo_instance_104 fuel (nI t1) (nI u) nm x (nI t0) 1 (nI i) X = ((f_Mo_fails 2 nm X).1, (f_Mo_fails 2 nm X).2)) ∧
    ((∀ j, i ≤ j → j ≤ t0 → ¬ X.1 29 j = 0 → fr τ x j → ¬ cau τ u j) → f_Mo_instance_104 fuel (nI t1) (nI u) nm x (nI t0) 0 (nI i) X = f_Mo_instance_205 (nI u) nm x (nI t0) (f_Mo_joinAs (nI t1) 0 X) ∧ (k_Mo_joinAs (nI t1) 0 X ∧ k_Mo_instance_205 (nI u) nm x (nI t0) (f_Mo_joinAs (nI t1) 0 X) → k_Mo_instance_104 fuel (nI t1) (nI u) nm x (nI t0) 0 (nI i) X)) ∧
    (¬ (∀ j, i ≤ j → j ≤ t0 → ¬ X.1 29 j = 0 → fr τ x j → ¬ cau τ u j) → k_Mo_instance_104 fuel (nI t1) (nI u) nm x (nI t0) 0 (nI i) X ∧ f_Mo_instance_104 fuel (nI t1) (nI u) nm x (nI t0) 0 (nI i) X = ((f_Mo_fails 2 nm X).1, (f_Mo_fails 2 nm X).2)) := by
  have n1 : ¬ (1 : Int32) = 0 := by decide
  intro d
  induction d with
  | zero =>
    intro i fuel hi hf
    obtain ⟨fuel, rfl⟩ : ∃ k, fuel = k + 1 := ⟨fuel - 1, by omega⟩
    have pl : nI t0 < nI i := (nI_lt_iff (by omega) (by omega)).mpr (by omega)
    refine ⟨⟨⟨fun _ => ⟨fun z => absurd z n1, fun _ => ⟨kf, trivial⟩⟩, fun z => absurd pl z⟩, ?_⟩, fun _ => ⟨?_, fun w => ⟨fun _ => ⟨fun _ => w, fun z => absurd rfl z⟩, fun z => absurd pl z⟩⟩, fun z => absurd (fun j h1 h2 => by omega) z⟩
    · rw [f_Mo_instance_104, if_pos pl, if_neg n1]; rfl
    · rw [f_Mo_instance_104, if_pos pl, if_pos rfl]
  | succ d ih =>
    intro i fuel hi hf
    obtain ⟨fuel, rfl⟩ : ∃ k, fuel = k + 1 := ⟨fuel - 1, by omega⟩
    have pl : ¬ nI t0 < nI i := fun z => by
      have := (nI_lt_iff (by omega) (by omega)).mp z; omega
    have hcl : (nI i).toNatClampNeg = i := nI_clamp (by omega)
    have hcu : (nI u).toNatClampNeg = u := nI_clamp (by omega)
    have hin : vp_in (nI i) 400 := by rw [in_iff, i_nI (by omega)]; omega
    have hinu : vp_in (nI u) 400 := by rw [in_iff, i_nI (by omega)]; omega
    obtain ⟨⟨i1, i2⟩, i3, i4⟩ := ih (i + 1) fuel (by omega) (by omega)
    rw [nI_succ] at i1 i2 i3 i4
    have c5 : X.1 5 (nI i).toNatClampNeg = τ.1 5 i := by rw [hcl, hX 5 (by omega)]
    have c10 : X.1 10 (nI i).toNatClampNeg = τ.1 10 i := by rw [hcl, hX 10 (by omega)]
    have c29 : X.1 29 (nI i).toNatClampNeg = X.1 29 i := by rw [hcl]
    have f1 : ((X.1 13 (nI i).toNatClampNeg >>> (x &&& 31)) &&& 1) = 1 ↔ fr τ x i := by rw [hcl, hX 13 (by omega)]; rfl
    have f2 : ((X.1 13 (nI u).toNatClampNeg >>> (X.1 10 (nI i).toNatClampNeg &&& 31)) &&& 1) = 1 ↔ fr τ (τ.1 10 i) u := by rw [hcu, c10, hX 13 (by omega)]; rfl
    refine ⟨⟨⟨fun z => absurd z pl, fun _ => ⟨fun z => absurd z n1, fun _ => i1⟩⟩, ?_⟩, ?_⟩
    · rw [f_Mo_instance_104, if_neg pl, if_neg n1]; exact i2
    · -- what this one says
      have e1 : (¬ X.1 29 i = 0 ∧ fr τ x i) ∧ cau τ u i → f_Mo_instance_104 (fuel + 1) (nI t1) (nI u) nm x (nI t0) 0 (nI i) X = f_Mo_instance_104 fuel (nI t1) (nI u) nm x (nI t0) 1 (nI i + 1) X := fun ⟨⟨w0, w2⟩, w1, w3⟩ => by
        rw [f_Mo_instance_104, if_neg pl, if_pos rfl, if_neg (fun z => w0 (c29.symm.trans z)), if_pos (c5.trans w1), if_pos (f1.mpr w2), if_pos (f2.mpr w3)]; rfl
      have e0 : ¬ ((¬ X.1 29 i = 0 ∧ fr τ x i) ∧ cau τ u i) → f_Mo_instance_104 (fuel + 1) (nI t1) (nI u) nm x (nI t0) 0 (nI i) X = f_Mo_instance_104 fuel (nI t1) (nI u) nm x (nI t0) 0 (nI i + 1) X := fun g => by
        rw [f_Mo_instance_104, if_neg pl, if_pos rfl]
        by_cases w0 : X.1 29 i = 0
        · rw [if_pos (c29.trans w0)]; rfl
        · rw [if_neg (fun z => w0 (c29.symm.trans z))]
          by_cases w1 : τ.1 5 i = 10
          · rw [if_pos (c5.trans w1)]
            by_cases w2 : fr τ x i
            · rw [if_pos (f1.mpr w2), if_neg (fun z => g ⟨⟨w0, w2⟩, w1, f2.mp z⟩)]; rfl
            · rw [if_neg (fun z => w2 (f1.mp z))]; rfl
          · rw [if_neg (fun z => w1 (c5.symm.trans z))]; rfl
      have k0 : ((¬ X.1 29 i = 0 ∧ fr τ x i) ∧ cau τ u i → k_Mo_instance_104 fuel (nI t1) (nI u) nm x (nI t0) 1 (nI i + 1) X) → (¬ ((¬ X.1 29 i = 0 ∧ fr τ x i) ∧ cau τ u i) → k_Mo_instance_104 fuel (nI t1) (nI u) nm x (nI t0) 0 (nI i + 1) X) → k_Mo_instance_104 (fuel + 1) (nI t1) (nI u) nm x (nI t0) 0 (nI i) X := fun g1 g2 =>
        ⟨fun z => absurd z pl, fun _ => ⟨fun _ => ⟨hin, fun z => g2 (fun w => w.1.1 (c29.symm.trans z)), fun w0 => ⟨hin, fun w1 => ⟨hin, fun w2 => ⟨hinu, hin, fun w3 => g1 ⟨⟨fun z => w0 (c29.trans z), f1.mp w2⟩, c5.symm.trans w1, f2.mp w3⟩, fun w3 => g2 (fun w => w3 (f2.mpr w.2.2))⟩, fun w2 => g2 (fun w => w2 (f1.mpr w.1.2))⟩, fun w1 => g2 (fun w => w1 (c5.trans w.2.1))⟩⟩, fun z => absurd rfl z⟩⟩
      by_cases w : (¬ X.1 29 i = 0 ∧ fr τ x i) ∧ cau τ u i
      · rw [e1 w]
        refine ⟨fun z => absurd w.2 (z i (Nat.le_refl i) (by omega) w.1.1 w.1.2), fun _ => ⟨k0 (fun _ => i1) (fun z => absurd w z), i2⟩⟩
      · rw [e0 w]
        have mv : (∀ j, i + 1 ≤ j → j ≤ t0 → ¬ X.1 29 j = 0 → fr τ x j → ¬ cau τ u j) ↔ (∀ j, i ≤ j → j ≤ t0 → ¬ X.1 29 j = 0 → fr τ x j → ¬ cau τ u j) := by
          refine ⟨fun g j h1 h2 h3 h4 => ?_, fun g j h1 h2 => g j (by omega) h2⟩
          by_cases z : j = i
          · subst z; exact fun z => w ⟨⟨h3, h4⟩, z⟩
          · exact g j (by omega) h2 h3 h4
        rw [mv] at i3 i4
        refine ⟨fun z => ⟨(i3 z).1, fun g => k0 (fun g => absurd g w) (fun _ => (i3 z).2 g)⟩, fun z => ⟨k0 (fun g => absurd g w) (fun _ => (i4 z).1), (i4 z).2⟩⟩
def m26 (X Y : St) : Prop := (∀ c, ¬ c = 26 → Y.1 c = X.1 c) ∧ Y.2 = X.2
/-- what stands for a term before anything is put -/
def re0 (τ : St) (x : Int32) (u j : Nat) : Int32 := if ((τ.1 13 j >>> (x &&& 31)) &&& 1) = 1 then (if τ.1 5 j = 1 then nI u else -1) else nI j
theorem pt3 {t0 u : Nat} {x : Int32} (ht : t0 < n) (hn : n ≤ 400) (h8 : ∀ t, t < n → B8 (τ.1 13 t)) (hx : X3 x) : ∀ (d i fuel : Nat) (X : St), i + d = t0 + 1 → d < fuel → (∀ c, 5 ≤ c → c ≤ 13 → ∀ j, j < n → X.1 c j = τ.1 c j) →
    ∃ Y, m26 X Y ∧ (∀ j, j ≤ t0 → Y.1 26 j = if j < i then X.1 26 j else re0 τ x u j) ∧ f_Mo_put_3 fuel (nI t0) x (nI u) (nI i) X = f_Mo_put_62 (nI t0) (sF Y 0 34 0) ∧ (k_Mo_put_62 (nI t0) (sF Y 0 34 0) → k_Mo_put_3 fuel (nI t0) x (nI u) (nI i) X) := by
  intro d
  induction d with
  | zero =>
    intro i fuel X hi hf hX
    obtain ⟨fuel, rfl⟩ : ∃ k, fuel = k + 1 := ⟨fuel - 1, by omega⟩
    have pl : nI t0 < nI i := (nI_lt_iff (by omega) (by omega)).mpr (by omega)
    refine ⟨X, ⟨fun _ _ => rfl, rfl⟩, fun j hj => by rw [if_pos (by omega)], ?_, fun w => ⟨fun _ => w, fun z => absurd pl z⟩⟩
    rw [f_Mo_put_3, if_pos pl]
  | succ d ih =>
    intro i fuel X hi hf hX
    obtain ⟨fuel, rfl⟩ : ∃ k, fuel = k + 1 := ⟨fuel - 1, by omega⟩
    have pl : ¬ nI t0 < nI i := fun z => by
      have := (nI_lt_iff (by omega) (by omega)).mp z; omega
    have hcl : (nI i).toNatClampNeg = i := nI_clamp (by omega)
    have hin : vp_in (nI i) 400 := by rw [in_iff, i_nI (by omega)]; omega
    have c5 : X.1 5 (nI i).toNatClampNeg = τ.1 5 i := by rw [hcl, hX 5 (by omega) (by omega) i (by omega)]
    have c13 : X.1 13 (nI i).toNatClampNeg = τ.1 13 i := by rw [hcl, hX 13 (by omega) (by omega) i (by omega)]
    have bt := ((h8 i (by omega)).bit hx).2
    obtain ⟨Y, y1, y2, y3, y4⟩ := ih (i + 1) fuel (sA X 26 (nI i) (re0 τ x u i)) (by omega) (by omega) (fun c q1 q2 j hj => by rw [sA1, if_neg (by omega)]; exact hX c q1 q2 j hj)
    rw [nI_succ] at y3 y4
    have e0 : f_Mo_put_3 (fuel + 1) (nI t0) x (nI u) (nI i) X = f_Mo_put_3 fuel (nI t0) x (nI u) (nI i + 1) (sA X 26 (nI i) (re0 τ x u i)) := by
      rw [f_Mo_put_3, if_neg pl, c13, c5]
      unfold re0
      by_cases w : ((τ.1 13 i >>> (x &&& 31)) &&& 1) = 1
      · rw [if_neg (fun z => bt.mp z w), if_pos w]
        by_cases w1 : τ.1 5 i = 1
        · rw [if_pos w1, if_pos w1]; rfl
        · rw [if_neg w1, if_neg w1]; rfl
      · rw [if_pos (bt.mpr w), if_neg w]; rfl
    refine ⟨Y, ⟨fun c hc => ?_, y1.2⟩, fun j hj => ?_, e0.trans y3, fun w => ?_⟩
    · rw [y1.1 c hc]
      show pu X.1 26 _ c = _
      rw [pu_at, if_neg hc]
    · rw [y2 j hj, sA1, if_pos rfl, hcl]
      by_cases z : j = i
      · rw [if_pos (show j < i + 1 by omega), if_pos z, if_neg (show ¬ j < i by omega), z]
      · rw [if_neg z]
        by_cases z2 : j < i
        · rw [if_pos (show j < i + 1 by omega), if_pos z2]
        · rw [if_neg (show ¬ j < i + 1 by omega), if_neg z2]
    · have g := y4 w
      have rr : ∀ v, re0 τ x u i = v → vp_in (nI i) 400 ∧ k_Mo_put_3 fuel (nI t0) x (nI u) (nI i + 1) (sA X 26 (nI i) v) := fun v hv => by
        rw [← hv]; exact ⟨hin, g⟩
      refine ⟨fun z => absurd z pl, fun _ => ⟨hin, fun z => rr _ ?_, fun z => ⟨hin, fun z2 => rr _ ?_, fun z2 => rr _ ?_⟩⟩⟩
      · rw [c13] at z
        unfold re0; rw [if_neg (bt.mp z)]
      · rw [c13] at z; rw [c5] at z2
        have w : ((τ.1 13 i >>> (x &&& 31)) &&& 1) = 1 := Classical.byContradiction (fun w => z (bt.mpr w))
        unfold re0; rw [if_pos w, if_pos z2]
      · rw [c13] at z; rw [c5] at z2
        have w : ((τ.1 13 i >>> (x &&& 31)) &&& 1) = 1 := Classical.byContradiction (fun w => z (bt.mpr w))
        unfold re0; rw [if_pos w, if_neg z2]
end CHK
