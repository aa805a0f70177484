-- op_linear
section LIN
variable {n q c k f : Nat} {σ τ : St} {a1 a2 a3 a4 a5 a6 : Int32}
theorem IV24 (v : Int32) (h : IV n q c k f σ τ) : IV n q c k f (sF σ 24 5 v) τ := h
theorem s3_IV (h : IV n q c k f σ τ) : IV n q c k f (s3L a1 a2 a3 a4 a5 a6 σ) τ := IV24 _ (IV24 _ (IV24 _ (IV24 _ h)))
theorem TTz {n0 m : Nat} {σ' Z : St} (hz : fz (sF (bg τ) 0 45 0) Z) (h : TT n0 m σ' (bg τ)) : TT n0 m σ' Z := by
  rw [fz_eq hz]; exact h
theorem RSz {n0 : Nat} {σ' Z : St} (hz : fz (sF (bg τ) 0 45 0) Z) (h : RS n0 q c k f σ' (bg τ)) : RS n0 q c k f σ' Z := by
  rw [fz_eq hz]; exact h
theorem RWz {r : Nat} {σ' Z : St} (hz : fz (sF (bg τ) 0 45 0) Z) (h : RW r σ' (bg τ)) : RW r σ' Z := by
  rw [fz_eq hz]; exact h
theorem bgz {Z : St} (hz : fz (sF (bg τ) 0 45 0) Z) : (∀ c0, 5 ≤ c0 → c0 ≤ 13 → Z.1 c0 = τ.1 c0) ∧ Z.1 0 0 = 0 := by
  refine ⟨fun c0 q1 q2 => ?_, hz.2 0 (by omega)⟩
  rw [hz.1 c0 (by omega) (by omega)]
  show pu (pu (pu (pu τ.1 0 _) 0 _) 0 _) 0 _ c0 = _
  rw [pu_at, if_neg (by omega), pu_at, if_neg (by omega), pu_at, if_neg (by omega), pu_at, if_neg (by omega)]
theorem PKz {σ' Z : St} (h : IV n q c k f σ' τ) (hz : fz (sF (bg τ) 0 45 0) Z) : PK n n 0 q c k f τ (sF σ' 25 1 0) Z := by
  obtain ⟨⟨p1, p1'⟩, p2, -, -, p5, p6⟩ := PK.start h
  obtain ⟨e1, e0⟩ := bgz hz
  exact ⟨⟨TTz hz p1, RWz hz p1'⟩, RSz hz p2, fun c0 q1 q2 j _ => by rw [e1 c0 q1 q2], e0, fun t ht => by rw [e1 7 (by omega) (by omega)]; exact h.2.2.2.2.2.2.1 t ht, fun j hj => absurd hj (Nat.not_lt_zero j)⟩
/-- it reaches the balance -/
def RCH (n f : Nat) (σ : St) (a1 a2 a3 a4 a5 a6 : Int32) : Prop := f < 60 ∧ (∃ t, t < n ∧ a1 = nI t) ∧ Aa n a2 ∧ Aa n a3 ∧ (a2 = -1 → a3 = -1) ∧ ¬ f_Ba_takes a1 a4 σ = 0 ∧ ¬ f_Ba_takes a2 a5 σ = 0 ∧ ¬ f_Ba_takes a3 a6 σ = 0
theorem lin_K (h : IV n q c k f σ τ) (hf : f < 60) (K : RCH n f σ a1 a2 a3 a4 a5 a6 → k_Mo_linear_112 a1 a2 a3 a4 a5 a6 17185 0 (sF (bg τ) 0 45 0)) : k_Mo_linear a1 a2 a3 a4 a5 a6 τ := by
  obtain ⟨e1, e2⟩ := (op_shut h).1 hf
  have k48 : k_Mo_linear_48 17185 (bg τ) := ⟨(fs_1_17185 _).1, trivial⟩
  have k96 : k_Mo_linear_96 17185 (bg τ) := ⟨(fs_2_17185 _).1, trivial⟩
  have k66 : (∃ t, t < n ∧ a1 = nI t) → Aa n a2 → Aa n a3 → (a2 = -1 → a3 = -1) → k_Mo_linear_66 a1 a2 a3 a4 a5 a6 17185 (bg τ) := fun A1 A2 A3 A23 => by
    obtain ⟨-, f1, g1⟩ := fm_ok h a4 (Or.inr A1)
    obtain ⟨-, f2, g2⟩ := fm_ok h a5 A2
    obtain ⟨-, f3, g3⟩ := fm_ok h a6 A3
    exact ⟨f1, fun _ => k96, fun z1 => ⟨f2, fun _ => k96, fun z2 => ⟨f3, fun _ => k96, fun z3 => K ⟨hf, A1, A2, A3, A23, fun w => z1 (g1.mp w), fun w => z2 (g2.mp w), fun w => z3 (g3.mp w)⟩⟩⟩⟩
  have k56 : (∃ t, t < n ∧ a1 = nI t) → Aa n a2 → Aa n a3 → k_Mo_linear_56 a1 a2 a3 a4 a5 a6 17185 (bg τ) := fun A1 A2 A3 => ⟨fun _ => ⟨fun z => k66 A1 A2 A3 (fun _ => z), fun _ => k96⟩, fun z => k66 A1 A2 A3 (fun w => absurd w z)⟩
  have k35 : (∃ t, t < n ∧ a1 = nI t) → Aa n a2 → k_Mo_linear_35 a1 a2 a3 a4 a5 a6 17185 (bg τ) := fun A1 A2 => ⟨fun z => k56 A1 A2 (Or.inl z), fun _ => ⟨kk_isTerm _ _, fun _ => k48, fun z => k56 A1 A2 (Or.inr ((ton h a3).2.2.2 z))⟩⟩
  refine ⟨k_begin τ, ?_⟩
  rw [e2]
  exact ⟨fun _ => ⟨kk_isTerm _ _, fun _ => k48, fun z => ⟨fun w => k35 ((ton h a1).2.2.2 z) (Or.inl w), fun _ => ⟨kk_isTerm _ _, fun _ => k48, fun w => k35 ((ton h a1).2.2.2 z) (Or.inr ((ton h a2).2.2.2 w))⟩⟩⟩, fun _ => trivial⟩
theorem lin_M (h : IV n q c k f σ τ) (hf : f < 60) : (¬ (∃ t, t < n ∧ a1 = nI t) → f_Mo_linear a1 a2 a3 a4 a5 a6 τ = (0, fl 1 (bg τ))) ∧ ((∃ t, t < n ∧ a1 = nI t) → (¬ Aa n a2 → f_Mo_linear a1 a2 a3 a4 a5 a6 τ = (0, fl 1 (bg τ))) ∧ (Aa n a2 → (¬ Aa n a3 → f_Mo_linear a1 a2 a3 a4 a5 a6 τ = (0, fl 1 (bg τ))) ∧ (Aa n a3 → (¬ (a2 = -1 → a3 = -1) → f_Mo_linear a1 a2 a3 a4 a5 a6 τ = (0, fl 2 (bg τ))) ∧ ((a2 = -1 → a3 = -1) → f_Mo_linear a1 a2 a3 a4 a5 a6 τ = f_Mo_linear_66 a1 a2 a3 a4 a5 a6 17185 (bg τ))))) := by
  obtain ⟨e1, e2⟩ := (op_shut h).1 hf
  have eM : f_Mo_linear a1 a2 a3 a4 a5 a6 τ = if f_Mo_isTerm a1 (bg τ) = 0 then f_Mo_linear_48 17185 (bg τ) else (if a2 = -1 then f_Mo_linear_35 a1 a2 a3 a4 a5 a6 17185 (bg τ) else (if f_Mo_isTerm a2 (bg τ) = 0 then f_Mo_linear_48 17185 (bg τ) else f_Mo_linear_35 a1 a2 a3 a4 a5 a6 17185 (bg τ))) := by
    show f_Mo_linear_4 a1 a2 a3 a4 a5 a6 (f_Mo_begin τ).1 (f_Mo_begin τ).2 = _
    rw [e2]
    show (if (0 : Int32) = 0 then _ else _) = _
    rw [if_pos rfl]
  have e48 : f_Mo_linear_48 17185 (bg τ) = (0, fl 1 (bg τ)) := by
    show ((f_Mo_fails 1 17185 (bg τ)).1, (f_Mo_fails 1 17185 (bg τ)).2) = _
    rw [(fs_1_17185 _).2]
  have e96 : f_Mo_linear_96 17185 (bg τ) = (0, fl 2 (bg τ)) := by
    show ((f_Mo_fails 2 17185 (bg τ)).1, (f_Mo_fails 2 17185 (bg τ)).2) = _
    rw [(fs_2_17185 _).2]
  have hn := h.1
  refine ⟨fun A1 => ?_, fun ⟨t, ht, e⟩ => ?_⟩
  · rcases arg_cases a1 n with ha | ha
    · rw [eM, if_pos ((op_has h a1).1 ha).2, e48]
    · exact absurd ha A1
  · have g1 : ¬ f_Mo_isTerm a1 (bg τ) = 0 := by rw [e]; exact ((op_has h (nI t)).2 (nI_arg ht hn)).2
    rw [eM, if_neg g1]
    refine ⟨fun A2 => ?_, fun A2 => ?_⟩
    · obtain ⟨-, n2, t2⟩ := (ton h a2).2.1 A2
      rw [if_neg n2, if_pos t2, e48]
    · have p2 : (if a2 = -1 then f_Mo_linear_35 a1 a2 a3 a4 a5 a6 17185 (bg τ) else (if f_Mo_isTerm a2 (bg τ) = 0 then f_Mo_linear_48 17185 (bg τ) else f_Mo_linear_35 a1 a2 a3 a4 a5 a6 17185 (bg τ))) = f_Mo_linear_35 a1 a2 a3 a4 a5 a6 17185 (bg τ) := by
        rcases A2 with z | ⟨u, hu, z⟩
        · rw [if_pos z]
        · rw [if_neg (by rw [z]; exact nI_ne_m1 (by omega)), if_neg (by rw [z]; exact ((op_has h (nI u)).2 (nI_arg hu hn)).2)]
      rw [p2, f_Mo_linear_35]
      refine ⟨fun A3 => ?_, fun A3 => ?_⟩
      · obtain ⟨-, n3, t3⟩ := (ton h a3).2.1 A3
        rw [if_neg n3, if_pos t3, e48]
      · have p3 : (if a3 = -1 then f_Mo_linear_56 a1 a2 a3 a4 a5 a6 17185 (bg τ) else (if f_Mo_isTerm a3 (bg τ) = 0 then f_Mo_linear_48 17185 (bg τ) else f_Mo_linear_56 a1 a2 a3 a4 a5 a6 17185 (bg τ))) = f_Mo_linear_56 a1 a2 a3 a4 a5 a6 17185 (bg τ) := by
          rcases A3 with z | ⟨u, hu, z⟩
          · rw [if_pos z]
          · rw [if_neg (by rw [z]; exact nI_ne_m1 (by omega)), if_neg (by rw [z]; exact ((op_has h (nI u)).2 (nI_arg hu hn)).2)]
        rw [p3, f_Mo_linear_56]
        by_cases z2 : a2 = -1
        · rw [if_pos z2]
          by_cases z3 : a3 = -1
          · rw [if_pos z3]; exact ⟨fun w => absurd (fun _ => z3) w, fun _ => rfl⟩
          · rw [if_neg z3]; exact ⟨fun _ => e96, fun w => absurd (w z2) z3⟩
        · rw [if_neg z2]; exact ⟨fun w => absurd (fun y => absurd y z2) w, fun _ => rfl⟩
theorem op_linN (h : IV n q c k f σ τ) (hR : ¬ RCH n f σ a1 a2 a3 a4 a5 a6) : k_CL_linear a1 a2 a3 a4 a5 a6 σ ∧ k_Mo_linear a1 a2 a3 a4 a5 a6 τ ∧ RES n τ (f_CL_linear a1 a2 a3 a4 a5 a6 σ) (f_Mo_linear a1 a2 a3 a4 a5 a6 τ) cd_linear al4 := by
  have hn := h.1
  by_cases hf : f < 60
  · obtain ⟨e1, e2⟩ := (op_shut h).1 hf
    have k36 : k_CL_linear_36 σ := ⟨kthr1 σ, fun _ _ => trivial⟩
    have k90 : k_CL_linear_90 σ := ⟨kthr2 σ, fun _ _ => trivial⟩
    have R1 : RES n τ (.inr 1, un σ) (0, fl 1 (bg τ)) cd_linear al4 := h.refuse0 hf rfl (by decide) (Or.inl rfl)
    have R2 : RES n τ (.inr 2, un σ) (0, fl 2 (bg τ)) cd_linear al4 := h.refuse0 hf rfl (by decide) (Or.inr (Or.inl rfl))
    have hasA : ∀ a, ¬ f_Te_has a σ = 0 → ∃ t, t < n ∧ a = nI t := fun a w => by
      rcases arg_cases a n with ha | ha
      · exact absurd ((op_has h a).1 ha).1 w
      · exact ha
    have tnA : ∀ a, ¬ f_CL_isTermOrNone a σ = 0 → Aa n a := fun a w => Classical.not_not.mp (fun y => w ((ton h a).2.1 y).1)
    have k51 : (∃ t, t < n ∧ a1 = nI t) → Aa n a2 → Aa n a3 → (a2 = -1 → a3 = -1) → k_CL_linear_51 a1 a2 a3 a4 a5 a6 σ := fun A1 A2 A3 A23 => by
      obtain ⟨f1, -⟩ := fm_ok h a4 (Or.inr A1)
      obtain ⟨f2, -⟩ := fm_ok h a5 A2
      obtain ⟨f3, -⟩ := fm_ok h a6 A3
      exact ⟨f1, fun _ => k90, fun z1 => ⟨f2, fun _ => k90, fun z2 => ⟨f3, fun _ => k90, fun z3 => absurd ⟨hf, A1, A2, A3, A23, z1, z2, z3⟩ hR⟩⟩⟩
    refine ⟨⟨k_shut σ, fun _ => ⟨k_has a1 σ, fun _ => k36, fun z1 => ⟨(ton h a2).2.2.1, fun _ => k36, fun z2 => ⟨(ton h a3).2.2.1, fun _ => k36, fun z3 => ⟨fun _ => ⟨fun w => k51 (hasA a1 z1) (tnA a2 z2) (tnA a3 z3) (fun _ => w), fun _ => k90⟩, fun w => k51 (hasA a1 z1) (tnA a2 z2) (tnA a3 z3) (fun y => absurd y w)⟩⟩⟩⟩, fun _ => trivial⟩, lin_K h hf (fun w => absurd w hR), ?_⟩
    have eC : f_CL_linear a1 a2 a3 a4 a5 a6 σ = if f_Te_has a1 σ = 0 then (.inr 1, un σ) else (if f_CL_isTermOrNone a2 σ = 0 then (.inr 1, un σ) else (if f_CL_isTermOrNone a3 σ = 0 then (.inr 1, un σ) else (if a2 = -1 then (if a3 = -1 then f_CL_linear_51 a1 a2 a3 a4 a5 a6 σ else (.inr 2, un σ)) else f_CL_linear_51 a1 a2 a3 a4 a5 a6 σ))) := by
      show (if f_CL_isShut σ = 0 then (if f_Te_has a1 σ = 0 then (.inr 1, un σ) else (if f_CL_isTermOrNone a2 σ = 0 then (.inr 1, un σ) else (if f_CL_isTermOrNone a3 σ = 0 then (.inr 1, un σ) else (if a2 = -1 then (if a3 = -1 then f_CL_linear_51 a1 a2 a3 a4 a5 a6 σ else (.inr 2, un σ)) else f_CL_linear_51 a1 a2 a3 a4 a5 a6 σ)))) else _) = _
      rw [if_pos e1]
    obtain ⟨m1, m2⟩ := lin_M (a1 := a1) (a2 := a2) (a3 := a3) (a4 := a4) (a5 := a5) (a6 := a6) h hf
    rw [eC]
    by_cases A1 : ∃ t, t < n ∧ a1 = nI t
    · have c1 : ¬ f_Te_has a1 σ = 0 := by
        obtain ⟨t, ht, e⟩ := A1
        rw [e]; exact ((op_has h (nI t)).2 (nI_arg ht hn)).1
      rw [if_neg c1]
      obtain ⟨m3, m4⟩ := m2 A1
      by_cases A2 : Aa n a2
      · rw [if_neg ((ton h a2).1 A2)]
        obtain ⟨m5, m6⟩ := m4 A2
        by_cases A3 : Aa n a3
        · rw [if_neg ((ton h a3).1 A3)]
          obtain ⟨m7, m8⟩ := m6 A3
          by_cases A23 : a2 = -1 → a3 = -1
          · have p : (if a2 = -1 then (if a3 = -1 then f_CL_linear_51 a1 a2 a3 a4 a5 a6 σ else (.inr 2, un σ)) else f_CL_linear_51 a1 a2 a3 a4 a5 a6 σ) = f_CL_linear_51 a1 a2 a3 a4 a5 a6 σ := by
              by_cases z : a2 = -1
              · rw [if_pos z, if_pos (A23 z)]
              · rw [if_neg z]
            rw [p, m8 A23, f_CL_linear_51, f_Mo_linear_66]
            obtain ⟨-, -, g1⟩ := fm_ok h a4 (Or.inr A1)
            obtain ⟨-, -, g2⟩ := fm_ok h a5 A2
            obtain ⟨-, -, g3⟩ := fm_ok h a6 A3
            have R2' : RES n τ (f_CL_linear_90 σ) (f_Mo_linear_96 17185 (bg τ)) cd_linear al4 := by
              show RES n τ (.inr 2, un σ) ((f_Mo_fails 2 17185 (bg τ)).1, (f_Mo_fails 2 17185 (bg τ)).2) cd_linear al4
              rw [(fs_2_17185 _).2]; exact R2
            by_cases z1 : f_Ba_takes a1 a4 σ = 0
            · rw [if_pos z1, if_pos (g1.mp z1)]; exact R2'
            · rw [if_neg z1, if_neg (fun w => z1 (g1.mpr w))]
              by_cases z2 : f_Ba_takes a2 a5 σ = 0
              · rw [if_pos z2, if_pos (g2.mp z2)]; exact R2'
              · rw [if_neg z2, if_neg (fun w => z2 (g2.mpr w))]
                by_cases z3 : f_Ba_takes a3 a6 σ = 0
                · rw [if_pos z3, if_pos (g3.mp z3)]; exact R2'
                · exact absurd ⟨hf, A1, A2, A3, A23, z1, z2, z3⟩ hR
          · have z : a2 = -1 := Classical.not_not.mp (fun w => A23 (fun y => absurd y w))
            have z3 : ¬ a3 = -1 := fun w => A23 (fun _ => w)
            rw [if_pos z, if_neg z3, m7 A23]; exact R2
        · rw [if_pos ((ton h a3).2.1 A3).1, m5 A3]; exact R1
      · rw [if_pos ((ton h a2).2.1 A2).1, m3 A2]; exact R1
    · have c1 : f_Te_has a1 σ = 0 := Classical.not_not.mp (fun w => A1 (hasA a1 w))
      rw [if_pos c1, m1 A1]; exact R1
  · obtain ⟨e1, e2⟩ := (op_shut h).2 hf
    have eC : f_CL_linear a1 a2 a3 a4 a5 a6 σ = (.inl (-1), σ) := by
      show (if f_CL_isShut σ = 0 then _ else _) = _
      rw [if_neg e1]
    have eM : f_Mo_linear a1 a2 a3 a4 a5 a6 τ = (-1, bg τ) := by
      show f_Mo_linear_4 a1 a2 a3 a4 a5 a6 (f_Mo_begin τ).1 (f_Mo_begin τ).2 = _
      rw [e2]
      show (if (1 : Int32) = 0 then _ else _) = _
      rw [if_neg (by decide)]
    refine ⟨⟨k_shut σ, fun z => absurd z e1, fun _ => trivial⟩, ⟨k_begin τ, ?_⟩, ?_⟩
    · rw [e2]; exact ⟨fun z => absurd z (show ¬ (1 : Int32) = 0 by decide), fun _ => trivial⟩
    · rw [eC, eM]; exact res_shut h
end LIN
