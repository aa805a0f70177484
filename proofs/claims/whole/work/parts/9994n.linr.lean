-- linear where it reaches the balance
theorem jL_n {a : Int32} {Y : St} (h : a < 0) : jL a Y = Y := if_pos h
theorem jL_p {a : Int32} {Y : St} (h : ¬ a < 0) : jL a Y = f_Mo_join a Y := if_neg h
theorem e391 (Y : St) : f_Mo_linear_391 17185 Y = f_Mo_enter (Y.1 0 25) 17185 Y := by
  show ((f_Mo_enter (Y.1 0 25) 17185 Y).1, (f_Mo_enter (Y.1 0 25) 17185 Y).2) = _
  exact Prod.eta _
section LIR
variable {n q c k f : Nat} {σ τ : St} {a1 a2 a3 a4 a5 a6 : Int32}
theorem op_linR (h : IV n q c k f σ τ) (hR : RCH n f σ a1 a2 a3 a4 a5 a6) : ∃ (c1 c2 c3 : Int32 → Option Fr) (v : XR),
    LD σ (GG n τ) (Sp τ) (fun e => e.1 99 0 = nI 101) a1 a4 (PT c0F) (PT c1) ∧ LD σ (GG n τ) (Sp τ) (fun e => e.1 99 0 = nI 101) a2 a5 (PT c1) (PT c2) ∧ LD σ (GG n τ) (Sp τ) (fun e => e.1 99 0 = nI 101) a3 a6 (PT c2) (PT c3) ∧
    k_Mo_linear a1 a2 a3 a4 a5 a6 τ ∧ RES n τ v (f_Mo_linear a1 a2 a3 a4 a5 a6 τ) cd_linear al4 ∧
    (∀ tt, PT c3 tt → k_Su_isTooGreats tt ∧ (tt.1 0 4 = 0 → k_Su_signOfConstants tt ∧ k_Su_hasAtoms tt) ∧ fin3 tt a1 a2 a3 (s3L a1 a2 a3 a4 a5 a6 σ) = v) ∧
    (k_Ro_join a1 (f_Ro_wipe (s3L a1 a2 a3 a4 a5 a6 σ)) ∧ k_Ro_join a2 (f_Ro_join a1 (f_Ro_wipe (s3L a1 a2 a3 a4 a5 a6 σ))) ∧ k_Ro_join a3 (f_Ro_join a2 (f_Ro_join a1 (f_Ro_wipe (s3L a1 a2 a3 a4 a5 a6 σ)))) ∧ k_CL_enterRow (f_Sc_innermost (jn3 a1 a2 a3 (s3L a1 a2 a3 a4 a5 a6 σ))) 0 (jn3 a1 a2 a3 (s3L a1 a2 a3 a4 a5 a6 σ))) ∧
    (∀ X j, dmL σ a3 (dmL σ a2 (dmL σ a1 X)) j = true → X j = true ∨ ∃ d, GG n τ d j) := by
  obtain ⟨hf, A1, A2, A3, A23, T1, T2, T3⟩ := hR
  have hR : RCH n f σ a1 a2 a3 a4 a5 a6 := ⟨hf, A1, A2, A3, A23, T1, T2, T3⟩
  have hn := h.1
  have hW : ∀ t, t < n → tmW τ t := fun t ht => (h.2.1.2.2 t ht).2
  have hK := h.2.2.2.1.1
  obtain ⟨c1, w1, l1, b1, o1, t1, d1⟩ := arg3 h c0F (Or.inr A1) T1
  obtain ⟨c2, w2, l2, b2, o2, t2, d2⟩ := arg3 h c1 A2 T2
  obtain ⟨c3, w3, l3, b3, o3, t3, d3⟩ := arg3 h c2 A3 T3
  have hno := o3 (o2 (o1 (fun x _ _ => rfl)))
  let X0 : St := sF (bg τ) 0 45 0
  have x5 : ∀ c0, ¬ c0 = 0 → X0.1 c0 = τ.1 c0 := fun c0 z => by
    show pu (pu (pu (pu τ.1 0 _) 0 _) 0 _) 0 _ c0 = _
    rw [pu_at, if_neg z, pu_at, if_neg z, pu_at, if_neg z, pu_at, if_neg z]
  obtain ⟨Z, s, hz, hA, h1, eL, kL⟩ := at120 (x7 := 17185) hn hW hK w1 w2 w3 b1 b2 b3 n 1000 0 X0 (Nat.le_refl n) (by omega) h.2.1.2.1 (fun c0 z _ => x5 c0 z) (Or.inr ⟨rfl, fun x ⟨j, j1, j2, _⟩ => by omega, fun _ x _ ⟨j, j1, j2, _⟩ => by omega, fun z => absurd rfl z⟩)
  obtain ⟨zr, z00⟩ := bgz hz
  have h3 : IV n q c k f (s3L a1 a2 a3 a4 a5 a6 σ) τ := s3_IV h
  have hst := s3_st h a4 a5 a6 (Or.inr A1) A2 A3
  have P0 : PK n n 0 q c k f τ (f_Ro_wipe (s3L a1 a2 a3 a4 a5 a6 σ)) Z := PKz h3 hz
  obtain ⟨b1', b2', -, -⟩ := h3.begin
  have Tz := TTz hz b1'
  have Rz := RSz hz b2'
  have rz : rwM n τ Z := fun c0 q1 q2 j _ => by rw [zr c0 q1 q2]
  have dz : ∀ t, t < n → Z.1 7 t ≤ 12 := fun t ht => by rw [zr 7 (by omega) (by omega)]; exact h.2.2.2.2.2.2.1 t ht
  generalize hs3 : s3L a1 a2 a3 a4 a5 a6 σ = σ3 at *
  -- the joins
  have tz : ∀ {a : Int32} {Y : St}, (∀ c0, 5 ≤ c0 → c0 ≤ 13 → Y.1 c0 = τ.1 c0) → (a = -1 ∨ ∃ t, a = nI t ∧ tru τ n t) → (a = -1 ∨ ∃ t, a = nI t ∧ tru Y n t) := fun hY hA => by
    rcases hA with z | ⟨t, z, z2, z3⟩
    · exact Or.inl z
    · exact Or.inr ⟨t, z, z2, by rw [hY 6 (by omega) (by omega)]; exact z3⟩
  obtain ⟨j1, m1, r1, r1', P1, y1⟩ := jn_ok P0 (by omega) (by omega) (tz zr t1)
  have y1' : ∀ c0, 5 ≤ c0 → c0 ≤ 13 → (jL a1 Z).1 c0 = τ.1 c0 := fun c0 q1 q2 => (y1 c0 q1 q2).trans (zr c0 q1 q2)
  obtain ⟨j2, m2, r2, r2', P2, y2⟩ := jn_ok P1 (by omega) (by omega) (tz y1' t2)
  have y2' : ∀ c0, 5 ≤ c0 → c0 ≤ 13 → (jL a2 (jL a1 Z)).1 c0 = τ.1 c0 := fun c0 q1 q2 => (y2 c0 q1 q2).trans (y1' c0 q1 q2)
  obtain ⟨j3, m3, r3, r3', P3, y3⟩ := jn_ok P2 (by omega) (by omega) (tz y2' t3)
  obtain ⟨kE, kM, RE⟩ := P3.enter (cd := cd_linear) (al := al4) (nm := 17185) (c3 := 3) (c4 := 4) (by omega) hf (fun z => absurd z (Nat.lt_irrefl n)) (fs_4_17185 _) ⟨rfl, by decide, Or.inr (Or.inr (Or.inr rfl))⟩
  have np1 : ¬ a1 < 0 := by
    obtain ⟨t, ht, e⟩ := A1
    rw [e]; exact nI_pos (by omega)
  -- the reference's row
  have e368 : f_Mo_linear_368 a1 a2 a3 17185 Z = f_Mo_linear_391 17185 (jL a3 (jL a2 (jL a1 Z))) := by
    have e0 : jL a1 Z = f_Mo_join a1 Z := by exact jL_p np1
    show f_Mo_linear_373 a2 a3 17185 (f_Mo_join a1 Z) = _
    rw [← e0, f_Mo_linear_373]
    by_cases z2 : a2 < 0
    · have e2 : jL a2 (jL a1 Z) = jL a1 Z := by rw [jL_n z2]
      rw [if_pos z2, e2, f_Mo_linear_382]
      by_cases z3 : a3 < 0
      · rw [if_pos z3, jL_n z3]
      · rw [if_neg z3, jL_p z3]
    · have e2 : jL a2 (jL a1 Z) = f_Mo_join a2 (jL a1 Z) := by rw [jL_p z2]
      rw [if_neg z2, ← e2, f_Mo_linear_382]
      by_cases z3 : a3 < 0
      · rw [if_pos z3, jL_n z3]
      · rw [if_neg z3, jL_p z3]
  have k391 : k_Mo_linear_391 17185 (jL a3 (jL a2 (jL a1 Z))) := ⟨kM, trivial⟩
  have k382 : ∀ Y, Y = jL a2 (jL a1 Z) → k_Mo_linear_382 a3 17185 Y := fun Y hY => by
    rw [hY]
    refine ⟨fun z => ?_, fun z => ⟨m3 z, ?_⟩⟩
    · have : jL a3 (jL a2 (jL a1 Z)) = jL a2 (jL a1 Z) := by rw [jL_n z]
      rw [this] at k391; exact k391
    · have : jL a3 (jL a2 (jL a1 Z)) = f_Mo_join a3 (jL a2 (jL a1 Z)) := by rw [jL_p z]
      rw [this] at k391; exact k391
  have k368 : k_Mo_linear_368 a1 a2 a3 17185 Z := by
    have e0 : jL a1 Z = f_Mo_join a1 Z := by exact jL_p np1
    refine ⟨m1 np1, ?_⟩
    rw [← e0]
    refine ⟨fun z => k382 _ ?_, fun z => ⟨m2 z, k382 _ ?_⟩⟩
    · rw [jL_n z]
    · exact (show jL a2 (jL a1 Z) = f_Mo_join a2 (jL a1 Z) by rw [jL_p z]).symm
  have k360 : k_Mo_linear_360 17185 Z := ⟨(fs_2_17185 _).1, trivial⟩
  have e360 : f_Mo_linear_360 17185 Z = (0, fl 2 Z) := by
    show ((f_Mo_fails 2 17185 Z).1, (f_Mo_fails 2 17185 Z).2) = _
    rw [(fs_2_17185 _).2]
  have R2 : RES n τ (.inr 2, un σ3) (0, fl 2 Z) cd_linear al4 := res_ref Tz Rz dz hf rz rfl (by decide) (Or.inr (Or.inl rfl))
  have R3 : RES n τ (.inr 3, un σ3) (0, fl 3 Z) cd_linear al4 := res_ref Tz Rz dz hf rz rfl (by decide) (Or.inr (Or.inr (Or.inl rfl)))
  -- the reference's whole call
  have e9 : X0.1 0 9 = nI n := h.2.1.2.1
  obtain ⟨-, g1⟩ := lin_M (a1 := a1) (a2 := a2) (a3 := a3) (a4 := a4) (a5 := a5) (a6 := a6) h hf
  have eM : f_Mo_linear a1 a2 a3 a4 a5 a6 τ = f_Mo_linear_120 1 a1 a2 a3 a4 a5 a6 17185 s (-2) Z := by
    rw [(((g1 A1).2 A2).2 A3).2 A23, f_Mo_linear_66]
    obtain ⟨-, -, u1⟩ := fm_ok h a4 (Or.inr A1)
    obtain ⟨-, -, u2⟩ := fm_ok h a5 A2
    obtain ⟨-, -, u3⟩ := fm_ok h a6 A3
    rw [if_neg (fun w => T1 (u1.mpr w)), if_neg (fun w => T2 (u2.mpr w)), if_neg (fun w => T3 (u3.mpr w))]
    show f_Mo_linear_112 a1 a2 a3 a4 a5 a6 17185 0 X0 = _
    rw [f_Mo_linear_112, e9]; exact eL
  have KM : k_Mo_linear_120 1 a1 a2 a3 a4 a5 a6 17185 s (-2) Z → k_Mo_linear a1 a2 a3 a4 a5 a6 τ := fun w => lin_K h hf (fun _ => by
    show k_Mo_linear_112 a1 a2 a3 a4 a5 a6 17185 0 X0
    rw [k_Mo_linear_112, e9]; exact kL w)
  have hkE : k_Ro_join a1 (f_Ro_wipe σ3) ∧ k_Ro_join a2 (f_Ro_join a1 (f_Ro_wipe σ3)) ∧ k_Ro_join a3 (f_Ro_join a2 (f_Ro_join a1 (f_Ro_wipe σ3))) ∧ k_CL_enterRow (f_Sc_innermost (jn3 a1 a2 a3 σ3)) 0 (jn3 a1 a2 a3 σ3) := ⟨j1, j2, j3, kE⟩
  have hdm : ∀ X j, dmL σ a3 (dmL σ a2 (dmL σ a1 X)) j = true → X j = true ∨ ∃ d, GG n τ d j := fun X j hj => by
    rcases d3 _ j hj with w | w
    · rcases d2 _ j w with w | w
      · exact d1 X j w
      · exact Or.inr w
    · exact Or.inr w
  by_cases g0 : Z.1 0 45 = 0
  · obtain ⟨t, ht, e1⟩ := A1
    obtain ⟨S, s1, s2, s4⟩ := tl330 (s := s) (a4 := a4) (a5 := a5) (a6 := a6) h ht e1 A2 A3 (zr 5 (by omega) (by omega)) g0
    have hS : σ3.1 24 5 = 0 ↔ S = 0 := hst.trans s1.symm
    have k330 : k_Mo_linear_330 a1 a2 a3 17185 s S Z := ⟨fun _ => ⟨fun _ => k360, fun _ => ⟨fun _ => ⟨fun _ => k360, fun _ => k368⟩, fun _ => k368⟩⟩, fun _ => k360⟩
    have z0 : (0 : Int64).toInt = 0 := by decide
    have cg : (0 < lg_cmp (Z.2 0 49) 0) ↔ 0 < (Z.2 0 49).toInt := by rw [lg_cmp_gt, Int64.lt_iff_toInt_lt, z0]
    have cz := l_z0 (Z.2 0 49)
    have d10 : ¬ (1 : Int32) = 0 := by decide
    let Gr : Prop := s = 0 ∧ ((Z.2 0 49).toInt < 0 ∨ ((Z.2 0 49).toInt = 0 ∧ ¬ S = 0))
    have e330 : (Gr → f_Mo_linear_330 a1 a2 a3 17185 s S Z = f_Mo_linear_368 a1 a2 a3 17185 Z) ∧ (¬ Gr → f_Mo_linear_330 a1 a2 a3 17185 s S Z = f_Mo_linear_360 17185 Z) := by
      rw [f_Mo_linear_330]
      by_cases q0 : s = 0
      · rw [if_pos q0]
        by_cases q1 : 0 < lg_cmp (Z.2 0 49) 0
        · have := cg.mp q1
          rw [if_pos q1]
          exact ⟨fun w => by have := w.2; omega, fun _ => rfl⟩
        · have nq : ¬ 0 < (Z.2 0 49).toInt := fun w => q1 (cg.mpr w)
          rw [if_neg q1]
          by_cases q2 : lg_cmp (Z.2 0 49) 0 = 0
          · have zq := cz.mp q2
            rw [if_pos q2]
            by_cases q3 : S = 0
            · rw [if_pos q3]
              refine ⟨fun w => ?_, fun _ => rfl⟩
              rcases w.2 with w | w
              · omega
              · exact absurd q3 w.2
            · rw [if_neg q3]
              exact ⟨fun _ => rfl, fun w => absurd ⟨q0, Or.inr ⟨zq, q3⟩⟩ w⟩
          · have zq : ¬ (Z.2 0 49).toInt = 0 := fun w => q2 (cz.mpr w)
            rw [if_neg q2]
            exact ⟨fun _ => rfl, fun w => absurd ⟨q0, Or.inl (by omega)⟩ w⟩
      · rw [if_neg q0]
        exact ⟨fun w => absurd w.1 q0, fun _ => rfl⟩
    have eG : ∀ tt, PT c3 tt → tt.1 0 4 = 0 ∧ (f_grants tt (σ3.1 24 5) = 0 ↔ ¬ Gr) := fun tt hP => by
      obtain ⟨-, -, u3, u4⟩ := tie hno hA h1 hP
      obtain ⟨v1, v2, v3⟩ := u4 g0
      refine ⟨u3.mpr g0, ?_⟩
      unfold f_grants
      by_cases q0 : s = 0
      · rw [if_pos (v1.mpr q0)]
        by_cases q1 : f_Su_signOfConstants tt < 0
        · rw [if_pos q1]
          exact ⟨fun w => absurd w d10, fun w => absurd ⟨q0, Or.inl (v2.mp q1)⟩ w⟩
        · have nq : ¬ (Z.2 0 49).toInt < 0 := fun w => q1 (v2.mpr w)
          rw [if_neg q1]
          by_cases q2 : f_Su_signOfConstants tt = 0
          · have zq := v3.mp q2
            rw [if_pos q2]
            by_cases q3 : σ3.1 24 5 = 0
            · rw [if_pos q3]
              refine ⟨fun _ w => ?_, fun _ => rfl⟩
              rcases w.2 with w | w
              · omega
              · exact w.2 (hS.mp q3)
            · rw [if_neg q3]
              exact ⟨fun w => absurd w d10, fun w => absurd ⟨q0, Or.inr ⟨zq, fun y => q3 (hS.mpr y)⟩⟩ w⟩
          · have zq : ¬ (Z.2 0 49).toInt = 0 := fun w => q2 (v3.mpr w)
            rw [if_neg q2]
            refine ⟨fun _ w => ?_, fun _ => rfl⟩
            rcases w.2 with w | w
            · omega
            · exact zq w.1
      · rw [if_neg (fun w => q0 (v1.mp w))]
        exact ⟨fun _ w => q0 w.1, fun _ => rfl⟩
    by_cases hG : Gr
    · refine ⟨c1, c2, c3, xb (f_CL_enterRow (f_Sc_innermost (jn3 a1 a2 a3 σ3)) 0 (jn3 a1 a2 a3 σ3)) (fun x u => (.inl x, u)), l1, l2, l3, KM (s4 k330), ?_, fun tt hP => ?_, hkE, hdm⟩
      · rw [eM, s2, e330.1 hG, e368, e391, xb_id]
        exact RE
      · obtain ⟨u1, u2, -⟩ := tie hno hA h1 hP
        obtain ⟨u5, u6⟩ := eG tt hP
        refine ⟨u1, u2, ?_⟩
        unfold fin3
        rw [if_pos u5, if_neg (fun w => u6.mp w hG)]
    · refine ⟨c1, c2, c3, (.inr 2, un σ3), l1, l2, l3, KM (s4 k330), ?_, fun tt hP => ?_, hkE, hdm⟩
      · rw [eM, s2, e330.2 hG, e360]; exact R2
      · obtain ⟨u1, u2, -⟩ := tie hno hA h1 hP
        obtain ⟨u5, u6⟩ := eG tt hP
        refine ⟨u1, u2, ?_⟩
        unfold fin3
        rw [if_pos u5, if_pos (u6.mpr hG), xb_id, thr2]
  · have e2 : (-2 : Int32) < -1 := by decide
    refine ⟨c1, c2, c3, (.inr 3, un σ3), l1, l2, l3, KM ⟨fun _ => ⟨fun z => absurd z g0, fun _ => ⟨(fs_3_17185 _).1, trivial⟩⟩, fun z => absurd e2 z⟩, ?_, fun tt hP => ?_, hkE, hdm⟩
    · rw [eM, f_Mo_linear_120, if_pos e2, if_neg g0]
      show RES n τ _ ((f_Mo_fails 3 17185 Z).1, (f_Mo_fails 3 17185 Z).2) cd_linear al4
      rw [(fs_3_17185 _).2]; exact R3
    · obtain ⟨u1, u2, u3, -⟩ := tie hno hA h1 hP
      refine ⟨u1, u2, ?_⟩
      unfold fin3
      rw [if_neg (fun w => g0 (u3.mp w)), xb_id, thr3]
end LIR
