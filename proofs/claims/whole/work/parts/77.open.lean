-- variable, open
section VO
variable {n q c k f : Nat} {σ τ : St}
theorem chn_cong {A B : Nat → Int32} {m : Nat} (h : ∀ j, j ≤ m → B j = A j) (hA : ∀ j, 1 ≤ j → j ≤ m → ∃ a, a < j ∧ A j = nI a) (hm : m ≤ 20) : ∀ (fu fu' s : Nat), s ≤ m → s < fu → s < fu' → chn B fu s = chn A fu' s := by
  intro fu
  induction fu with
  | zero => intro fu' s _ h1; omega
  | succ fu ih =>
    intro fu' s hs h1 h2
    obtain ⟨fu', rfl⟩ : ∃ z, fu' = z + 1 := ⟨fu' - 1, by omega⟩
    show (if s = 0 then [] else s :: chn B fu (B s).toNatClampNeg) = (if s = 0 then [] else s :: chn A fu' (A s).toNatClampNeg)
    by_cases s0 : s = 0
    · rw [if_pos s0, if_pos s0]
    · rw [if_neg s0, if_neg s0, h s hs]
      obtain ⟨a, a1, a2⟩ := hA s (by omega) hs
      rw [a2, nI_clamp (by omega), ih fu' a (by omega) (by omega) (by omega)]
theorem op_open (h : IV n q c k f σ τ) : k_CL_open σ ∧ k_Mo_open τ ∧ RES n τ (f_CL_open σ) (f_Mo_open τ) cd_open (fun E => E = 4) := by
  have hn := h.1
  by_cases hf : f < 60
  · obtain ⟨e1, e2⟩ := (op_shut h).1 hf
    obtain ⟨h1, hT, hL, hK, h2, h3, h4, hG, hF, hC, hP, hfl⟩ := id h
    have hC0 := hC
    obtain ⟨hq, hc, c3, c4, c5, c6, c7, c8, hA, hO⟩ := hC
    have i1 : (σ.1 27 3 ≤ 20) ↔ q < 20 := by rw [c3]; exact (nI_le_iff (b := 20) (by omega) (by omega)).trans (by omega)
    have i2 : ((bg τ).1 0 24 = 20) ↔ q = 20 := by
      show τ.1 0 24 = 20 ↔ _
      rw [c4]; exact nI_inj (b := 20) (by omega) (by omega)
    have ful : ∀ X : St, X.1 27 3 = σ.1 27 3 → (f_Sc_isFull X = 0 ↔ q < 20) := fun X hX => by
      show (if X.1 27 3 ≤ 20 then (0 : Int32) else 1) = 0 ↔ _
      rw [hX]
      by_cases z : σ.1 27 3 ≤ 20
      · rw [if_pos z]; exact ⟨fun _ => i1.mp z, fun _ => rfl⟩
      · rw [if_neg z]; exact ⟨fun w => absurd w (by decide), fun w => absurd (i1.mpr w) z⟩
    have kful : ∀ X : St, k_Sc_isFull X := fun X => ⟨fun _ => ⟨rfl, trivial⟩, fun _ => ⟨rfl, trivial⟩⟩
    have eC : f_CL_open σ = if f_Sc_isFull σ = 0 then (.inl (f_Sc_openInner σ).1, (f_Sc_openInner σ).2) else (.inr 4, un σ) := by
      show (if f_CL_isShut σ = 0 then (if f_Sc_isFull σ = 0 then ((.inl (f_Sc_openInner σ).1, (f_Sc_openInner σ).2) : XR) else ((.inr 4, un σ) : XR)) else _) = _
      rw [if_pos e1]
    have eM : f_Mo_open τ = if (bg τ).1 0 24 = 20 then ((f_Mo_fails 4 4 (bg τ)).1, (f_Mo_fails 4 4 (bg τ)).2) else f_Mo_open_35 (sF (bg τ) 0 24 ((bg τ).1 0 24 + 1)) := by
      show f_Mo_open_4 (f_Mo_begin τ).1 (f_Mo_begin τ).2 = _
      rw [e2]
      show (if (0 : Int32) = 0 then _ else _) = _
      rw [if_pos rfl]; rfl
    by_cases hq2 : q < 20
    · have f0 : f_Sc_isFull σ = 0 := (ful σ rfl).mpr hq2
      have m0 : ¬ (bg τ).1 0 24 = 20 := fun z => by have := i2.mp z; omega
      have hclq : (nI (q + 1)).toNatClampNeg = q + 1 := nI_clamp (by omega)
      have hinq : vp_in (nI (q + 1)) 21 := by rw [in_iff, i_nI (by omega)]; omega
      let σ1 : St := sA σ 28 (nI (q + 1)) (nI c)
      have hC1 : SC q c σ1 τ := by
        refine ⟨hq, hc, c3, c4, c5, c6, c7, c8, fun j j1 j2 => ?_, hO⟩
        show upd (σ.1 28) (nI (q + 1)).toNatClampNeg (nI c) j = _ ∧ _
        rw [upd_at, hclq, if_neg (by omega)]
        exact hA j j1 j2
      obtain ⟨d1, -, dc, d2, d3, -⟩ := depth_sim hC1 hc
      have d4 : σ.1 29 c = nI dc := by
        have hcl : (nI c).toNatClampNeg = c := nI_clamp (by omega)
        have z1 : ¬ nI c < 0 := nI_pos (by omega)
        have z2 : ¬ σ1.1 27 3 ≤ nI c := fun z => by
          have z : σ.1 27 3 ≤ nI c := z
          rw [c3, nI_le_iff (by omega) (by omega)] at z; omega
        have hh : ¬ f_Sc_has (nI c) σ1 = 0 := by
          show ¬ (if nI c < 0 then (0 : Int32) else (if σ1.1 27 3 ≤ nI c then 0 else 1)) = 0
          rw [if_neg z1, if_neg z2]; decide
        have w : (if f_Sc_has (nI c) σ1 = 0 then (0 : Int32) else σ.1 29 (nI c).toNatClampNeg) = nI dc := d3
        rw [if_neg hh, hcl] at w; exact w
      let σ4 : St := sF (sF (sA σ1 29 (nI (q + 1)) (nI (dc + 1))) 27 4 (nI (q + 1))) 27 3 (nI (q + 1) + 1)
      have eI : f_Sc_openInner σ = (nI (dc + 1), σ4) := by
        show (if f_Sc_isFull σ = 0 then f_Sc_openInner_22 (sA σ 28 (σ.1 27 3) (σ.1 27 4)) else _) = _
        rw [if_pos f0, c3, c5]
        show f_Sc_openInner_41 (sA σ1 29 (σ.1 27 3) (f_Sc_depthOf (σ.1 27 4) σ1 + 1)) = _
        rw [c3, c5, d3, ← nI_succ]
        show f_Sc_openInner_49 (sF (sA σ1 29 (nI (q + 1)) (nI (dc + 1))) 27 4 (σ.1 27 3)) = _
        rw [c3]
        show (upd (σ.1 29) (nI (q + 1)).toNatClampNeg (nI (dc + 1)) (nI (q + 1)).toNatClampNeg, sF (sF (sA σ1 29 (nI (q + 1)) (nI (dc + 1))) 27 4 (nI (q + 1))) 27 3 (σ.1 27 3 + 1)) = _
        rw [upd_at, if_pos rfl, c3]
      have kI : k_Sc_openInner σ := by
        refine ⟨kful σ, fun _ => ⟨by rw [c3]; exact hinq, ?_⟩, fun z => absurd f0 z⟩
        show k_Sc_openInner_22 (sA σ 28 (σ.1 27 3) (σ.1 27 4))
        rw [c3, c5]
        refine ⟨?_, ?_, ?_, trivial⟩
        · show k_Sc_depthOf (σ.1 27 4) σ1
          rw [c5]; exact d1
        · show vp_in (σ.1 27 3) 21
          rw [c3]; exact hinq
        · show vp_in (σ.1 27 3) 21
          rw [c3]; exact hinq
      let τ3 : St := sF (sA (sF (bg τ) 0 24 (nI q + 1)) 18 (nI (q + 1)) (nI c)) 0 25 (nI (q + 1))
      have hA' : ∀ j, 1 ≤ j → j ≤ q → ∃ a, a < j ∧ τ.1 18 j = nI a := fun j j1 j2 => by
        obtain ⟨-, -, -, a, d, a1, a2, -⟩ := hA j j1 j2
        exact ⟨a, a1, a2⟩
      have u18 : ∀ j, τ3.1 18 j = if j = q + 1 then nI c else τ.1 18 j := fun j => by
        show upd (τ.1 18) (nI (q + 1)).toNatClampNeg (nI c) j = _
        rw [upd_at, hclq]
      have u28 : ∀ j, σ4.1 28 j = if j = q + 1 then nI c else σ.1 28 j := fun j => by
        show upd (σ.1 28) (nI (q + 1)).toNatClampNeg (nI c) j = _
        rw [upd_at, hclq]
      have u29 : ∀ j, σ4.1 29 j = if j = q + 1 then nI (dc + 1) else σ.1 29 j := fun j => by
        show upd (σ.1 29) (nI (q + 1)).toNatClampNeg (nI (dc + 1)) j = _
        rw [upd_at, hclq]
      have dcc : dc ≤ c := by
        obtain ⟨ds, s1, s2⟩ := hC0.deep hc
        rw [d4] at s1
        have := (nI_inj (by omega) (by omega)).mp s1
        omega
      have chE : chn (τ3.1 18) 21 (q + 1) = (q + 1) :: chn (τ.1 18) 21 c := by
        show (if q + 1 = 0 then [] else (q + 1) :: chn (τ3.1 18) 20 (τ3.1 18 (q + 1)).toNatClampNeg) = _
        rw [if_neg (by omega), u18, if_pos rfl, nI_clamp (by omega), chn_cong (A := τ.1 18) (B := τ3.1 18) (m := q) (fun j hj => by rw [u18, if_neg (by omega)]) hA' hq 20 21 c hc (by omega) (by omega)]
      have hC4 : SC (q + 1) (q + 1) σ4 τ3 := by
        refine ⟨by omega, Nat.le_refl _, by rw [nI_succ (q + 1)]; rfl, by rw [nI_succ]; rfl, rfl, rfl, by rw [u29, if_neg (by omega)]; exact c7, ⟨c8.1, fun j hj => c8.2 j (by omega)⟩, fun j j1 j2 => ?_, fun j j1 j2 => ?_⟩
        · rw [u28, u18, u29]
          by_cases e : j = q + 1
          · rw [if_pos e, if_pos e, if_pos e, e]
            obtain ⟨z1, z2⟩ := c8.2 (q + 1) (by omega)
            refine ⟨rfl, z1.trans z2.symm, Or.inl z2, c, dc, by omega, rfl, dcc, ?_, rfl⟩
            rw [u29, if_neg (by omega)]; exact d4
          · rw [if_neg e, if_neg e, if_neg e]
            obtain ⟨y1, y2, y3, a, d, y4, y5, y6, y7, y8⟩ := hA j j1 (by omega)
            exact ⟨y1, y2, y3, a, d, y4, y5, y6, by rw [u29, if_neg (by omega)]; exact y7, y8⟩
        · rw [chE]
          by_cases e : j = q + 1
          · rw [e]
            exact ⟨fun _ => List.mem_cons_self, fun _ => (c8.2 (q + 1) (by omega)).2⟩
          · refine ⟨fun w => List.mem_cons_of_mem _ ((hO j j1 (by omega)).mp w), fun w => (hO j j1 (by omega)).mpr ?_⟩
            rcases List.mem_cons.mp w with w | w
            · exact absurd w e
            · exact w
      obtain ⟨-, g2, g3, g4, g5, g6⟩ := depth_sim hC4 (Nat.le_refl (q + 1))
      have g7 : g3 = dc + 1 := by
        have z1 : ¬ nI (q + 1) < 0 := nI_pos (by omega)
        have z2 : ¬ σ4.1 27 3 ≤ nI (q + 1) := fun z => by
          rw [hC4.2.2.1, nI_le_iff (by omega) (by omega)] at z; omega
        have hh : ¬ f_Sc_has (nI (q + 1)) σ4 = 0 := by
          show ¬ (if nI (q + 1) < 0 then (0 : Int32) else (if σ4.1 27 3 ≤ nI (q + 1) then 0 else 1)) = 0
          rw [if_neg z1, if_neg z2]; decide
        have w : (if f_Sc_has (nI (q + 1)) σ4 = 0 then (0 : Int32) else σ4.1 29 (nI (q + 1)).toNatClampNeg) = nI g3 := g5
        rw [if_neg hh, hclq, u29, if_pos rfl] at w
        exact ((nI_inj (by omega) (by omega)).mp w).symm
      have eW : f_Mo_open τ = (nI (dc + 1), τ3) := by
        rw [eM, if_neg m0]
        show (f_Mo_deepOf ((bg τ).1 0 24 + 1) (sF (sA (sF (bg τ) 0 24 ((bg τ).1 0 24 + 1)) 18 ((bg τ).1 0 24 + 1) (τ.1 0 25)) 0 25 ((bg τ).1 0 24 + 1)), sF (sA (sF (bg τ) 0 24 ((bg τ).1 0 24 + 1)) 18 ((bg τ).1 0 24 + 1) (τ.1 0 25)) 0 25 ((bg τ).1 0 24 + 1)) = _
        rw [show (bg τ).1 0 24 = nI q from c4, c6, ← nI_succ]
        have g6 : f_Mo_deepOf (nI (q + 1)) τ3 = nI (dc + 1) := by rw [g6, g7]
        have t3 : τ3 = sF (sA (sF (bg τ) 0 24 (nI (q + 1))) 18 (nI (q + 1)) (nI c)) 0 25 (nI (q + 1)) := by
          show sF (sA (sF (bg τ) 0 24 (nI q + 1)) 18 (nI (q + 1)) (nI c)) 0 25 (nI (q + 1)) = _
          rw [nI_succ q]
        rw [← t3, g6]
      refine ⟨⟨k_shut σ, fun _ => ⟨kful σ, fun _ => ⟨kI, trivial⟩, fun z => absurd f0 z⟩, fun _ => trivial⟩, ⟨k_begin τ, ?_⟩, ?_⟩
      · rw [e2]
        refine ⟨fun _ => ⟨fun z => absurd z m0, fun _ => ?_⟩, fun _ => trivial⟩
        show k_Mo_open_35 (sF (bg τ) 0 24 ((bg τ).1 0 24 + 1))
        rw [show (bg τ).1 0 24 = nI q from c4]
        refine ⟨by show vp_in (nI q + 1) 21; rw [← nI_succ]; exact hinq, ?_⟩
        show k_Mo_deepOf (nI q + 1) (sF (sA (sF (bg τ) 0 24 (nI q + 1)) 18 (nI q + 1) (τ.1 0 25)) 0 25 (nI q + 1)) ∧ True
        refine ⟨?_, trivial⟩
        rw [c6]
        have t3 : τ3 = sF (sA (sF (bg τ) 0 24 (nI q + 1)) 18 (nI q + 1) (nI c)) 0 25 (nI q + 1) := by
          show sF (sA (sF (bg τ) 0 24 (nI q + 1)) 18 (nI (q + 1)) (nI c)) 0 25 (nI (q + 1)) = _
          rw [nI_succ]
        rw [← t3, ← nI_succ]; exact g2
      · rw [eC, if_pos f0, eI, eW]
        refine ⟨⟨fun x hx => (by cases hx; exact ⟨rfl, rfl⟩), fun E hE => (by cases hE)⟩, fun E hE => (by cases hE), ⟨n, q + 1, q + 1, k, f, Nat.le_refl n, h1, hT, hL, hK, h2, h3, h4, hG, hF, hC4, ?_, hfl⟩, fun c0 q1 q2 x hx => ?_⟩
        · obtain ⟨p1, p2, p3, p4⟩ := hP
          refine ⟨p1, p2, p3, fun i hi => ?_⟩
          obtain ⟨r1, ⟨s, r2, r3⟩, r4⟩ := p4 i hi
          exact ⟨r1, ⟨s, by omega, r3⟩, r4⟩
        · show (sF (sA (sF (bg τ) 0 24 (nI q + 1)) 18 (nI (q + 1)) (nI c)) 0 25 (nI (q + 1))).1 c0 x = _
          rw [sF1c, if_neg (by omega), sA1c, if_neg (by omega), sF1c, if_neg (by omega)]
          exact rw_bg n τ c0 q1 q2 x hx
    · have f0 : ¬ f_Sc_isFull σ = 0 := fun z => hq2 ((ful σ rfl).mp z)
      have m0 : (bg τ).1 0 24 = 20 := i2.mpr (by omega)
      refine ⟨⟨k_shut σ, fun _ => ⟨kful σ, fun z => absurd z f0, fun _ => ⟨kthr4 σ, fun _ _ => trivial⟩⟩, fun _ => trivial⟩, ⟨k_begin τ, ?_⟩, ?_⟩
      · rw [e2]; exact ⟨fun _ => ⟨fun _ => ⟨(fs_4_4 _).1, trivial⟩, fun z => absurd m0 z⟩, fun _ => trivial⟩
      · rw [eC, eM, if_neg f0, if_pos m0, (fs_4_4 _).2]
        exact h.refuse0 hf rfl (by decide) rfl
  · obtain ⟨e1, e2⟩ := (op_shut h).2 hf
    have eC : f_CL_open σ = (.inl (-1), σ) := by
      show (if f_CL_isShut σ = 0 then _ else _) = _
      rw [if_neg e1]
    have eM : f_Mo_open τ = (-1, bg τ) := by
      show f_Mo_open_4 (f_Mo_begin τ).1 (f_Mo_begin τ).2 = _
      rw [e2]
      show (if (1 : Int32) = 0 then _ else _) = _
      rw [if_neg (by decide)]
    refine ⟨⟨k_shut σ, fun z => absurd z e1, fun _ => trivial⟩, ⟨k_begin τ, ?_⟩, ?_⟩
    · rw [e2]; exact ⟨fun z => absurd z (show ¬ (1 : Int32) = 0 by decide), fun _ => trivial⟩
    · rw [eC, eM]; exact res_shut h
end VO
