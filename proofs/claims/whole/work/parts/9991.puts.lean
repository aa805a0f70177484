-- putting, side by side
theorem sort_kn {n t m : Nat} {X : St} (hK : KD n X) (hW : ∀ t, t < n → tmW X t) (ht : t < n) (hm : m < n) (e5 : X.1 5 m = X.1 5 t) (e10 : X.1 10 m = X.1 10 t) (k1 : ¬ X.1 5 t = 1) (k2 : ¬ X.1 5 t = 2) : X.1 6 m = X.1 6 t := by
  obtain ⟨a0, -, a3, a4, a5, a6, a7, a8, a9, a10⟩ := hK.1 t ht
  obtain ⟨b0, -, b3, b4, b5, b6, b7, b8, b9, b10⟩ := hK.1 m hm
  obtain ⟨ny, y1, y2, y3⟩ := hK.2
  obtain ⟨sk, sk1, sk2⟩ := (hW t ht).2.2.2.1
  have hs : sk = 0 ∨ sk = 1 ∨ sk = 2 ∨ sk = 3 ∨ sk = 4 ∨ sk = 5 ∨ sk = 6 ∨ sk = 7 ∨ sk = 8 ∨ sk = 9 ∨ sk = 10 := by omega
  rcases hs with rfl | rfl | rfl | rfl | rfl | rfl | rfl | rfl | rfl | rfl | rfl
  · have z : X.1 5 t = 0 := sk2.trans (by decide +kernel)
    obtain ⟨i, i1, i2, -, -, i3⟩ := (y3 t ht).1 z
    obtain ⟨j, j1, j2, -, -, j3⟩ := (y3 m hm).1 (e5.trans z)
    have : i = j := (nI_inj (by omega) (by omega)).mp (i2.symm.trans (e10.symm.trans j2))
    rw [i3, j3, this]
  · exact absurd (sk2.trans (by decide +kernel)) k1
  · exact absurd (sk2.trans (by decide +kernel)) k2
  · have z : X.1 5 t = 3 := sk2.trans (by decide +kernel)
    rw [(a3 z).2.2.2.1, (b3 (e5.trans z)).2.2.2.1]
  · have z : X.1 5 t = 4 := sk2.trans (by decide +kernel)
    rw [(a4 z).2.2.2.1, (b4 (e5.trans z)).2.2.2.1]
  · have z : X.1 5 t = 5 := sk2.trans (by decide +kernel)
    rw [(a5 z).2.2.2.1, (b5 (e5.trans z)).2.2.2.1]
  · have z : X.1 5 t = 6 := sk2.trans (by decide +kernel)
    rw [(a6 z).2.2.2.1, (b6 (e5.trans z)).2.2.2.1]
  · have z : X.1 5 t = 7 := sk2.trans (by decide +kernel)
    rw [(a7 z).2.2.2.1, (b7 (e5.trans z)).2.2.2.1]
  · have z : X.1 5 t = 8 := sk2.trans (by decide +kernel)
    rw [(a8 z).2.2.2.1, (b8 (e5.trans z)).2.2.2.1]
  · have z : X.1 5 t = 9 := sk2.trans (by decide +kernel)
    rw [(a9 z).2.2.2.1, (b9 (e5.trans z)).2.2.2.1]
  · have z : X.1 5 t = 10 := sk2.trans (by decide +kernel)
    rw [(a10 z).2.2.2.2.1, (b10 (e5.trans z)).2.2.2.2.1]
theorem X3.eq {l x : Int32} (hl : X3 l) (hx : X3 x) (h : (((1 <<< (l &&& 31)) >>> (x &&& 31)) &&& 1) = 1) : l = x := by
  rcases hl with rfl | rfl | rfl <;> rcases hx with rfl | rfl | rfl <;> first | rfl | exact absurd h (by decide)
theorem MC.of {τb σ σ' : St} {x : Int32} {u n0 : Nat} (h : MC τb x u n0 σ) (e : σ'.1 23 = σ.1 23) : MC τb x u n0 σ' := by
  unfold MC at h ⊢
  rw [e]; exact h
theorem cgC.f4 (σ : St) (v : Int32) : cgC σ (sF σ 22 4 v) := ⟨fun c q1 _ => by
  show pu σ.1 22 _ c = _
  rw [pu_at, if_neg q1], rfl⟩
theorem f4_22 (σ : St) (v : Int32) : ∀ j, ¬ j = 4 → (sF σ 22 4 v).1 22 j = σ.1 22 j := fun j hj => by
  show pu (σ.1 22) 4 _ j = _
  rw [pu_at, if_neg hj]
section PUTS
variable {n0 r q c k f u t0 : Nat} {x : Int32} {τb : St}
theorem ps_step {d D : Nat} (IH : ∀ d', d = d' + 1 → PS n0 r q c k f u t0 x τb d' D) (hD : 1 ≤ D) (hn0 : n0 ≤ 100) (hW : ∀ t, t < n0 → tmW τb t) (hK : KD n0 τb) (hx : X3 x) (hu : u < n0) (hsu : τb.1 6 u = τb.1 4 x.toNatClampNeg) (ht0n : t0 < n0) : PS n0 r q c k f u t0 x τb d (D + 1) := by
  intro t lv n σ X ht hd hlv hJ
  obtain ⟨hP, j1, j2, j3, j4, j5⟩ := hJ
  have hJ : PJ n0 r q c k f u x τb n σ X := ⟨hP, j1, j2, j3, j4, j5⟩
  have hT := hP.1.1
  have hnn : n0 ≤ n := hT.2.1
  have hn : n ≤ 204 := by omega
  have rwb : rwM n0 τb X := hP.2.2.1
  have e5 : X.1 5 t = τb.1 5 t := rwb 5 (by omega) (by omega) t ht
  have e10 : X.1 10 t = τb.1 10 t := rwb 10 (by omega) (by omega) t ht
  have fre : ∀ y j, j < n0 → (fr X y j ↔ fr τb y j) := fun y j hj => by unfold fr; rw [rwb 13 (by omega) (by omega) j hj]
  obtain ⟨⟨ak, as, a1, a2, an⟩, kk, ks, k1, k2, kn⟩ := hP.acc (by omega) (t := t) (by omega)
  obtain ⟨kfr, ifr⟩ := free_C hT.2.2.1 hT.2.2.2.2.1 (by omega) (t := t) (by omega) hx
  rw [fre x t ht] at ifr
  have n12 : ¬ (12 : Int32) < nI lv := fun z => by
    have := (nI_lt_iff (a := 12) (by omega) (by omega)).mp z; omega
  have l100 : nI t < 100 := (nI_lt_iff (b := 100) (by omega) (by omega)).mpr (by omega)
  let G : Int32 → Int32 × St := fun v => f_Pu_putIn_73 (F_Pu_putIn D) (nI t) (nI lv) (sF σ 22 4 v)
  have eU : F_Pu_putIn (D + 1) (nI t) (nI lv) σ = if f_Te_isFree x (nI t) σ = 0 then (nI t, σ) else (if τb.1 5 t = 1 then (nI u, σ) else (if σ.1 22 4 = 0 then (if f_Pu_isCaught (nI t) σ = 0 then G 0 else G 1) else G 1)) := by
    show (if f_Te_isFree (σ.1 22 2) (nI t) σ = 0 then (nI t, σ) else (if f_Te_kindOf (nI t) σ = 1 then (σ.1 22 3, σ) else (if σ.1 22 4 = 0 then (if f_Pu_isCaught (nI t) σ = 0 then (if 12 < nI lv then G 1 else (if nI t < 100 then G 0 else G 1)) else G 1) else G 1))) = _
    rw [j1, j2, ak, e5, if_neg n12, if_pos l100]
  have kU : ∀ kG : Int32 → Prop, (kG = fun v => k_Pu_putIn_73 (F_Pu_putIn D) (K_Pu_putIn D) (nI t) (nI lv) (sF σ 22 4 v)) → k_Pu_isCaught (nI t) σ → (fr τb x t → ¬ τb.1 5 t = 1 → kG 1 ∧ (σ.1 22 4 = 0 → f_Pu_isCaught (nI t) σ = 0 → kG 0)) → K_Pu_putIn (D + 1) (nI t) (nI lv) σ := fun kG hkG kc g => by
    subst hkG
    show k_Te_isFree (σ.1 22 2) (nI t) σ ∧ _
    rw [j1]
    refine ⟨kfr, fun _ => trivial, fun z => ⟨kk, fun _ => trivial, fun z2 => ?_⟩⟩
    rw [ak, e5] at z2
    obtain ⟨g1, g0⟩ := g (Classical.byContradiction (fun w => z (ifr.mpr w))) z2
    exact ⟨fun w => ⟨kc, fun w2 => ⟨fun w3 => absurd w3 n12, fun _ => ⟨fun _ => ⟨⟨nb0, rfl⟩, g0 w w2⟩, fun w3 => absurd l100 w3⟩⟩, fun _ => ⟨⟨nb1, rfl⟩, g1⟩⟩, fun _ => ⟨⟨nb1, rfl⟩, g1⟩⟩
  -- is something in the way
  have hcau : k_Pu_isCaught (nI t) σ ∧ (f_Pu_isCaught (nI t) σ = 0 ↔ ¬ cau τb u t) := by
    have e0 : f_Pu_isCaught (nI t) σ = if τb.1 5 t = 10 then (if f_Te_isFree (τb.1 10 t) (nI u) σ = 0 then 0 else 1) else 0 := by
      show (if f_Te_kindOf (nI t) σ = 10 then (if f_Te_isFree (f_Te_nameOf (nI t) σ) (σ.1 22 3) σ = 0 then (0 : Int32) else 1) else 0) = _
      rw [ak, an, e5, e10, j2]
    by_cases w : τb.1 5 t = 10
    · obtain ⟨-, -, l1, l2, -⟩ := (hK.1 t ht).2.2.2.2.2.2.2.2.2 w
      obtain ⟨f1, f2⟩ := free_C hT.2.2.1 hT.2.2.2.2.1 (by omega) (t := u) (by omega) (X3.of l1 l2)
      rw [fre _ u hu] at f2
      refine ⟨⟨kk, fun _ => ⟨kn, by rw [an, e10, j2]; exact ⟨f1, fun _ => ⟨nb0, trivial⟩, fun _ => ⟨nb1, trivial⟩⟩⟩, fun _ => ⟨nb0, trivial⟩⟩, ?_⟩
      rw [e0, if_pos w]
      by_cases w2 : f_Te_isFree (τb.1 10 t) (nI u) σ = 0
      · rw [if_pos w2]; exact ⟨fun _ z => f2.mp w2 z.2, fun _ => rfl⟩
      · rw [if_neg w2]; exact ⟨fun z => absurd z (by decide), fun z => absurd (f2.mpr (fun y => z ⟨w, y⟩)) w2⟩
    · refine ⟨⟨kk, fun z => absurd (by rw [ak, e5] at z; exact z) w, fun _ => ⟨nb0, trivial⟩⟩, ?_⟩
      rw [e0, if_neg w]
      exact ⟨fun _ z => w z.1, fun _ => rfl⟩
  obtain ⟨kc, hc⟩ := hcau
  have k73_1 : k_Pu_putIn_73 (F_Pu_putIn D) (K_Pu_putIn D) (nI t) (nI lv) (sF σ 22 4 1) := ⟨fun z => absurd z (show ¬ (1 : Int32) = 0 by decide), fun _ => trivial⟩
  have G1 : G 1 = (nI t, sF σ 22 4 1) := by
    show (if (1 : Int32) = 0 then _ else (nI t, sF σ 22 4 1)) = _
    rw [if_neg (by decide)]
  have htn : t < n := by omega
  have s6 : X.1 6 t = τb.1 6 t := rwb 6 (by omega) (by omega) t ht
  by_cases hfr : fr τb x t
  case neg =>
    -- the variable isn't there
    refine ⟨kU _ rfl kc (fun z => absurd z hfr), t, n, σ, X, by rw [eU, if_pos (ifr.mpr hfr)], ⟨htn, Nat.le_refl n, hJ, fun _ _ _ _ _ => rfl, s6, fun _ => rfl, fmP.rf X, fun _ _ => rfl, id, fun h4 hM => ⟨⟨fun _ => cln.in (fun z => absurd z hfr), fun _ => h4⟩, fun _ => hM⟩⟩, fun _ b s hA => ⟨fun _ => ⟨rfl, rfl, (rv_no hfr).symm⟩, fun z => absurd z.1 hfr⟩⟩
  case pos =>
  have nfr : ¬ f_Te_isFree x (nI t) σ = 0 := fun z => ifr.mp z hfr
  rw [eU, if_neg nfr]
  by_cases hv1 : τb.1 5 t = 1
  · -- the variable itself
    rw [if_pos hv1]
    obtain ⟨w8, l1, l2⟩ := (hK.1 t ht).2.1 hv1
    have w9 := (hW t ht).2.2.1 w8
    have hl : τb.1 10 t = x := by
      have := hfr
      unfold fr at this
      rw [(hW t ht).2.2.2.2.2.2.2.2.2.1] at this
      unfold frW at this
      rw [if_pos hv1] at this
      exact (X3.of l1 l2).eq hx this
    obtain ⟨ny, -, -, y3⟩ := hK.2
    have st : τb.1 6 t = τb.1 6 u := by rw [hsu, (y3 t ht).2 hv1, hl]
    have ncl : cln τb x u t := cln.in (fun _ => ⟨fun z => absurd (hv1.symm.trans z.1) (by decide), fun p hp => by
      have hp1 := hp.1
      rcases hp.2 with z | z
      · exact absurd (z.symm.trans w8) (nI_ne_m1 (by omega))
      · exact absurd (z.symm.trans w9) (nI_ne_m1 (by omega))⟩)
    refine ⟨kU _ rfl kc (fun _ z => absurd hv1 z), u, n, σ, X, rfl, ⟨by omega, Nat.le_refl n, hJ, fun _ _ _ _ _ => rfl, ?_, fun z => absurd hfr z, fmP.rf X, fun _ _ => rfl, id, fun h4 hM => ⟨⟨fun _ => ncl, fun _ => h4⟩, fun _ => hM⟩⟩, fun _ b s hA => ⟨fun _ => ⟨rfl, rfl, (rv_var hfr hv1).symm⟩, fun z => absurd hv1 z.2.1⟩⟩
    rw [rwb 6 (by omega) (by omega) u hu, st]
  · rw [if_neg hv1]
    -- it fails here, or has failed
    have bad : (¬ σ.1 22 4 = 0 ∨ ¬ f_Pu_isCaught (nI t) σ = 0) → ∃ m n' σ' X', (nI t, sF σ 22 4 1) = (nI m, σ') ∧ PO n0 r q c k f u x τb t n m n' σ X σ' X' ∧ PE u t0 x τb d t m σ X σ' X' := fun hb => by
      have n1 : ¬ (sF σ 22 4 1).1 22 4 = 0 := show ¬ (1 : Int32) = 0 by decide
      refine ⟨t, n, sF σ 22 4 1, X, rfl, ⟨htn, Nat.le_refl n, hJ.cg (cgC.f4 σ 1) (f4_22 σ 1) (Or.inr rfl) rfl (cgM.rf X), fun _ _ _ _ _ => rfl, s6, fun _ => rfl, fmP.rf X, fun _ _ => rfl, fun _ => n1, fun h4 hM => ⟨⟨fun z => absurd z n1, fun z => ?_⟩, fun z => absurd z n1⟩⟩, fun z => absurd z n1⟩
      rcases hb with hb | hb
      · exact absurd h4 hb
      · exact absurd (hc.mpr (z.un hfr).1) hb
    by_cases h4 : σ.1 22 4 = 0
    case neg =>
      rw [if_neg h4, G1]
      exact ⟨kU _ rfl kc (fun _ _ => ⟨k73_1, fun z => absurd z h4⟩), bad (Or.inl h4)⟩
    case pos =>
    rw [if_pos h4]
    by_cases hcc : f_Pu_isCaught (nI t) σ = 0
    case neg =>
      rw [if_neg hcc, G1]
      exact ⟨kU _ rfl kc (fun _ _ => ⟨k73_1, fun _ z => absurd z hcc⟩), bad (Or.inr hcc)⟩
    case pos =>
    rw [if_pos hcc]
    have ncau := hc.mp hcc
    have hct : (nI t).toNatClampNeg = t := nI_clamp (by omega)
    have hin : vp_in (nI t) 100 := by rw [in_iff, i_nI (by omega)]; omega
    have KU0 : k_Pu_putIn_73 (F_Pu_putIn D) (K_Pu_putIn D) (nI t) (nI lv) (sF σ 22 4 0) → K_Pu_putIn (D + 1) (nI t) (nI lv) σ := fun w => kU _ rfl kc (fun _ _ => ⟨k73_1, fun _ _ => w⟩)
    have hJ1 : PJ n0 r q c k f u x τb n (sF σ 22 4 0) X := hJ.cg (cgC.f4 σ 0) (f4_22 σ 0) (Or.inl rfl) rfl (cgM.rf X)
    have e23 : (sF σ 22 4 0).1 23 = σ.1 23 := rfl
    have G0 : G 0 = if σ.1 23 t = -1 then f_Pu_putIn_107 (F_Pu_putIn D) (nI t) (nI lv) (F_Pu_putIn D (f_Te_firstOf (nI t) (sF σ 22 4 0)) (nI lv + 1) (sF σ 22 4 0)).1 (F_Pu_putIn D (f_Te_firstOf (nI t) (sF σ 22 4 0)) (nI lv + 1) (sF σ 22 4 0)).2 else (σ.1 23 t, sF σ 22 4 0) := by
      show (if (0 : Int32) = 0 then (if σ.1 23 (nI t).toNatClampNeg = -1 then _ else (σ.1 23 (nI t).toNatClampNeg, sF σ 22 4 0)) else _) = _
      rw [if_pos rfl, hct]
    rw [G0]
    by_cases hm1 : σ.1 23 t = -1
    case neg =>
      rw [if_neg hm1]
      obtain ⟨m, m1, m2, m3⟩ := (j3 t ht).resolve_left hm1
      refine ⟨KU0 ⟨fun _ => ⟨hin, fun z => absurd (by rw [hct] at z; exact z) hm1, fun _ => ⟨hin, trivial⟩⟩, fun _ => trivial⟩, m, n, sF σ 22 4 0, X, by rw [m2], ⟨m1, Nat.le_refl n, hJ1, fun _ _ _ _ _ => rfl, m3, fun z => absurd hfr z, fmP.rf X, fun _ _ => rfl, fun z => absurd h4 z, fun _ hM => ⟨⟨fun _ => hM t ht hm1, fun _ => rfl⟩, fun _ => hM.of rfl⟩⟩, fun _ b s hA => ⟨fun _ => ⟨rfl, rfl, by rw [rv_in hfr hv1, m2]⟩, fun z => absurd z.2.2 hm1⟩⟩
    case pos =>
    rw [if_pos hm1]
    -- the parts
    have inn := fr_inn (τ := τb) hW hK.1 (by omega) ht hfr hx
    obtain ⟨h8, hk2⟩ := inn.1 hv1
    obtain ⟨a, a1', a2'⟩ := (hW t ht).1.resolve_left h8
    have hD7 : ∀ j, j < n0 → 1 ≤ (τb.1 7 j).toInt ∧ (τb.1 7 j).toInt ≤ 1000 := fun j hj => by
      have := (hW j hj).2.2.2.2.2.2.2.2.2.2
      omega
    have da := dep_part (hW t ht) (by omega) (fun j hj => hD7 j (by omega)) a1' (Or.inl a2')
    have da1 := (hD7 a (by omega)).1
    obtain ⟨d', rfl⟩ : ∃ d', d = d' + 1 := ⟨d - 1, by omega⟩
    have IH := IH d' rfl
    have E8 : X.1 8 t = nI a := (rwb 8 (by omega) (by omega) t ht).trans a2'
    have f1 : f_Te_firstOf (nI t) (sF σ 22 4 0) = nI a := a1.trans E8
    have kf1 : k_Te_firstOf (nI t) (sF σ 22 4 0) := k1
    obtain ⟨kA, ma, n1, σ2, X2, eA, ⟨o1, o2, o3, o4, o5, o6, o7, o8, o9, o10⟩, hEA⟩ := part_j (t := t) (lv := lv + 1) IH (by omega) a1' ht (by omega) (by omega) hJ1 hn0
    rw [nI_succ] at kA eA
    rw [f1, eA]
    have hP2 := o3.1
    have hn1 : n1 ≤ 204 := by have := o3.2.2.2.2.1; omega
    have rw2 : rwM n0 τb X2 := hP2.2.2.1
    obtain ⟨⟨-, -, -, b2, -⟩, -, -, -, kb2, -⟩ := hP2.acc (by omega) (t := t) (by omega)
    have b2' : f_Te_secondOf (nI t) σ2 = τb.1 9 t := b2.trans (rw2 9 (by omega) (by omega) t ht)
    have E28 : X2.1 8 t = nI a := (rw2 8 (by omega) (by omega) t ht).trans a2'
    have E29 : X2.1 9 t = τb.1 9 t := rw2 9 (by omega) (by omega) t ht
    have c26 : ∀ {b : Nat} {σ X : St}, AG τb x u t0 b σ X → nrd τb x σ t0 → X.1 26 t0 = -1 := fun hA h0 => by rw [hA.2 t0 (Nat.le_refl _)]; exact h0.m1
    -- the second
    have SEC : K_Pu_putIn D (τb.1 9 t) (nI lv + 1) σ2 ∧ ∃ v n2 σ3 X3, F_Pu_putIn D (τb.1 9 t) (nI lv + 1) σ2 = (v, σ3) ∧ n1 ≤ n2 ∧ PJ n0 r q c k f u x τb n2 σ3 X3 ∧ rwM n1 X2 X3 ∧ fmP X2 X3 ∧ (∀ j, t ≤ j ∨ ¬ σ2.1 23 j = -1 → σ3.1 23 j = σ2.1 23 j) ∧ (¬ σ2.1 22 4 = 0 → ¬ σ3.1 22 4 = 0) ∧
        (σ2.1 22 4 = 0 → MC τb x u n0 σ2 → (σ3.1 22 4 = 0 ↔ ∀ e, e < 400 → τb.1 9 t = nI e → cln τb x u e) ∧ (σ3.1 22 4 = 0 → MC τb x u n0 σ3)) ∧
        ((v = -1 ∧ τb.1 9 t = -1) ∨ ∃ e m', τb.1 9 t = nI e ∧ e < t ∧ v = nI m' ∧ m' < n2 ∧ X3.1 6 m' = τb.1 6 e) ∧
        (σ3.1 22 4 = 0 → ∀ b s, AG τb x u t0 b σ2 X2 → t ≤ t0 → nrd τb x σ2 t0 → X2.1 26 a = nI ma → b + d' ≤ 37 → s + 1 + cost d' < 4000 →
          AG τb x u t0 b σ3 X3 ∧ (∀ j, j < b → X3.1 24 j = X2.1 24 j) ∧ (∀ e, e < 400 → τb.1 9 t = nI e → X3.1 26 e = v) ∧ ∃ s', s' ≤ s + 1 + cost d' ∧ PM t0 s (nI t) X2 = PM t0 s' (nI t) X3 ∧ (KPM t0 s' (nI t) X3 → KPM t0 s (nI t) X2)) := by
      rcases (hW t ht).2.1 with h9 | ⟨e, e1, e2⟩
      · obtain ⟨D', rfl⟩ : ∃ D', D = D' + 1 := ⟨D - 1, by omega⟩
        obtain ⟨g1, g2⟩ := free_no (x := x) hP2.1.1.2.2.1 (by omega)
        have eF : F_Pu_putIn (D' + 1) (-1) (nI lv + 1) σ2 = (-1, σ2) := by
          show (if f_Te_isFree (σ2.1 22 2) (-1) σ2 = 0 then ((-1 : Int32), σ2) else _) = _
          rw [o3.2.1, if_pos g2]
        have nne : ∀ e, e < 400 → ¬ (-1 : Int32) = nI e := fun e he z => nI_ne_m1 (i := e) (by omega) z.symm
        rw [h9]
        refine ⟨?_, -1, n1, σ2, X2, eF, Nat.le_refl _, o3, fun _ _ _ _ _ => rfl, fmP.rf X2, fun _ _ => rfl, id, fun q1 q2 => ⟨⟨fun _ e he z => absurd z (nne e he), fun _ => q1⟩, fun _ => q2⟩, Or.inl ⟨rfl, rfl⟩, fun _ b s hA _ _ _ _ _ => ⟨hA, fun _ _ => rfl, fun e he z => absurd z (nne e he), s, by omega, rfl, id⟩⟩
        show k_Te_isFree (σ2.1 22 2) (-1) σ2 ∧ _
        rw [o3.2.1]
        exact ⟨g1, fun _ => trivial, fun z => absurd g2 z⟩
      · have de := dep_part (hW t ht) (by omega) (fun j hj => hD7 j (by omega)) e1 (Or.inr e2)
        obtain ⟨kB, mb, n2, σ3, X3, eB, ⟨p1, p2, p3, p4, p5, p6, p7, p8, p9, p10⟩, hEB⟩ := part_j (t := t) (lv := lv + 1) IH (p := e) (by omega) e1 ht (by omega) (by omega) o3 hn0
        rw [nI_succ] at kB eB
        rw [e2]
        have eqe : ∀ e', e' < 400 → nI e = nI e' → e' = e := fun e' h z => ((nI_inj (by omega) (by omega)).mp z).symm
        refine ⟨kB, nI mb, n2, σ3, X3, eB, p2, p3, p4, p7, fun j hj => p8 j (hj.imp (fun z => by omega) id), p9, fun q1 q2 => ⟨⟨fun z e' h z2 => by rw [eqe e' h z2]; exact (p10 q1 q2).1.mp z, fun z => (p10 q1 q2).1.mpr (z e (by omega) rfl)⟩, (p10 q1 q2).2⟩, Or.inr ⟨e, mb, rfl, e1, rfl, p1, p5⟩, fun w b s hA ht0 h0 h26 hb hs => ?_⟩
        have hn2 : n2 ≤ 204 := by have := p3.2.2.2.2.1; omega
        obtain ⟨x1, x2, x3, s', x4, x5, x6⟩ := hEB w b s hA ht0 h0 hb hs (fun z => pm_B (a := a) (m := ma) (b := b) (by omega) (by omega) (by omega) (c26 hA h0) (by omega) hA.1 (by omega) E28 h26 (by omega) (by omega) (E29.trans e2) z)
        exact ⟨x1, x2, fun e' h z => by rw [eqe e' h z]; exact x3, s', x4, x5, x6⟩
    obtain ⟨kB, v, n2, σ3, X3, eB, p2, p3, p4, p7, p8, p9, p10, hv, hEB⟩ := SEC
    -- the making
    have hP3 := p3.1
    have hn2 : n2 ≤ 204 := by have := p3.2.2.2.2.1; omega
    have hT3 := hP3.1.1
    have rw3 : rwM n0 τb X3 := hP3.2.2.1
    obtain ⟨⟨ck, cs, -, -, cn⟩, kck, kcs, -, -, kcn⟩ := hP3.acc (by omega) (t := t) (by omega)
    have r3 : ∀ c, 5 ≤ c → c ≤ 13 → X3.1 c t = τb.1 c t := fun c q1 q2 => rw3 c q1 q2 t ht
    have hW3 := (hT3.2.2.1.2.2 t (by omega)).2
    have ma3 : ma < n2 := by omega
    have sma : X3.1 6 ma = τb.1 6 a := (p4 6 (by omega) (by omega) ma o1).trans o5
    have s3 : ∀ j, j < n0 → X3.1 6 j = τb.1 6 j := fun j hj => rw3 6 (by omega) (by omega) j hj
    have hv3 : (v = -1 ∧ X3.1 9 t = -1) ∨ ∃ e m', X3.1 9 t = nI e ∧ e < t ∧ v = nI m' ∧ m' < n2 ∧ X3.1 6 m' = X3.1 6 e := by
      rcases hv with ⟨v1, v2⟩ | ⟨e, m', v1, v2, v3, v4, v5⟩
      · exact Or.inl ⟨v1, (r3 9 (by omega) (by omega)).trans v2⟩
      · exact Or.inr ⟨e, m', (r3 9 (by omega) (by omega)).trans v1, v2, v3, v4, by rw [v5, s3 e (by omega)]⟩
    have k41 : X3.1 5 t = 4 → ma = a := fun z => o6 (fun w => by
      have z4 : τb.1 5 t = 4 := (r3 5 (by omega) (by omega)).symm.trans z
      have a5 := ((hK.1 t ht).2.2.2.1 z4).2.2.2.2.1
      unfold pO at a5
      rw [a2', if_neg (nI_ne_m1 (by omega)), nI_clamp (by omega)] at a5
      exact ((fr_inn (τ := τb) hW hK.1 (by omega) (t := a) (by omega) w hx).1 (by rw [a5]; decide)).2 a5)
    have nk1 : ¬ X3.1 5 t = 1 := by rw [r3 5 (by omega) (by omega)]; exact hv1
    have nk2 : ¬ X3.1 5 t = 2 := by rw [r3 5 (by omega) (by omega)]; exact hk2
    have E38 : X3.1 8 t = nI a := (r3 8 (by omega) (by omega)).trans a2'
    have n8' : ¬ nI ma = -1 := nI_ne_m1 (by omega)
    obtain ⟨km1, km2, m, n3, σ4, X4, fC, fM, m1, m2, m3, hTR, hfd, hrw, hfC, hfM, h20⟩ := TR.make hP3.1 (by omega) (k := X3.1 5 t) (s := X3.1 6 t) (l := X3.1 10 t) (a := nI ma) (b := v) hW3.2.2.2.1 nk2 hW3.2.2.2.2.1 hW3.2.2.2.2.2.1 (Or.inr ⟨ma, ma3, rfl⟩)
      (by
        rcases hv3 with ⟨v1, -⟩ | ⟨e, m', -, -, v3, v4, -⟩
        · exact Or.inl v1
        · exact Or.inr ⟨m', v4, v3⟩)
      (fun z => absurd z n8')
      (fun τ' q1 q2 q3 q4 q5 q6 => kd_new (by omega) (by omega) (hT3.2.2.2.2.1.1 t (by omega)) nk1 nk2 E38 a1' ma3 q1 q2 q3 q4 q5 q6 (by rw [sma, s3 a (by omega)]) k41 hv3)
      (fun ny y1 y2 => by
        obtain ⟨ny', z1, z2, z3⟩ := hT3.2.2.2.2.1.2
        have : ny' = ny := (nI_inj (by omega) (by omega)).mp (z2.symm.trans y1)
        subst this
        obtain ⟨g0, g1⟩ := z3 t (by omega)
        refine ⟨fun w => ?_, fun w => absurd w nk1⟩
        obtain ⟨i, i1, i2, i3, i4, i5⟩ := g0 w
        refine ⟨i, i1, i2, ⟨fun z => absurd z n8', fun z => absurd (i3.mpr z) (by rw [E38]; exact nI_ne_m1 (by omega))⟩, ?_, i5⟩
        rw [← i4]
        rcases hv3 with ⟨v1, v2⟩ | ⟨e, m', v1, v2, v3, v4, -⟩
        · exact ⟨fun _ => v2, fun _ => v1⟩
        · rw [v1, v3]
          exact ⟨fun z => absurd z (nI_ne_m1 (by omega)), fun z => absurd z (nI_ne_m1 (by omega))⟩)
    have hP4 : PK n0 n3 r q c k f τb σ4 X4 := hP3.made m2 hTR hrw hfC hfM h20
    have sm : X4.1 6 m = τb.1 6 t := by
      have := sort_kn (n := n3) (t := t) (m := m) hP4.1.1.2.2.2.2.1 (fun j hj => (hP4.1.1.2.2.1.2.2 j hj).2) (by omega) m1 (by rw [hfd.1, hrw 5 (by omega) (by omega) t (by omega)]) (by rw [hfd.2.2.2.1, hrw 10 (by omega) (by omega) t (by omega)]) (by rw [hrw 5 (by omega) (by omega) t (by omega)]; exact nk1) (by rw [hrw 5 (by omega) (by omega) t (by omega)]; exact nk2)
      rw [this, hrw 6 (by omega) (by omega) t (by omega), r3 6 (by omega) (by omega)]
    have c22 : σ4.1 22 = σ3.1 22 := hfC.1 22 (by omega)
    have c23 : σ4.1 23 = σ3.1 23 := hfC.1 23 (by omega)
    let bX : Nat := (X.1 0 34).toNatClampNeg
    let σ5 : St := sA σ4 23 (nI t) (nI m)
    let X5 : St := pop t (nI m, X4) bX
    have e5' : σ5.1 22 = σ3.1 22 := c22
    have g23 : ∀ j, σ5.1 23 j = if j = t then nI m else σ3.1 23 j := fun j => by
      show (sA σ4 23 (nI t) (nI m)).1 23 j = _
      rw [sA1, if_pos rfl, hct, c23]
    have cC5 : cgC σ4 σ5 := ⟨fun c _ q2 => by
      show pu σ4.1 23 _ c = _
      rw [pu_at, if_neg q2], rfl⟩
    have cM5 : cgM X4 X5 := ⟨fun c q0 _ q2 _ => by
      show pu (pu X4.1 26 _) 0 _ c = _
      rw [pu_at, if_neg q0, pu_at, if_neg q2], fun j hj => by
      show pu (X4.1 0) 34 _ j = _
      rw [pu_at, if_neg hj]⟩
    have t3 : σ3.1 23 t = -1 := by
      rw [p8 t (Or.inl (Nat.le_refl t)), o8 t (Or.inl a1')]; exact hm1
    have nm : ¬ nI m = -1 := nI_ne_m1 (by omega)
    have u5 : unr (σ5.1 23) n0 + 1 = unr (σ3.1 23) n0 := unr_set (t := t) t3 (by rw [g23, if_pos rfl]; exact nm) (fun j hj => by rw [g23, if_neg hj]) n0 ht
    have r45 : ∀ c, 5 ≤ c → c ≤ 13 → X5.1 c = X4.1 c := fun c q1 q2 => cM5.1 c (by omega) (by omega) (by omega) (by omega)
    have hJ5 : PJ n0 r q c k f u x τb n3 σ5 X5 := by
      refine ⟨hP4.cg cC5 cM5, by rw [e5']; exact p3.2.1, by rw [e5']; exact p3.2.2.1, fun j hj => ?_, by have := p3.2.2.2.2.1; omega, by rw [e5']; exact p3.2.2.2.2.2⟩
      rw [g23, r45 6 (by omega) (by omega)]
      by_cases z : j = t
      · rw [if_pos z, z]
        exact Or.inr ⟨m, m1, rfl, sm⟩
      · rw [if_neg z]
        rcases p3.2.2.2.1 j hj with w | ⟨m', w1, w2, w3⟩
        · exact Or.inl w
        · exact Or.inr ⟨m', by omega, w2, by rw [hrw 6 (by omega) (by omega) m' w1]; exact w3⟩
    have eV : f_Pu_putIn_107 (F_Pu_putIn D) (nI t) (nI lv) (nI ma) σ2 = (nI m, σ5) := by
      show f_Pu_putIn_123 (F_Pu_putIn D) (nI t) (nI ma) (F_Pu_putIn D (f_Te_secondOf (nI t) σ2) (nI lv + 1) σ2).1 (F_Pu_putIn D (f_Te_secondOf (nI t) σ2) (nI lv + 1) σ2).2 = _
      rw [b2', eB]
      show f_Pu_putIn_165 (F_Pu_putIn D) (nI t) (sA (f_Te_make (f_Te_kindOf (nI t) σ3) (f_Te_sortOf (nI t) σ3) (f_Te_nameOf (nI t) σ3) (nI ma) v σ3).2 23 (nI t) (f_Te_make (f_Te_kindOf (nI t) σ3) (f_Te_sortOf (nI t) σ3) (f_Te_nameOf (nI t) σ3) (nI ma) v σ3).1) = _
      rw [ck, cs, cn, fC]
      show (σ5.1 23 (nI t).toNatClampNeg, σ5) = _
      rw [hct, g23, if_pos rfl]
    have flg : σ5.1 22 4 = 0 ↔ σ3.1 22 4 = 0 := by rw [e5']
    refine ⟨KU0 ⟨fun _ => ⟨hin, fun _ => ⟨kf1, ?_⟩, fun z => absurd (by rw [hct]; exact hm1) z⟩, fun _ => trivial⟩, m, n3, σ5, X5, eV, ⟨m1, by omega, hJ5, ?_, by rw [r45 6 (by omega) (by omega)]; exact sm, fun z => absurd hfr z, ?_, fun j hj => ?_, fun z => absurd h4 z, fun _ hM => ?_⟩, fun w b s hA => ⟨fun z => absurd ⟨hfr, hv1, hm1⟩ z, fun _ ht0 h0 hbt hb hs => ?_⟩⟩
    · rw [f1, eA]
      refine ⟨kA, kb2, ?_⟩
      rw [b2', eB]
      refine ⟨kB, kck, kcs, kcn, ?_⟩
      rw [ck, cs, cn, fC]
      exact ⟨km1, hin, hin, trivial⟩
    · exact ((o4.tr p4 o2).tr hrw (by omega)).tr (m := n3) (fun c q1 q2 j _ => by rw [r45 c q1 q2]) (by omega)
    · refine ((o7.tr p7).tr (Z := X4) ⟨fun c hc => hfM.1 c (by omega), fun j q1 q2 _ => hfM.2.1 j q1 q2⟩).tr (cM5.fm ?_)
      rfl
    · have nt : ¬ j = t := fun z => by
        rcases hj with hj | hj
        · omega
        · rw [z] at hj; exact hj hm1
      rw [g23, if_neg nt]
      have o8j : σ2.1 23 j = σ.1 23 j := o8 j (hj.imp (fun z => by omega) id)
      rw [p8 j (hj.imp (fun z => by omega) (fun z => by rw [o8j]; exact z)), o8j]
    · obtain ⟨u1, u2⟩ := o10 rfl (hM.of rfl)
      rw [flg]
      have key : σ3.1 22 4 = 0 → σ2.1 22 4 = 0 := fun z => Classical.byContradiction (fun w => p9 w z)
      have full : σ3.1 22 4 = 0 → cln τb x u t := fun z => by
        have z2 := key z
        obtain ⟨w1, w2⟩ := p10 z2 (u2 z2)
        refine cln.in (fun _ => ⟨ncau, fun p hp => ?_⟩)
        have hp1 := hp.1
        rcases hp.2 with y | y
        · have : p = a := (nI_inj (by omega) (by omega)).mp (y.symm.trans a2')
          rw [this]; exact u1.mp z2
        · exact w1.mp z p hp1 y
      refine ⟨⟨full, fun z => ?_⟩, fun z => ?_⟩
      · obtain ⟨-, y2⟩ := z.un hfr
        have z2 := u1.mpr (y2 a ⟨by omega, Or.inl a2'⟩)
        exact (p10 z2 (u2 z2)).1.mpr (fun e he y => y2 e ⟨he, Or.inr y⟩)
      · intro j hj y
        rw [g23] at y
        by_cases w : j = t
        · rw [w]; exact full z
        · rw [if_neg w] at y
          have z2 := key z
          exact (p10 z2 (u2 z2)).2 z j hj y
    · have z3 := flg.mp w
      have z2 : σ2.1 22 4 = 0 := Classical.byContradiction (fun w => p9 w z3)
      have hA1 : AG τb x u t0 b (sF σ 22 4 0) X := hA
      have h01 : nrd τb x (sF σ 22 4 0) t0 := h0
      have cs := cost_s d'
      obtain ⟨x1, x2, x3, s2, x4, x5, x6⟩ := hEA z2 b s hA1 ht0 h01 (by omega) (by omega) (fun z => pm_A (a := a) (b := b) (by omega) (by omega) (by omega) (c26 hA h0) (by omega) hA.1 (by omega) E8 z)
      have h02 : nrd τb x σ2 t0 := ⟨h0.1, h0.2.1, by rw [o8 t0 (Or.inl (by omega))]; exact h0.2.2⟩
      obtain ⟨y1, y2, y3, s3', y4, y5, y6⟩ := hEB z3 b s2 x1 ht0 h02 x3 (by omega) (by omega)
      have h03 : nrd τb x σ3 t0 := ⟨h0.1, h0.2.1, by rw [p8 t0 (Or.inl ht0)]; exact h02.2.2⟩
      have a26 : X3.1 26 a = nI ma := by
        have q1 := x1.2 a (by omega)
        rw [x3] at q1
        rw [y1.2 a (by omega)]
        by_cases w1 : fr τb x a
        · by_cases w2 : τb.1 5 a = 1
          · rw [rv_var w1 w2] at q1 ⊢; exact q1.symm
          · rw [rv_in w1 w2] at q1 ⊢
            rw [p8 a (Or.inr (by rw [← q1]; exact n8')), ← q1]
        · rw [rv_no w1] at q1 ⊢; exact q1.symm
      have hbX : bX = b := by
        show (X.1 0 34).toNatClampNeg = b
        rw [hA.1, nI_clamp (by omega)]
      have x34 : X4.1 0 34 = nI b := (hfM.2.1 34 (by omega) (by omega)).trans y1.1
      have x24 : X4.1 24 = X3.1 24 := hfM.1 24 (by omega)
      have x26 : X4.1 26 = X3.1 26 := hfM.1 26 (by omega)
      obtain ⟨v1, v2⟩ := pm_C (t0 := t0) (s := s3') (t := t) (b := b) (X := X3) (a := a) (m := ma) (v := v) (r := m) (P := (nI m, X4)) (by omega) (by omega) (by omega) (c26 y1 h03) (by omega) (by omega) E38 a26 (by omega) (hW3.2.2.2.2.2.2.2.1 nk2).1 (hW3.2.2.2.2.2.2.2.1 nk2).2 (by
        rcases hv with ⟨q1, q2⟩ | ⟨e, m', q1, q2, q3, q4, q5⟩
        · exact Or.inl ⟨(r3 9 (by omega) (by omega)).trans q2, q1⟩
        · exact Or.inr ⟨e, m', by omega, by omega, (r3 9 (by omega) (by omega)).trans q1, by rw [y3 e (by omega) q1, q3], q3⟩) fM km2 rfl (by omega) x26 x34 x24 hbt
      have eX5 : X5 = pop t (nI m, X4) b := by
        show pop t (nI m, X4) bX = _
        rw [hbX]
      have p24 : ∀ j, j < b → X3.1 24 j = X.1 24 j := fun j hj => (y2 j hj).trans (x2 j hj)
      have nx : (if t = t0 then nI t0 else X3.1 24 (b - 1)) = (if t = t0 then nI t0 else X.1 24 (b - 1)) := by
        by_cases w1 : t = t0
        · rw [if_pos w1, if_pos w1]
        · rw [if_neg w1, if_neg w1]
          exact p24 (b - 1) (by
            rcases hbt with q | q
            · exact absurd q.1 w1
            · omega)
      rw [nx, ← eX5] at v1 v2
      refine ⟨by rw [g23, if_pos rfl], ⟨by rw [eX5]; rfl, fun j hj => ?_⟩, fun j hj => ?_, s3' + 1, by omega, x5.trans (y5.trans v1), fun w => x6 (y6 (v2 w))⟩
      · have q26 : X5.1 26 j = if j = t then nI m else X3.1 26 j := by
          show (sA X4 26 (nI t) (nI m)).1 26 j = _
          rw [sA1, if_pos rfl, hct, x26]
        rw [q26]
        by_cases w1 : j = t
        · rw [if_pos w1, w1, rv_in hfr hv1, g23, if_pos rfl]
        · rw [if_neg w1, y1.2 j hj]
          unfold rv
          rw [g23, if_neg w1]
      · have q24 : X5.1 24 = X4.1 24 := rfl
        rw [q24, x24]; exact p24 j hj
theorem psim (hn0 : n0 ≤ 100) (hW : ∀ t, t < n0 → tmW τb t) (hK : KD n0 τb) (hx : X3 x) (hu : u < n0) (hsu : τb.1 6 u = τb.1 4 x.toNatClampNeg) (ht0 : t0 < n0) : ∀ d D, d + 2 ≤ D → PS n0 r q c k f u t0 x τb d D := by
  intro d
  induction d with
  | zero =>
    intro D hD
    obtain ⟨D, rfl⟩ : ∃ k, D = k + 1 := ⟨D - 1, by omega⟩
    exact ps_step (fun d' z => by omega) (by omega) hn0 hW hK hx hu hsu ht0
  | succ d ih =>
    intro D hD
    obtain ⟨D, rfl⟩ : ∃ k, D = k + 1 := ⟨D - 1, by omega⟩
    refine ps_step (fun d' z => ?_) (by omega) hn0 hW hK hx hu hsu ht0
    obtain rfl : d' = d := by omega
    exact ih D (by omega)
end PUTS
