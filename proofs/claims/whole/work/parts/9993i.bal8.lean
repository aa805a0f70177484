theorem SW_app (ty : Nat → ClassId) (pz : va_W) : ∀ L : List Itm, SW ty [] L ++ pz = SW ty pz L := by
  intro L
  induction L with
  | nil => rfl
  | cons x L ih =>
    show Ws ty x.1 x.2 (SW ty [] L ++ pz) = Ws ty x.1 x.2 (SW ty pz L)
    rw [ih]
/-- the balance's cells -/
abbrev PXf (ty : Nat → ClassId) (h : Nat → Nat) (cA : ClassId) (A : Nat → Option Nat) (L : List Itm) : va_W := (h 40, .inl (cA, (100, .inr (.inr (.inr (.inr A)))))) :: SW ty [] L
theorem WL_perm {ty : Nat → ClassId} {h : Nat → Nat} {σ : St} {cA : ClassId} {A : Nat → Option Nat} {L : List Itm} {pz : va_W} {c : Nat × va_E} : List.Perm (Wc ty h σ (c :: (PXf ty h cA A L ++ pz))) (WB ty h σ cA A (c :: pz) L) := by
  have e : SW ty (c :: pz) L = SW ty [] L ++ c :: pz := (SW_app ty (c :: pz) L).symm
  have p : List.Perm (c :: (PXf ty h cA A L ++ pz)) ((h 40, .inl (cA, (100, .inr (.inr (.inr (.inr A)))))) :: SW ty (c :: pz) L) := by
    rw [e]
    exact (List.Perm.swap _ _ _).trans (List.perm_middle.symm.cons _)
  exact p.append_left (Wc ty h σ [])
def gB (v : XR) (o : Nat → Int64) : XL := match v.1 with
  | .inl x => (0, v.2, vp_updL o 0 x.toInt64)
  | .inr E => (if E = 1 then 1 else if E = 2 then 2 else if E = 3 then 3 else 4, v.2, o)
abbrev rm_La_linearB (K : Nat) : Room := { frames := 30, cells := 4 * K + 1, slots := 308 * K + 6, locals := 780 }
/-- the end of the wrapper, with the balance's cells as they then stand -/
def RlB (D : va_G) (Wf : va_W → St → (Nat → Int64) → va_W) (Gd : va_W → Prop) (A : Nat → Prop) (v : XL) : Array Value → State → Outcome → State → Prop := fun a st o t => ∃ w, Gd w ∧ va_D A (Wf w v.2.1 v.2.2) ∧ Rl D classes (Wf w) A v a st o t
set_option maxHeartbeats 4000000 in
set_option maxRecDepth 100000 in
theorem c_La_linearB (l : Launch) (hlt : l.stackTraces = false) (D : va_G) (ty : Nat → ClassId) (h : Nat → Nat) (cA : ClassId) (pz : va_W) (sa : Nat → Nat) (σ : St) (G : Nat → Nat → Prop) (Sp : Nat → St → Prop) (hac : ∀ x, k_Te_kindOf x σ ∧ k_Te_firstOf x σ ∧ k_Te_secondOf x σ ∧ k_Te_topOf x σ ∧ k_Te_bottomOf x σ) (C : Cl σ G Sp) (A0 : Nat → Option Nat) (x0 xe xt : Itm) (P : List Itm) (sz : Nat) (ho : Nat) (o : Nat → Int64) (a1 a2 a3 a4 a5 a6 : Int32) (K : Nat) (Pe Q0 Q1 Q2 Q3 : St → Prop) (v : XR) (h45 : h 45 = xe.1 0) (h49 : h 49 = xt.1 0) (hBI : BI Sp A0 (x0 :: xe :: xt :: P)) (hPe : Pe xe.2) (hP0 : Q0 (f_Su_wipes xt.2)) (hL1 : LD σ G Sp Pe a1 a4 Q0 Q1) (hL2 : LD σ G Sp Pe a2 a5 Q1 Q2) (hL3 : LD σ G Sp Pe a3 a6 Q2 Q3) (hKK : K = cn (dmL σ a3 (dmL σ a2 (dmL σ a1 (dom A0)))) 100 - cn (dom A0) 100) (hsh : k_CL_isShut σ ∧ f_CL_isShut σ = 0) (hh1 : k_Te_has a1 σ ∧ ¬ f_Te_has a1 σ = 0) (hh2 : k_CL_isTermOrNone a2 σ ∧ ¬ f_CL_isTermOrNone a2 σ = 0) (hh3 : k_CL_isTermOrNone a3 σ ∧ ¬ f_CL_isTermOrNone a3 σ = 0) (h23 : a2 = -1 → a3 = -1) (ht1 : k_Ba_takes a1 a4 σ ∧ ¬ f_Ba_takes a1 a4 σ = 0) (ht2 : k_Ba_takes a2 a5 σ ∧ ¬ f_Ba_takes a2 a5 σ = 0) (ht3 : k_Ba_takes a3 a6 σ ∧ ¬ f_Ba_takes a3 a6 σ = 0) (hfin : ∀ tt, Q3 tt → k_Su_isTooGreats tt ∧ (tt.1 0 4 = 0 → k_Su_signOfConstants tt ∧ k_Su_hasAtoms tt) ∧ fin3 tt a1 a2 a3 (nxt a3 a6 (nxt a2 a5 (nxt a1 a4 (sF σ 24 5 0)))) = v) (hkE : k_Ro_join a1 (f_Ro_wipe (nxt a3 a6 (nxt a2 a5 (nxt a1 a4 (sF σ 24 5 0))))) ∧ k_Ro_join a2 (f_Ro_join a1 (f_Ro_wipe (nxt a3 a6 (nxt a2 a5 (nxt a1 a4 (sF σ 24 5 0)))))) ∧ k_Ro_join a3 (f_Ro_join a2 (f_Ro_join a1 (f_Ro_wipe (nxt a3 a6 (nxt a2 a5 (nxt a1 a4 (sF σ 24 5 0))))))) ∧ k_CL_enterRow (f_Sc_innermost (jn3 a1 a2 a3 (nxt a3 a6 (nxt a2 a5 (nxt a1 a4 (sF σ 24 5 0)))))) 0 (jn3 a1 a2 a3 (nxt a3 a6 (nxt a2 a5 (nxt a1 a4 (sF σ 24 5 0)))))) (hE : ∀ E, v.1 = .inr E → E = 1 ∨ E = 2 ∨ E = 3 ∨ E = 4) : xMet l y_La_linear w_La_linear (rm_La_linearB K) (va_Pc [.ref (h 0), .int a1, .int a2, .int a3, .int a4, .int a5, .int a6, .ref ho] (fun U => U.heap.size = sz ∧ va_P D classes (Wc ty h σ ((ho, .inl (ty 1, 1, .inr (.inl o))) :: (PXf ty h cA A0 (x0 :: xe :: xt :: P) ++ pz))) U.heap ∧ va_K D classes (TA ty cA) U ∧ NW U ∧ NC U ∧ XK sa (va_A (Wc ty h σ ((ho, .inl (ty 1, 1, .inr (.inl o))) :: (PXf ty h cA A0 (x0 :: xe :: xt :: P) ++ pz))) sz) U U.heap ∧ MK sa (va_A (Wc ty h σ ((ho, .inl (ty 1, 1, .inr (.inl o))) :: (PXf ty h cA A0 (x0 :: xe :: xt :: P) ++ pz))) sz) U U.heap ∧ va_D (fun _ => True) (Wc ty h σ ((ho, .inl (ty 1, 1, .inr (.inl o))) :: (PXf ty h cA A0 (x0 :: xe :: xt :: P) ++ pz))))) (RlB D (fun w u z => Wc ty h u ((ho, .inl (ty 1, 1, .inr (.inl z))) :: (w ++ pz))) (fun px1 => ∃ w : BS, px1 = PXf ty h cA w.1 (x0 :: (xe.1, w.2.1) :: (xt.1, w.2.2.1) :: w.2.2.2) ∧ (fun w => (∃ N, w.2.2.2 = P ++ N) ∧ BI Sp w.1 (x0 :: (xe.1, w.2.1) :: (xt.1, w.2.2.1) :: w.2.2.2) ∧ dom w.1 = dmL σ a3 (dmL σ a2 (dmL σ a1 (dom A0))) ∧ Pe w.2.1 ∧ Q3 w.2.2.1) w) (va_A (Wc ty h σ ((ho, .inl (ty 1, 1, .inr (.inl o))) :: (PXf ty h cA A0 (x0 :: xe :: xt :: P) ++ pz))) sz) (gB v o)) (4 * K + 1) (308 * K + 6) (va_A (Wc ty h σ ((ho, .inl (ty 1, 1, .inr (.inl o))) :: (PXf ty h cA A0 (x0 :: xe :: xt :: P) ++ pz))) sz) := by
  refine xMet.ofWH (cc := b_La_linear) (maxL := 9) (ret := (some .int)) (hh := [(0, 18, 21, 23), (0, 18, 25, 13), (0, 18, 29, 15), (0, 18, 33, 17)]) (by decide) rfl ?_
  intro p e s m args below meth c s₁ B hml htab hv
  obtain ⟨ha, hsz, hP, hKA, hN, hNC, hX, hM, hD0⟩ := hv
  have hx := B.exec
  have hb := B.bytes
  have hr := B.returns
  have hg : ∀ w ∈ gw, w.before args s = true := fun w h9 => atoms_spec (ws := w_La_linear) B.pre w (List.mem_cons_of_mem _ h9)
  have hown : s.vm.findClass "ClauseLedgerLaw" = some m.cls := findClass_of_methodNamed B.named
  have hlocks := B.notSynchronized
  subst hsz
  have hD := hD0.self (sz := s.heap.size)
  generalize hAe : va_A (Wc ty h σ ((ho, .inl (ty 1, 1, .inr (.inl o))) :: (PXf ty h cA A0 (x0 :: xe :: xt :: P) ++ pz))) s.heap.size = A at hD hM hX ⊢
  have hA : ∀ q : Nat, s.heap.size ≤ q → A q := fun q h9 => by rw [← hAe]; exact Or.inr h9
  have hS : va_S A s.heap s.heap [] := va_S.rf
  have he : entryFrame m args 9 = entryFrame m ([.ref (h 0), .int a1, .int a2, .int a3, .int a4, .int a5, .int a6, .ref ho] : List Value).toArray 9 := by rw [ha]
  rw [he, lg_entry_eq]
  have hl := lv_entry ([.ref (h 0), .int a1, .int a2, .int a3, .int a4, .int a5, .int a6, .ref ho]) (n := 9) (Nat.le_of_ble_eq_true rfl)
  generalize (lg_sl ([.ref (h 0), .int a1, .int a2, .int a3, .int a4, .int a5, .int a6, .ref ho]) ++ List.replicate (9 - (lg_sl ([.ref (h 0), .int a1, .int a2, .int a3, .int a4, .int a5, .int a6, .ref ho])).length) Slot.unset).toArray = ls at hl ⊢
  have hl : lv_has ls 9 [(0, .ref (h 0)), (1, .int a1), (2, .int a2), (3, .int a3), (4, .int a4), (5, .int a5), (6, .int a6), (7, .ref ho)] := hl
  have hK : va_K D classes (Ta ty) s := hKA.sub [0, 1, 2, 3] rfl
  have hv : gB v o = gB v o := rfl
  generalize hvl : gB v o = vl
  replace hv := hvl.symm
  unfold gB at hv
  have hPw := zp_P hP WL_perm
  have hDw := zp_D hD WL_perm
  refine lv_aload hx hb d_La_linear_0 (lv_at hl 7 rfl) ?_
  refine lv_iconst (v := 0) hx hb d_La_linear_2 (by decide) ?_
  refine lv_aload_n hx hb d_La_linear_3 rfl (lv_at hl 0 rfl) ?_
  refine lv_iload_n hx hb d_La_linear_4 rfl (lv_at hl 1 rfl) ?_
  refine lv_iload_n hx hb d_La_linear_5 rfl (lv_at hl 2 rfl) ?_
  refine lv_iload_n hx hb d_La_linear_6 rfl (lv_at hl 3 rfl) ?_
  refine lv_iload hx hb d_La_linear_7 (lv_at hl 4 rfl) ?_
  refine lv_iload hx hb d_La_linear_9 (lv_at hl 5 rfl) ?_
  refine lv_iload hx hb d_La_linear_11 (lv_at hl 6 rfl) ?_
  refine x_callV (As := [.int a1, .int a2, .int a3, .int a4, .int a5, .int a6]) (rest := [.int 0, .ref ho]) ⟨hx, hb, hml, hown, hg⟩ (c_CL_linearB l hlt D ty h cA ((ho, .inl (ty 1, 1, .inr (.inl o))) :: pz) sa σ G Sp hac C A0 x0 xe xt P s.heap.size a1 a2 a3 a4 a5 a6 K Pe Q0 Q1 Q2 Q3 v h45 h49 hBI hPe hP0 hL1 hL2 hL3 hKK hsh hh1 hh2 hh3 h23 ht1 ht2 ht3 hfin hkE) ⟨callB_of 6 hg (gw_C m_1074) rfl rfl rfl (hg _ m_1) (hg _ m_1071) hd_CL_linearB ⟨(by simp only [headSpec, rm_La_linearB, rm_CL_linearB]; omega), (by simp only [headSpec, rm_La_linearB, rm_CL_linearB]; omega)⟩, hg _ m_1072, hg _ m_1073⟩ (zz_preX hM hN hX hS hA hKA hPw hDw 0 rfl rfl) rfl hl.1 rfl (Nat.le_of_ble_eq_true rfl) d_La_linear_13 ⟨by show 0 + (4 * K + 1) ≤ 4 * K + 1; omega, by show 0 + (308 * K + 6) ≤ 308 * K + 6; omega⟩ (fun r9 st9 t9 L9 h09 hal9 hR9 hL9 => ?_) (fun q9 st9 t9 L9 h09 h19 hal9 hR9 hL9 => ?_)
  · obtain ⟨w, hGd, hD9, hF9, hP9, x, rfl, hz9⟩ := hR9
    rw [hz9] at hv
    have hS := zz_xS hS h09 hF9 (zz_free hDw hS hA) hL9
    have hD : va_D A (Wc ty h v.2 ((ho, .inl (ty 1, 1, .inr (.inl o))) :: (PXf ty h cA w.1 (x0 :: (xe.1, w.2.1) :: (xt.1, w.2.2.1) :: w.2.2.2) ++ pz))) := zp_D (hD9.weaken (fun _ _ _ h9 => zz_free hDw va_S.rf hA _ h9)) (WL_perm (cA := cA)).symm
    have hP9 : va_P D classes (Wc ty h v.2 ((ho, .inl (ty 1, 1, .inr (.inl o))) :: (PXf ty h cA w.1 (x0 :: (xe.1, w.2.1) :: (xt.1, w.2.2.1) :: w.2.2.2) ++ pz))) t9.heap := zp_P hP9 (WL_perm (cA := cA)).symm
    refine W.eq (g2 := F0 m 16 ls [.int x, .int 0, .ref ho]) rfl ?_
    refine lv_i2l hx hb d_La_linear_16 rfl ?_
    refine va_last hx hb hK hP9 hD hS 36 1 rfl rfl (vp_in_iff.mpr (by decide)) d_La_linear_17 (fun H locs hP hD hS => ?_)
    have hP : va_P D classes (Wc ty h v.2 ((ho, .inl (ty 1, 1, .inr (.inl (vp_updL o 0 x.toInt64)))) :: (PXf ty h cA w.1 (x0 :: (xe.1, w.2.1) :: (xt.1, w.2.2.1) :: w.2.2.2) ++ pz))) H := hP
    have hD : va_D A (Wc ty h v.2 ((ho, .inl (ty 1, 1, .inr (.inl (vp_updL o 0 x.toInt64)))) :: (PXf ty h cA w.1 (x0 :: (xe.1, w.2.1) :: (xt.1, w.2.2.1) :: w.2.2.2) ++ pz))) := hD
    refine lv_goto (tgt := 37) hx hb d_La_linear_18 (by decide) ?_
    refine lv_iconst (v := 0) hx hb d_La_linear_37 (by decide) ?_
    exact x_ret (fun o t hq => by obtain ⟨rfl, ht⟩ := hq; exact ⟨_, ⟨w, rfl, hGd⟩, by rw [hv]; exact hD, hS.F ht, by rw [ht, hv]; exact hP, by rw [hv]⟩) (by omega) (by omega) (W.iret (Qc := fun _ _ o t => o = .returned (some (.int 0)) ∧ t.heap = H) hx hb hr (fun t ht hW => ⟨rfl, ht⟩) hS.2.2 d_La_linear_38)
  · obtain ⟨w, hGd, hD9, hF9, hP9, E9, ce9, hz9, hq9, hn9, hc9⟩ := hR9
    rw [hz9] at hv
    have hcl : s.vm.findClass (exN E9) = some ce9.cls := by rw [h19.findClass]; exact hc9
    have hk9 : ∃ k, s.vm.classes[ce9.cls]? = some k := by obtain ⟨k9, h9, -⟩ := Vm.findClass_spec hcl; exact ⟨k9, h9⟩
    have hS := zz_xS hS h09 hF9 (zz_free hDw hS hA) hL9
    have hP : va_P D classes (Wc ty h v.2 ((ho, .inl (ty 1, 1, .inr (.inl o))) :: (PXf ty h cA w.1 (x0 :: (xe.1, w.2.1) :: (xt.1, w.2.2.1) :: w.2.2.2) ++ pz))) t9.heap := zp_P hP9 (WL_perm (cA := cA)).symm
    have hD : va_D A (Wc ty h v.2 ((ho, .inl (ty 1, 1, .inr (.inl o))) :: (PXf ty h cA w.1 (x0 :: (xe.1, w.2.1) :: (xt.1, w.2.2.1) :: w.2.2.2) ++ pz))) := zp_D (hD9.weaken (fun _ _ _ h9 => zz_free hDw va_S.rf hA _ h9)) (WL_perm (cA := cA)).symm
    generalize t9.heap = H at hP hS hq9 ⊢
    rcases hE E9 hz9 with rfl | rfl | rfl | rfl
    · refine x_catch (h := 21) hq9 hn9 hk9 (fun pl hpl => xFindsH.to _ _ (by rw [htab]; exact xf_yes rfl (by decide) (xl_yes hown (hg _ m_906) (hN.use nw_917) hcl pl hpl))) ?_
      refine lv_astore (lv' := [(8, .ref q9), (0, .ref (h 0)), (1, .int a1), (2, .int a2), (3, .int a3), (4, .int a4), (5, .int a5), (6, .int a6), (7, .ref ho)]) hx hb d_La_linear_21 hl (by decide) rfl (fun ls hl => ?_)
      refine lv_iconst (v := 1) hx hb d_La_linear_23 (by decide) ?_
      exact x_ret (fun o t hq => by obtain ⟨rfl, ht⟩ := hq; exact ⟨_, ⟨w, rfl, hGd⟩, by rw [hv]; exact hD, hS.F ht, by rw [ht, hv]; exact hP, by rw [hv]; first | done | rfl⟩) (by omega) (by omega) (W.iret (Qc := fun _ _ o t => o = .returned (some (.int 1)) ∧ t.heap = H) hx hb hr (fun t ht hW => ⟨rfl, ht⟩) hS.2.2 d_La_linear_24)
    · refine x_catch (h := 25) hq9 hn9 hk9 (fun pl hpl => xFindsH.to _ _ (by rw [htab]; exact xf_no rfl (by decide) (xl_no hown (hg _ m_906) (hNC 2 (by decide) 1 (by decide) (by decide)) hcl pl hpl) (xf_yes rfl (by decide) (xl_yes hown (hg _ m_561) (hN.use nw_785) hcl pl hpl)))) ?_
      refine lv_astore (lv' := [(8, .ref q9), (0, .ref (h 0)), (1, .int a1), (2, .int a2), (3, .int a3), (4, .int a4), (5, .int a5), (6, .int a6), (7, .ref ho)]) hx hb d_La_linear_25 hl (by decide) rfl (fun ls hl => ?_)
      refine lv_iconst (v := 2) hx hb d_La_linear_27 (by decide) ?_
      exact x_ret (fun o t hq => by obtain ⟨rfl, ht⟩ := hq; exact ⟨_, ⟨w, rfl, hGd⟩, by rw [hv]; exact hD, hS.F ht, by rw [ht, hv]; exact hP, by rw [hv]; first | done | rfl⟩) (by omega) (by omega) (W.iret (Qc := fun _ _ o t => o = .returned (some (.int 2)) ∧ t.heap = H) hx hb hr (fun t ht hW => ⟨rfl, ht⟩) hS.2.2 d_La_linear_28)
    · refine x_catch (h := 29) hq9 hn9 hk9 (fun pl hpl => xFindsH.to _ _ (by rw [htab]; exact xf_no rfl (by decide) (xl_no hown (hg _ m_906) (hNC 3 (by decide) 1 (by decide) (by decide)) hcl pl hpl) (xf_no rfl (by decide) (xl_no hown (hg _ m_561) (hNC 3 (by decide) 2 (by decide) (by decide)) hcl pl hpl) (xf_yes rfl (by decide) (xl_yes hown (hg _ m_562) (hN.use nw_861) hcl pl hpl))))) ?_
      refine lv_astore (lv' := [(8, .ref q9), (0, .ref (h 0)), (1, .int a1), (2, .int a2), (3, .int a3), (4, .int a4), (5, .int a5), (6, .int a6), (7, .ref ho)]) hx hb d_La_linear_29 hl (by decide) rfl (fun ls hl => ?_)
      refine lv_iconst (v := 3) hx hb d_La_linear_31 (by decide) ?_
      exact x_ret (fun o t hq => by obtain ⟨rfl, ht⟩ := hq; exact ⟨_, ⟨w, rfl, hGd⟩, by rw [hv]; exact hD, hS.F ht, by rw [ht, hv]; exact hP, by rw [hv]; first | done | rfl⟩) (by omega) (by omega) (W.iret (Qc := fun _ _ o t => o = .returned (some (.int 3)) ∧ t.heap = H) hx hb hr (fun t ht hW => ⟨rfl, ht⟩) hS.2.2 d_La_linear_32)
    · refine x_catch (h := 33) hq9 hn9 hk9 (fun pl hpl => xFindsH.to _ _ (by rw [htab]; exact xf_no rfl (by decide) (xl_no hown (hg _ m_906) (hNC 4 (by decide) 1 (by decide) (by decide)) hcl pl hpl) (xf_no rfl (by decide) (xl_no hown (hg _ m_561) (hNC 4 (by decide) 2 (by decide) (by decide)) hcl pl hpl) (xf_no rfl (by decide) (xl_no hown (hg _ m_562) (hNC 4 (by decide) 3 (by decide) (by decide)) hcl pl hpl) (xf_yes rfl (by decide) (xl_yes hown (hg _ m_563) (hN.use nw_885) hcl pl hpl)))))) ?_
      refine lv_astore (lv' := [(8, .ref q9), (0, .ref (h 0)), (1, .int a1), (2, .int a2), (3, .int a3), (4, .int a4), (5, .int a5), (6, .int a6), (7, .ref ho)]) hx hb d_La_linear_33 hl (by decide) rfl (fun ls hl => ?_)
      refine lv_iconst (v := 4) hx hb d_La_linear_35 (by decide) ?_
      exact x_ret (fun o t hq => by obtain ⟨rfl, ht⟩ := hq; exact ⟨_, ⟨w, rfl, hGd⟩, by rw [hv]; exact hD, hS.F ht, by rw [ht, hv]; exact hP, by rw [hv]; first | done | rfl⟩) (by omega) (by omega) (W.iret (Qc := fun _ _ o t => o = .returned (some (.int 4)) ∧ t.heap = H) hx hb hr (fun t ht hW => ⟨rfl, ht⟩) hS.2.2 d_La_linear_36)

set_option maxHeartbeats 4000000 in
set_option maxRecDepth 100000 in
theorem la_13B {p : Program} {l : Launch} {e : Env} {s : State} {m : MethodId} {args : Array Value} {below : List Frame} {meth : Method} {c : Code} {H : Heap} {locs : List Loc} {cells slots : Nat} {Q : State → Prop} {b L i ho : Nat} {xs : Nat → Int32} {D : va_G} {ty sa h g : Nat → Nat} {px : va_W} {σ τ : St} {gl : XL} {KK : Nat} {cA : ClassId} {Gd : va_W → Prop} {o : Nat → Int64} {ls : Array Slot} (hlt : l.stackTraces = false) (C : lwC p s m args c b L xs D ty sa) (hi : i + 7 ≤ L) (hL : L < 2 ^ 31) (hcl : cells + (4 * KK + 1) ≤ room_1.cells) (hsl : slots + (308 * KK + 6) ≤ room_1.slots) (hl : lv_has ls 7 [(0, .ref b), (1, .ref (h 0)), (2, .ref (g 0)), (3, .ref ho), (4, .int (nI i))]) (hP : va_P D classes (Wc ty h σ ((ho, .inl (ty 1, 1, .inr (.inl o))) :: (px ++ Wm ty g (τ) []))) H) (hD : va_D (lA s) (Wc ty h σ ((ho, .inl (ty 1, 1, .inr (.inl o))) :: (px ++ Wm ty g (τ) [])))) (hS : va_S (lA s) s.heap H locs) (hKA : va_K D classes (TA ty cA) s) (HC : ∀ sz, xMet l y_La_linear w_La_linear (rm_La_linearB KK) (va_Pc [.ref (h 0), .int (xs (i + 1)), .int (xs (i + 2)), .int (xs (i + 3)), .int (xs (i + 4)), .int (xs (i + 5)), .int (xs (i + 6)), .ref ho] (fun U => U.heap.size = sz ∧ va_P D classes (Wc ty h σ ((ho, .inl (ty 1, 1, .inr (.inl o))) :: (px ++ Wm ty g (τ) []))) U.heap ∧ va_K D classes (TA ty cA) U ∧ NW U ∧ NC U ∧ XK sa (va_A (Wc ty h σ ((ho, .inl (ty 1, 1, .inr (.inl o))) :: (px ++ Wm ty g (τ) []))) sz) U U.heap ∧ MK sa (va_A (Wc ty h σ ((ho, .inl (ty 1, 1, .inr (.inl o))) :: (px ++ Wm ty g (τ) []))) sz) U U.heap ∧ va_D (fun _ => True) (Wc ty h σ ((ho, .inl (ty 1, 1, .inr (.inl o))) :: (px ++ Wm ty g (τ) []))))) (RlB D (fun w u z => Wc ty h u ((ho, .inl (ty 1, 1, .inr (.inl z))) :: (w ++ Wm ty g (τ) []))) Gd (va_A (Wc ty h σ ((ho, .inl (ty 1, 1, .inr (.inl o))) :: (px ++ Wm ty g (τ) []))) sz) gl) (4 * KK + 1) (308 * KK + 6) (va_A (Wc ty h σ ((ho, .inl (ty 1, 1, .inr (.inl o))) :: (px ++ Wm ty g (τ) []))) sz)) (hk2 : k_Mo_linear (xs (i + 1)) (xs (i + 2)) (xs (i + 3)) (xs (i + 4)) (xs (i + 5)) (xs (i + 6)) τ) (hA1 : (f_Mo_thrown ((f_Mo_linear (xs (i + 1)) (xs (i + 2)) (xs (i + 3)) (xs (i + 4)) (xs (i + 5)) (xs (i + 6)) (τ)).2)) = gl.1) (hA2 : gl.1 = 0 → gl.2.2 0 = (f_Mo_linear (xs (i + 1)) (xs (i + 2)) (xs (i + 3)) (xs (i + 4)) (xs (i + 5)) (xs (i + 6)) τ).1.toInt64)
    (K : ∀ (px1 : va_W), Gd px1 → ∀ (H : Heap) (locs : List Loc) (ls : Array Slot), lv_has ls 7 [(0, .ref b), (1, .ref (h 0)), (2, .ref (g 0)), (3, .ref ho), (4, .int (nI i))] → va_P D classes (Wc ty h (gl.2.1) ((ho, .inl (ty 1, 1, .inr (.inl (gl.2.2)))) :: (px1 ++ Wm ty g ((f_Mo_linear (xs (i + 1)) (xs (i + 2)) (xs (i + 3)) (xs (i + 4)) (xs (i + 5)) (xs (i + 6)) (τ)).2) []))) H → va_D (lA s) (Wc ty h (gl.2.1) ((ho, .inl (ty 1, 1, .inr (.inl (gl.2.2)))) :: (px1 ++ Wm ty g ((f_Mo_linear (xs (i + 1)) (xs (i + 2)) (xs (i + 3)) (xs (i + 4)) (xs (i + 5)) (xs (i + 6)) (τ)).2) []))) → va_S (lA s) s.heap H locs → W p l e room_1 s m args below meth c H locs (cells + (4 * KK + 1)) (slots + (308 * KK + 6)) Q (F0 m 979 ls [])) : W p l e room_1 s m args below meth c H locs cells slots Q (F0 m 864 ls []) := by
  obtain ⟨hx, hb, hml, hown, hg, hXs, hbl, hK, hN, hNC, hXK, hM⟩ := C
  have hcl0 : cells + (4 * KK + 1) + 0 ≤ room_1.cells := hcl
  have hsl0 : slots + (308 * KK + 6) + 0 ≤ room_1.slots := hsl
  refine lv_aload_n hx hb d_La_law_864 rfl (lv_at hl 1 rfl) ?_
  refine lv_aload_n hx hb d_La_law_865 rfl (lv_at hl 0 rfl) ?_
  refine lv_iload hx hb d_La_law_866 (lv_at hl 4 rfl) ?_
  refine lv_iconst (v := nI 1) hx hb d_La_law_868 (by decide) ?_
  refine lv_iadd hx hb d_La_law_869 ?_
  refine la_ld (k := 1) hx hb hXs hbl hS (by omega) (by omega) d_La_law_870 ?_
  refine lv_aload_n hx hb d_La_law_871 rfl (lv_at hl 0 rfl) ?_
  refine lv_iload hx hb d_La_law_872 (lv_at hl 4 rfl) ?_
  refine lv_iconst (v := nI 2) hx hb d_La_law_874 (by decide) ?_
  refine lv_iadd hx hb d_La_law_875 ?_
  refine la_ld (k := 2) hx hb hXs hbl hS (by omega) (by omega) d_La_law_876 ?_
  refine lv_aload_n hx hb d_La_law_877 rfl (lv_at hl 0 rfl) ?_
  refine lv_iload hx hb d_La_law_878 (lv_at hl 4 rfl) ?_
  refine lv_iconst (v := nI 3) hx hb d_La_law_880 (by decide) ?_
  refine lv_iadd hx hb d_La_law_881 ?_
  refine la_ld (k := 3) hx hb hXs hbl hS (by omega) (by omega) d_La_law_882 ?_
  refine lv_aload_n hx hb d_La_law_883 rfl (lv_at hl 0 rfl) ?_
  refine lv_iload hx hb d_La_law_884 (lv_at hl 4 rfl) ?_
  refine lv_iconst (v := nI 4) hx hb d_La_law_886 (by decide) ?_
  refine lv_iadd hx hb d_La_law_887 ?_
  refine la_ld (k := 4) hx hb hXs hbl hS (by omega) (by omega) d_La_law_888 ?_
  refine lv_aload_n hx hb d_La_law_889 rfl (lv_at hl 0 rfl) ?_
  refine lv_iload hx hb d_La_law_890 (lv_at hl 4 rfl) ?_
  refine lv_iconst (v := nI 5) hx hb d_La_law_892 (by decide) ?_
  refine lv_iadd hx hb d_La_law_893 ?_
  refine la_ld (k := 5) hx hb hXs hbl hS (by omega) (by omega) d_La_law_894 ?_
  refine lv_aload_n hx hb d_La_law_895 rfl (lv_at hl 0 rfl) ?_
  refine lv_iload hx hb d_La_law_896 (lv_at hl 4 rfl) ?_
  refine lv_bipush (v := nI 6) hx hb d_La_law_898 (by decide) ?_
  refine lv_iadd hx hb d_La_law_900 ?_
  refine la_ld (k := 6) hx hb hXs hbl hS (by omega) (by omega) d_La_law_901 ?_
  refine lv_aload_n hx hb d_La_law_902 rfl (lv_at hl 3 rfl) ?_
  refine x_callSW (As := [.ref (h 0), .int (xs (i + 1)), .int (xs (i + 2)), .int (xs (i + 3)), .int (xs (i + 4)), .int (xs (i + 5)), .int (xs (i + 6)), .ref ho]) (rest := []) (n := 8) (mc := 4 * KK + 1) (ms := 308 * KK + 6) ⟨hx, hb, hml, hown, hg⟩ (HC H.size) rfl rfl (Nat.le_of_ble_eq_true rfl) (Nat.le_of_ble_eq_true rfl) (pay_in hg (gw_C m_1070)) List.mem_cons_self (hg _ m_1070) (hg _ m_0) (hg _ m_1069) (hg _ m_1068) ⟨hd_La_linear.1, hd_La_linear.2.1⟩ (fun sig h9 => by have h8 := hd_La_linear.2.2; rw [h9] at h8; exact (Option.some.inj h8).symm) (zz_preL hM hN hNC hXK hS (lA_in s) hKA hP hD) rfl hl.1 rfl (Nat.le_of_ble_eq_true rfl) d_La_law_903 ⟨hcl, hsl⟩ (fun q9 st9 t9 h9 => by obtain ⟨w9, -, -, h8⟩ := h9; cases h8.2.2) (fun v9 st9 t9 L9 h09 hal9 hR9 hL9 => ?_)
  obtain ⟨px1, hGd, hD9, hF9, hP9, hv9⟩ := hR9
  cases hv9
  have hD0 := hD
  have hS0 := hS
  have hS := zz_xS hS h09 hF9 (zz_free hD hS (lA_in s)) hL9
  have hP := hP9
  have hD : va_D (lA s) (Wc ty h (gl.2.1) ((ho, .inl (ty 1, 1, .inr (.inl (gl.2.2)))) :: (px1 ++ Wm ty g (τ) []))) := hD9.weaken (fun _ _ _ h9 => zz_free hD0 hS0 (lA_in s) _ h9)
  generalize t9.heap = H at hP hS ⊢
  refine W.eq (g2 := F0 m 906 ls (.int gl.1 :: [])) rfl ?_
  refine lv_istore (lv' := [(5, .int gl.1), (0, .ref b), (1, .ref (h 0)), (2, .ref (g 0)), (3, .ref ho), (4, .int (nI i))]) hx hb d_La_law_906 hl (by decide) rfl (fun ls hl => ?_)
  refine lv_aload_n hx hb d_La_law_908 rfl (lv_at hl 3 rfl) ?_
  refine lv_aload_n hx hb d_La_law_909 rfl (lv_at hl 1 rfl) ?_
  refine lv_iload hx hb d_La_law_910 (lv_at hl 5 rfl) ?_
  refine lv_iconst (v := nI 1) hx hb d_La_law_912 (by decide) ?_
  refine lv_iadd hx hb d_La_law_913 ?_
  refine la_ld (k := 1) hx hb hXs hbl hS (by omega) (by omega) d_La_law_914 ?_
  refine lv_aload_n hx hb d_La_law_915 rfl (lv_at hl 1 rfl) ?_
  refine lv_iload hx hb d_La_law_916 (lv_at hl 5 rfl) ?_
  refine lv_iconst (v := nI 2) hx hb d_La_law_918 (by decide) ?_
  refine lv_iadd hx hb d_La_law_919 ?_
  refine la_ld (k := 2) hx hb hXs hbl hS (by omega) (by omega) d_La_law_920 ?_
  refine lv_aload_n hx hb d_La_law_921 rfl (lv_at hl 1 rfl) ?_
  refine lv_iload hx hb d_La_law_922 (lv_at hl 5 rfl) ?_
  refine lv_iconst (v := nI 3) hx hb d_La_law_924 (by decide) ?_
  refine lv_iadd hx hb d_La_law_925 ?_
  refine la_ld (k := 3) hx hb hXs hbl hS (by omega) (by omega) d_La_law_926 ?_
  refine lv_aload_n hx hb d_La_law_927 rfl (lv_at hl 1 rfl) ?_
  refine lv_iload hx hb d_La_law_928 (lv_at hl 5 rfl) ?_
  refine lv_iconst (v := nI 4) hx hb d_La_law_930 (by decide) ?_
  refine lv_iadd hx hb d_La_law_931 ?_
  refine la_ld (k := 4) hx hb hXs hbl hS (by omega) (by omega) d_La_law_932 ?_
  refine lv_aload_n hx hb d_La_law_933 rfl (lv_at hl 1 rfl) ?_
  refine lv_iload hx hb d_La_law_934 (lv_at hl 5 rfl) ?_
  refine lv_iconst (v := nI 5) hx hb d_La_law_936 (by decide) ?_
  refine lv_iadd hx hb d_La_law_937 ?_
  refine la_ld (k := 5) hx hb hXs hbl hS (by omega) (by omega) d_La_law_938 ?_
  refine lv_aload_n hx hb d_La_law_939 rfl (lv_at hl 1 rfl) ?_
  refine lv_iload hx hb d_La_law_940 (lv_at hl 5 rfl) ?_
  refine lv_bipush (v := nI 6) hx hb d_La_law_942 (by decide) ?_
  refine lv_iadd hx hb d_La_law_944 ?_
  refine la_ld (k := 6) hx hb hXs hbl hS (by omega) (by omega) d_La_law_945 ?_
  have hP : va_P D classes (Wm ty g (τ) (Wc ty h (gl.2.1) ((ho, .inl (ty 1, 1, .inr (.inl (gl.2.2)))) :: px1))) H := rotP (a := Wc ty h (gl.2.1) ((ho, .inl (ty 1, 1, .inr (.inl (gl.2.2)))) :: px1)) (b := Wm ty g (τ) []) hP
  have hD : va_D (lA s) (Wm ty g (τ) (Wc ty h (gl.2.1) ((ho, .inl (ty 1, 1, .inr (.inl (gl.2.2)))) :: px1))) := rotD (a := Wc ty h (gl.2.1) ((ho, .inl (ty 1, 1, .inr (.inl (gl.2.2)))) :: px1)) (b := Wm ty g (τ) []) hD
  refine va_calli (va_runV (As := [.int (xs (i + 1)), .int (xs (i + 2)), .int (xs (i + 3)), .int (xs (i + 4)), .int (xs (i + 5)), .int (xs (i + 6))]) (rest := []) ⟨hx, hb, hml, hown, hg⟩ (c_Mo_linear l D ty g (Wc ty h (gl.2.1) ((ho, .inl (ty 1, 1, .inr (.inl (gl.2.2)))) :: px1)) sa (τ) H.size (xs (i + 1)) (xs (i + 2)) (xs (i + 3)) (xs (i + 4)) (xs (i + 5)) (xs (i + 6)) hk2) ⟨callB_of 6 hg (gw_C m_1595) rfl rfl rfl (hg _ m_13) (hg _ m_1592) hd_Mo_linear ⟨Nat.le_of_ble_eq_true rfl, Nat.le_of_ble_eq_true rfl⟩, hg _ m_1593, hg _ m_1594⟩ (zz_preVW hM hS (lA_in s) hN hK hP hD 0 rfl rfl) rfl rfl hl.1 rfl (lv_room (Nat.le_of_ble_eq_true rfl)) d_La_law_946 ⟨hcl0, hsl0⟩) hS (fun q _ h9 => zz_free hD hS (lA_in s) q h9) (zz_free hD hS (lA_in s)) (fun r946 u946 t H locs ht hvm hp hP1 hz9 hk9 hS => ?_)
  rw [ht] at hP1
  obtain ⟨rfl, rfl⟩ : r946 = (f_Mo_linear (xs (i + 1)) (xs (i + 2)) (xs (i + 3)) (xs (i + 4)) (xs (i + 5)) (xs (i + 6)) (τ)).1 ∧ u946 = (f_Mo_linear (xs (i + 1)) (xs (i + 2)) (xs (i + 3)) (xs (i + 4)) (xs (i + 5)) (xs (i + 6)) (τ)).2 := by rw [← hp]; exact ⟨rfl, rfl⟩
  clear hp
  have hP : va_P D classes (Wm ty g ((f_Mo_linear (xs (i + 1)) (xs (i + 2)) (xs (i + 3)) (xs (i + 4)) (xs (i + 5)) (xs (i + 6)) (τ)).2) (Wc ty h (gl.2.1) ((ho, .inl (ty 1, 1, .inr (.inl (gl.2.2)))) :: px1))) H := hP1
  have hD : va_D (lA s) (Wm ty g ((f_Mo_linear (xs (i + 1)) (xs (i + 2)) (xs (i + 3)) (xs (i + 4)) (xs (i + 5)) (xs (i + 6)) (τ)).2) (Wc ty h (gl.2.1) ((ho, .inl (ty 1, 1, .inr (.inl (gl.2.2)))) :: px1))) := zz_D hD rfl
  have hP : va_P D classes (Wc ty h (gl.2.1) ((ho, .inl (ty 1, 1, .inr (.inl (gl.2.2)))) :: (px1 ++ Wm ty g ((f_Mo_linear (xs (i + 1)) (xs (i + 2)) (xs (i + 3)) (xs (i + 4)) (xs (i + 5)) (xs (i + 6)) (τ)).2) []))) H := rotP (a := Wm ty g ((f_Mo_linear (xs (i + 1)) (xs (i + 2)) (xs (i + 3)) (xs (i + 4)) (xs (i + 5)) (xs (i + 6)) (τ)).2) []) (b := Wc ty h (gl.2.1) ((ho, .inl (ty 1, 1, .inr (.inl (gl.2.2)))) :: px1)) hP
  have hD : va_D (lA s) (Wc ty h (gl.2.1) ((ho, .inl (ty 1, 1, .inr (.inl (gl.2.2)))) :: (px1 ++ Wm ty g ((f_Mo_linear (xs (i + 1)) (xs (i + 2)) (xs (i + 3)) (xs (i + 4)) (xs (i + 5)) (xs (i + 6)) (τ)).2) []))) := rotD (a := Wm ty g ((f_Mo_linear (xs (i + 1)) (xs (i + 2)) (xs (i + 3)) (xs (i + 4)) (xs (i + 5)) (xs (i + 6)) (τ)).2) []) (b := Wc ty h (gl.2.1) ((ho, .inl (ty 1, 1, .inr (.inl (gl.2.2)))) :: px1)) hD
  refine lv_istore (lv' := [(6, .int (f_Mo_linear (xs (i + 1)) (xs (i + 2)) (xs (i + 3)) (xs (i + 4)) (xs (i + 5)) (xs (i + 6)) (τ)).1), (5, .int gl.1), (0, .ref b), (1, .ref (h 0)), (2, .ref (g 0)), (3, .ref ho), (4, .int (nI i))]) hx hb d_La_law_949 hl (by decide) rfl (fun ls hl => ?_)
  refine lv_aload_n hx hb d_La_law_951 rfl (lv_at hl 4 rfl) ?_
  have hP : va_P D classes (Wm ty g ((f_Mo_linear (xs (i + 1)) (xs (i + 2)) (xs (i + 3)) (xs (i + 4)) (xs (i + 5)) (xs (i + 6)) (τ)).2) (Wc ty h (gl.2.1) ((ho, .inl (ty 1, 1, .inr (.inl (gl.2.2)))) :: px1))) H := rotP (a := Wc ty h (gl.2.1) ((ho, .inl (ty 1, 1, .inr (.inl (gl.2.2)))) :: px1)) (b := Wm ty g ((f_Mo_linear (xs (i + 1)) (xs (i + 2)) (xs (i + 3)) (xs (i + 4)) (xs (i + 5)) (xs (i + 6)) (τ)).2) []) hP
  have hD : va_D (lA s) (Wm ty g ((f_Mo_linear (xs (i + 1)) (xs (i + 2)) (xs (i + 3)) (xs (i + 4)) (xs (i + 5)) (xs (i + 6)) (τ)).2) (Wc ty h (gl.2.1) ((ho, .inl (ty 1, 1, .inr (.inl (gl.2.2)))) :: px1))) := rotD (a := Wc ty h (gl.2.1) ((ho, .inl (ty 1, 1, .inr (.inl (gl.2.2)))) :: px1)) (b := Wm ty g ((f_Mo_linear (xs (i + 1)) (xs (i + 2)) (xs (i + 3)) (xs (i + 4)) (xs (i + 5)) (xs (i + 6)) (τ)).2) []) hD
  refine zz_callV (va_runV (As := []) (rest := []) ⟨hx, hb, hml, hown, hg⟩ (c_Mo_thrown l D ty g (Wc ty h (gl.2.1) ((ho, .inl (ty 1, 1, .inr (.inl (gl.2.2)))) :: px1)) sa ((f_Mo_linear (xs (i + 1)) (xs (i + 2)) (xs (i + 3)) (xs (i + 4)) (xs (i + 5)) (xs (i + 6)) (τ)).2) trivial) ⟨callB_of 0 hg (gw_C m_1416) rfl rfl rfl (hg _ m_13) (hg _ m_1413) hd_Mo_thrown ⟨Nat.le_of_ble_eq_true rfl, Nat.le_of_ble_eq_true rfl⟩, hg _ m_1414, hg _ m_1415⟩ (zz_preV (hM.at hS) hN hK hP 0 rfl rfl) rfl rfl hl.1 rfl (lv_room (Nat.le_of_ble_eq_true rfl)) d_La_law_952 ⟨hcl0, hsl0⟩) ?_
  have hP : va_P D classes (Wc ty h (gl.2.1) ((ho, .inl (ty 1, 1, .inr (.inl (gl.2.2)))) :: (px1 ++ Wm ty g ((f_Mo_linear (xs (i + 1)) (xs (i + 2)) (xs (i + 3)) (xs (i + 4)) (xs (i + 5)) (xs (i + 6)) (τ)).2) []))) H := rotP (a := Wm ty g ((f_Mo_linear (xs (i + 1)) (xs (i + 2)) (xs (i + 3)) (xs (i + 4)) (xs (i + 5)) (xs (i + 6)) (τ)).2) []) (b := Wc ty h (gl.2.1) ((ho, .inl (ty 1, 1, .inr (.inl (gl.2.2)))) :: px1)) hP
  have hD : va_D (lA s) (Wc ty h (gl.2.1) ((ho, .inl (ty 1, 1, .inr (.inl (gl.2.2)))) :: (px1 ++ Wm ty g ((f_Mo_linear (xs (i + 1)) (xs (i + 2)) (xs (i + 3)) (xs (i + 4)) (xs (i + 5)) (xs (i + 6)) (τ)).2) []))) := rotD (a := Wm ty g ((f_Mo_linear (xs (i + 1)) (xs (i + 2)) (xs (i + 3)) (xs (i + 4)) (xs (i + 5)) (xs (i + 6)) (τ)).2) []) (b := Wc ty h (gl.2.1) ((ho, .inl (ty 1, 1, .inr (.inl (gl.2.2)))) :: px1)) hD
  refine lv_iload hx hb d_La_law_955 (lv_at hl 1 rfl) ?_
  refine lv_icmp_eq (tgt := 962) hx hb d_La_law_957 (by decide) (fun _ => ?_) (fun hc => absurd hA1 hc)
  refine lv_iload hx hb d_La_law_962 (lv_at hl 1 rfl) ?_
  refine lv_if_ne (tgt := 979) hx hb d_La_law_964 (by decide) (fun _ => ?_) (fun hc => ?_)
  · exact K px1 hGd _ _ _ (lv_sub hl [2, 3, 4, 5, 6] rfl) hP hD hS
  refine lv_aload_n hx hb d_La_law_967 rfl (lv_at hl 5 rfl) ?_
  refine lv_iconst (v := 0) hx hb d_La_law_968 (by decide) ?_
  refine va_lald hx hb hK hP 36 1 rfl rfl (vp_in_iff.mpr (by decide)) d_La_law_969 ?_
  refine lv_iload hx hb d_La_law_970 (lv_at hl 0 rfl) ?_
  refine lv_i2l hx hb d_La_law_972 rfl ?_
  refine W.lcmp hx hb d_La_law_973 ?_
  refine lv_if_eq (tgt := 979) hx hb d_La_law_974 (by decide) (fun _ => ?_) (fun hc2 => absurd ((lg_cmp_eq _ _).mpr (hA2 hc)) hc2)
  exact K px1 hGd _ _ _ (lv_sub hl [2, 3, 4, 5, 6] rfl) hP hD hS

