def NC (U : State) : Prop := ∀ i ∈ [1, 2, 3, 4], ∀ j ∈ [1, 2, 3, 4], i ≠ j → va_Nc (exN i) (exN j) U
theorem NC.moved {u U : State} (hv : u.vm.Alike U.vm) (h : NC u) : NC U := fun i hi j hj hne => va_Nc.moved hv (h i hi j hj hne)
abbrev XL : Type := Int32 × St × (Nat → Int64)
/-- the end of a wrapper: it returns v.1 and leaves the state v.2.1 and the cell v.2.2 -/
def Rl (D : va_G) (cl : List vw_C) (Wf : St → (Nat → Int64) → va_W) (A : Nat → Prop) (v : XL) : Array Value → State → Outcome → State → Prop := fun _ st o t => va_F A st t ∧ va_P D cl (Wf v.2.1 v.2.2) t.heap ∧ o = .returned (some (.int v.1))
theorem xl_yes {args : Array Value} {s : State} {own nm : String} {idx : Nat} {d d0 : ClassId} (hown : s.vm.findClass own = some d0) (hlink : (Cond.classLink own idx nm).before args s = true) (hcast : (Cond.castable nm nm).before args s = true) (hcl : s.vm.findClass nm = some d) (pl : Platform) (hpl : pl.magicAccessors = ({} : Platform).magicAccessors) : ∃ c, s.vm.ClassLinks pl d0 idx c ∧ s.vm.assignable d c = true := by
  obtain ⟨c, hc, hl⟩ := Cond.classLink_spec hown hlink pl hpl
  obtain ⟨c3, c4, h3, h4, ha⟩ := Cond.castable_spec hcast
  cases Option.some.inj (h3.symm.trans hcl)
  cases Option.some.inj (h4.symm.trans hc)
  exact ⟨_, hl, ha⟩
theorem xl_no {args : Array Value} {s : State} {own nm E : String} {idx : Nat} {d d0 : ClassId} (hown : s.vm.findClass own = some d0) (hlink : (Cond.classLink own idx nm).before args s = true) (hnc : va_Nc E nm s) (hcl : s.vm.findClass E = some d) (pl : Platform) (hpl : pl.magicAccessors = ({} : Platform).magicAccessors) : ∃ c, s.vm.ClassLinks pl d0 idx c ∧ s.vm.assignable d c = false := by
  obtain ⟨c, hc, hl⟩ := Cond.classLink_spec hown hlink pl hpl
  obtain ⟨c3, c4, h3, h4, ha⟩ := hnc
  cases Option.some.inj (h3.symm.trans hcl)
  cases Option.some.inj (h4.symm.trans hc)
  exact ⟨_, hl, ha⟩
theorem xf_yes {pl : Platform} {s : State} {d0 : ClassId} {pc : Nat} {d : ClassId} {y : Nat × Nat × Nat × Nat} {ys : List (Nat × Nat × Nat × Nat)} (hc : xCov y pc = true) (h0 : y.2.2.2 ≠ 0) (h : ∃ c, s.vm.ClassLinks pl d0 y.2.2.2 c ∧ s.vm.assignable d c = true) : xFindsH pl s d0 pc d (y :: ys) y.2.2.1 := by
  obtain ⟨c, h1, h2⟩ := h
  exact Or.inr ⟨hc, h0, c, h1, Or.inl ⟨h2, rfl⟩⟩
theorem xf_no {pl : Platform} {s : State} {d0 : ClassId} {pc : Nat} {d : ClassId} {y : Nat × Nat × Nat × Nat} {ys : List (Nat × Nat × Nat × Nat)} {k : Nat} (hc : xCov y pc = true) (h0 : y.2.2.2 ≠ 0) (h : ∃ c, s.vm.ClassLinks pl d0 y.2.2.2 c ∧ s.vm.assignable d c = false) (hf : xFindsH pl s d0 pc d ys k) : xFindsH pl s d0 pc d (y :: ys) k := by
  obtain ⟨c, h1, h2⟩ := h
  exact Or.inr ⟨hc, h0, c, h1, Or.inr ⟨h2, hf⟩⟩
-- ClauseLedgerLaw.term(LClauseLedger;[J)I
abbrev b_La_term : ByteArray := method_3_code
def y_La_term : MethodName := ⟨"ClauseLedgerLaw", "term", "(LClauseLedger;[J)I"⟩
theorem hd_La_term : y_La_term.cls ≠ "java/lang/invoke/MethodHandle" ∧ y_La_term.cls ≠ "java/lang/invoke/VarHandle" ∧ (parseMethodDescriptor y_La_term.desc).map (fun d => d.parameters.length) = some 2 := by decide +kernel
theorem d_La_term_0 : decode b_La_term 0 = .ok (.aload_n 1, 1) := by decide +kernel
theorem d_La_term_1 : decode b_La_term 1 = .ok (.iconst 0, 1) := by decide +kernel
theorem d_La_term_2 : decode b_La_term 2 = .ok (.aload_n 0, 1) := by decide +kernel
theorem d_La_term_3 : decode b_La_term 3 = .ok (.invokevirtual 7, 3) := by decide +kernel
theorem d_La_term_6 : decode b_La_term 6 = .ok (.i2l, 1) := by decide +kernel
theorem d_La_term_7 : decode b_La_term 7 = .ok (.lastore, 1) := by decide +kernel
theorem d_La_term_8 : decode b_La_term 8 = .ok (.goto 12, 3) := by decide +kernel
theorem d_La_term_11 : decode b_La_term 11 = .ok (.astore_n 2, 1) := by decide +kernel
theorem d_La_term_12 : decode b_La_term 12 = .ok (.iconst 1, 1) := by decide +kernel
theorem d_La_term_13 : decode b_La_term 13 = .ok (.ireturn, 1) := by decide +kernel
theorem d_La_term_14 : decode b_La_term 14 = .ok (.astore_n 2, 1) := by decide +kernel
theorem d_La_term_15 : decode b_La_term 15 = .ok (.iconst 2, 1) := by decide +kernel
theorem d_La_term_16 : decode b_La_term 16 = .ok (.ireturn, 1) := by decide +kernel
theorem d_La_term_17 : decode b_La_term 17 = .ok (.astore_n 2, 1) := by decide +kernel
theorem d_La_term_18 : decode b_La_term 18 = .ok (.iconst 3, 1) := by decide +kernel
theorem d_La_term_19 : decode b_La_term 19 = .ok (.ireturn, 1) := by decide +kernel
theorem d_La_term_20 : decode b_La_term 20 = .ok (.iconst 0, 1) := by decide +kernel
theorem d_La_term_21 : decode b_La_term 21 = .ok (.ireturn, 1) := by decide +kernel
def g_La_term (σ : St) (o : Nat → Int64) : XL := match (f_CL_term σ).1 with
  | .inl x => (0, (f_CL_term σ).2, vp_updL o 0 x.toInt64)
  | .inr E => (if E = 2 then 1 else if E = 3 then 2 else 3, (f_CL_term σ).2, o)
abbrev w_La_term : List Cond := Cond.codeWith y_La_term b_La_term 3 (some .int) [(0, 8, 11, 13), (0, 8, 14, 15), (0, 8, 17, 17)] :: gw
abbrev rm_La_term : Room := { frames := 89, cells := 1, slots := 6, locals := 2082 }
set_option maxHeartbeats 4000000 in
set_option maxRecDepth 100000 in
theorem c_La_term (l : Launch) (hlt : l.stackTraces = false) (D : va_G) (ty : Nat → ClassId) (h : Nat → Nat) (px : va_W) (sa : Nat → Nat) (ho : Nat) (o : Nat → Int64) (σ : St) (sz : Nat) (hk : k_CL_term σ) (hE : ∀ E, (f_CL_term σ).1 = .inr E → E = 2 ∨ E = 3 ∨ E = 4) : xMet l y_La_term w_La_term rm_La_term (va_Pc [.ref (h 0), .ref ho] (fun U => U.heap.size = sz ∧ va_P D classes (Wc ty h σ ((ho, .inl (ty 1, 1, .inr (.inl o))) :: px)) U.heap ∧ va_K D classes (Ta ty) U ∧ NW U ∧ NC U ∧ XK sa (va_A (Wc ty h σ ((ho, .inl (ty 1, 1, .inr (.inl o))) :: px)) sz) U U.heap ∧ MK sa (va_A (Wc ty h σ ((ho, .inl (ty 1, 1, .inr (.inl o))) :: px)) sz) U U.heap ∧ va_D (fun _ => True) (Wc ty h σ ((ho, .inl (ty 1, 1, .inr (.inl o))) :: px)))) (Rl D classes (fun u z => Wc ty h u ((ho, .inl (ty 1, 1, .inr (.inl z))) :: px)) (va_A (Wc ty h σ ((ho, .inl (ty 1, 1, .inr (.inl o))) :: px)) sz) (g_La_term σ o)) 1 6 (va_A (Wc ty h σ ((ho, .inl (ty 1, 1, .inr (.inl o))) :: px)) sz) := by
  refine xMet.ofWH (cc := b_La_term) (maxL := 3) (ret := (some .int)) (hh := [(0, 8, 11, 13), (0, 8, 14, 15), (0, 8, 17, 17)]) (by decide) rfl ?_
  intro p e s m args below meth c s₁ B hml htab hv
  obtain ⟨ha, hsz, hP, hK, hN, hNC, hX, hM, hD0⟩ := hv
  have hx := B.exec
  have hb := B.bytes
  have hr := B.returns
  have hg : ∀ w ∈ gw, w.before args s = true := fun w h9 => atoms_spec (ws := w_La_term) B.pre w (List.mem_cons_of_mem _ h9)
  have hown : s.vm.findClass "ClauseLedgerLaw" = some m.cls := findClass_of_methodNamed B.named
  have hlocks := B.notSynchronized
  subst hsz
  have hD := hD0.self (sz := s.heap.size)
  generalize hAe : va_A (Wc ty h σ ((ho, .inl (ty 1, 1, .inr (.inl o))) :: px)) s.heap.size = A at hD hM hX ⊢
  have hA : ∀ q : Nat, s.heap.size ≤ q → A q := fun q h9 => by rw [← hAe]; exact Or.inr h9
  have hS : va_S A s.heap s.heap [] := va_S.rf
  have he : entryFrame m args 3 = entryFrame m ([.ref (h 0), .ref ho] : List Value).toArray 3 := by rw [ha]
  rw [he, lg_entry_eq]
  have hl := lv_entry ([.ref (h 0), .ref ho]) (n := 3) (Nat.le_of_ble_eq_true rfl)
  generalize (lg_sl ([.ref (h 0), .ref ho]) ++ List.replicate (3 - (lg_sl ([.ref (h 0), .ref ho])).length) Slot.unset).toArray = ls at hl ⊢
  have hl : lv_has ls 3 [(0, .ref (h 0)), (1, .ref ho)] := hl
  generalize hv : g_La_term σ o = v
  replace hv := hv.symm
  unfold g_La_term at hv
  refine lv_aload_n hx hb d_La_term_0 rfl (lv_at hl 1 rfl) ?_
  refine lv_iconst (v := 0) hx hb d_La_term_1 (by decide) ?_
  refine lv_aload_n hx hb d_La_term_2 rfl (lv_at hl 0 rfl) ?_
  refine x_callV (As := []) (rest := [.int 0, .ref ho]) ⟨hx, hb, hml, hown, hg⟩ (c_CL_term l hlt D ty h ((ho, .inl (ty 1, 1, .inr (.inl o))) :: px) sa σ s.heap.size hk) ⟨callB_of 0 hg (gw_C m_567) rfl rfl rfl (hg _ m_1) (hg _ m_564) hd_CL_term ⟨Nat.le_of_ble_eq_true rfl, Nat.le_of_ble_eq_true rfl⟩, hg _ m_565, hg _ m_566⟩ (zz_preX hM hN hX hS hA hK hP hD 0 rfl rfl) rfl hl.1 rfl (Nat.le_of_ble_eq_true rfl) d_La_term_3 ⟨Nat.le_of_ble_eq_true rfl, Nat.le_of_ble_eq_true rfl⟩ (fun r9 st9 t9 L9 h09 hal9 hR9 hL9 => ?_) (fun q9 st9 t9 L9 h09 h19 hal9 hR9 hL9 => ?_)
  · obtain ⟨hF9, hP9, x, rfl, hz9⟩ := hR9
    rw [hz9] at hv
    have hS := zz_xS hS h09 hF9 (zz_free hD hS hA) hL9
    have hD : va_D A (Wc ty h (f_CL_term σ).2 ((ho, .inl (ty 1, 1, .inr (.inl o))) :: px)) := zz_D hD rfl
    refine W.eq (g2 := F0 m 6 ls [.int x, .int 0, .ref ho]) rfl ?_
    refine lv_i2l hx hb d_La_term_6 rfl ?_
    refine va_last hx hb hK hP9 hD hS 36 1 rfl rfl (vp_in_iff.mpr (by decide)) d_La_term_7 (fun H locs hP hD hS => ?_)
    have hP : va_P D classes (Wc ty h (f_CL_term σ).2 ((ho, .inl (ty 1, 1, .inr (.inl (vp_updL o 0 x.toInt64)))) :: px)) H := hP
    refine lv_goto (tgt := 20) hx hb d_La_term_8 (by decide) ?_
    refine lv_iconst (v := 0) hx hb d_La_term_20 (by decide) ?_
    exact x_ret (fun o t hq => by obtain ⟨rfl, ht⟩ := hq; exact ⟨hS.F ht, by rw [ht, hv]; exact hP, by rw [hv]⟩) (Nat.le_of_ble_eq_true rfl) (Nat.le_of_ble_eq_true rfl) (W.iret (Qc := fun _ _ o t => o = .returned (some (.int 0)) ∧ t.heap = H) hx hb hr (fun t ht hW => ⟨rfl, ht⟩) hS.2.2 d_La_term_21)
  · obtain ⟨hF9, hP9, E9, ce9, hz9, hq9, hn9, hc9⟩ := hR9
    rw [hz9] at hv
    have hcl : s.vm.findClass (exN E9) = some ce9.cls := by rw [h19.findClass]; exact hc9
    have hk9 : ∃ k, s.vm.classes[ce9.cls]? = some k := by obtain ⟨k9, h9, -⟩ := Vm.findClass_spec hcl; exact ⟨k9, h9⟩
    have hS := zz_xS hS h09 hF9 (zz_free hD hS hA) hL9
    have hP := hP9
    generalize t9.heap = H at hP hS hq9 ⊢
    rcases hE E9 hz9 with rfl | rfl | rfl
    · refine x_catch (h := 11) hq9 hn9 hk9 (fun pl hpl => xFindsH.to _ _ (by rw [htab]; exact xf_yes rfl (by decide) (xl_yes hown (hg _ m_561) (hN.use nw_785) hcl pl hpl))) ?_
      refine lv_astore_n (lv' := [(2, .ref q9), (0, .ref (h 0)), (1, .ref ho)]) hx hb d_La_term_11 rfl hl (by decide) rfl (fun ls hl => ?_)
      refine lv_iconst (v := 1) hx hb d_La_term_12 (by decide) ?_
      exact x_ret (fun o t hq => by obtain ⟨rfl, ht⟩ := hq; exact ⟨hS.F ht, by rw [ht, hv]; exact hP, by rw [hv]; first | done | rfl⟩) (Nat.le_of_ble_eq_true rfl) (Nat.le_of_ble_eq_true rfl) (W.iret (Qc := fun _ _ o t => o = .returned (some (.int 1)) ∧ t.heap = H) hx hb hr (fun t ht hW => ⟨rfl, ht⟩) hS.2.2 d_La_term_13)
    · refine x_catch (h := 14) hq9 hn9 hk9 (fun pl hpl => xFindsH.to _ _ (by rw [htab]; exact xf_no rfl (by decide) (xl_no hown (hg _ m_561) (hNC 3 (by decide) 2 (by decide) (by decide)) hcl pl hpl) (xf_yes rfl (by decide) (xl_yes hown (hg _ m_562) (hN.use nw_861) hcl pl hpl)))) ?_
      refine lv_astore_n (lv' := [(2, .ref q9), (0, .ref (h 0)), (1, .ref ho)]) hx hb d_La_term_14 rfl hl (by decide) rfl (fun ls hl => ?_)
      refine lv_iconst (v := 2) hx hb d_La_term_15 (by decide) ?_
      exact x_ret (fun o t hq => by obtain ⟨rfl, ht⟩ := hq; exact ⟨hS.F ht, by rw [ht, hv]; exact hP, by rw [hv]; first | done | rfl⟩) (Nat.le_of_ble_eq_true rfl) (Nat.le_of_ble_eq_true rfl) (W.iret (Qc := fun _ _ o t => o = .returned (some (.int 2)) ∧ t.heap = H) hx hb hr (fun t ht hW => ⟨rfl, ht⟩) hS.2.2 d_La_term_16)
    · refine x_catch (h := 17) hq9 hn9 hk9 (fun pl hpl => xFindsH.to _ _ (by rw [htab]; exact xf_no rfl (by decide) (xl_no hown (hg _ m_561) (hNC 4 (by decide) 2 (by decide) (by decide)) hcl pl hpl) (xf_no rfl (by decide) (xl_no hown (hg _ m_562) (hNC 4 (by decide) 3 (by decide) (by decide)) hcl pl hpl) (xf_yes rfl (by decide) (xl_yes hown (hg _ m_563) (hN.use nw_885) hcl pl hpl))))) ?_
      refine lv_astore_n (lv' := [(2, .ref q9), (0, .ref (h 0)), (1, .ref ho)]) hx hb d_La_term_17 rfl hl (by decide) rfl (fun ls hl => ?_)
      refine lv_iconst (v := 3) hx hb d_La_term_18 (by decide) ?_
      exact x_ret (fun o t hq => by obtain ⟨rfl, ht⟩ := hq; exact ⟨hS.F ht, by rw [ht, hv]; exact hP, by rw [hv]; first | done | rfl⟩) (Nat.le_of_ble_eq_true rfl) (Nat.le_of_ble_eq_true rfl) (W.iret (Qc := fun _ _ o t => o = .returned (some (.int 3)) ∧ t.heap = H) hx hb hr (fun t ht hW => ⟨rfl, ht⟩) hS.2.2 d_La_term_19)

-- ClauseLedgerLaw.assume(LClauseLedger;I[J)I
abbrev b_La_assume : ByteArray := method_4_code
def y_La_assume : MethodName := ⟨"ClauseLedgerLaw", "assume", "(LClauseLedger;I[J)I"⟩
theorem hd_La_assume : y_La_assume.cls ≠ "java/lang/invoke/MethodHandle" ∧ y_La_assume.cls ≠ "java/lang/invoke/VarHandle" ∧ (parseMethodDescriptor y_La_assume.desc).map (fun d => d.parameters.length) = some 3 := by decide +kernel
theorem d_La_assume_0 : decode b_La_assume 0 = .ok (.aload_n 2, 1) := by decide +kernel
theorem d_La_assume_1 : decode b_La_assume 1 = .ok (.iconst 0, 1) := by decide +kernel
theorem d_La_assume_2 : decode b_La_assume 2 = .ok (.aload_n 0, 1) := by decide +kernel
theorem d_La_assume_3 : decode b_La_assume 3 = .ok (.iload_n 1, 1) := by decide +kernel
theorem d_La_assume_4 : decode b_La_assume 4 = .ok (.invokevirtual 19, 3) := by decide +kernel
theorem d_La_assume_7 : decode b_La_assume 7 = .ok (.i2l, 1) := by decide +kernel
theorem d_La_assume_8 : decode b_La_assume 8 = .ok (.lastore, 1) := by decide +kernel
theorem d_La_assume_9 : decode b_La_assume 9 = .ok (.goto 12, 3) := by decide +kernel
theorem d_La_assume_12 : decode b_La_assume 12 = .ok (.astore_n 3, 1) := by decide +kernel
theorem d_La_assume_13 : decode b_La_assume 13 = .ok (.iconst 1, 1) := by decide +kernel
theorem d_La_assume_14 : decode b_La_assume 14 = .ok (.ireturn, 1) := by decide +kernel
theorem d_La_assume_15 : decode b_La_assume 15 = .ok (.astore_n 3, 1) := by decide +kernel
theorem d_La_assume_16 : decode b_La_assume 16 = .ok (.iconst 2, 1) := by decide +kernel
theorem d_La_assume_17 : decode b_La_assume 17 = .ok (.ireturn, 1) := by decide +kernel
theorem d_La_assume_18 : decode b_La_assume 18 = .ok (.astore_n 3, 1) := by decide +kernel
theorem d_La_assume_19 : decode b_La_assume 19 = .ok (.iconst 3, 1) := by decide +kernel
theorem d_La_assume_20 : decode b_La_assume 20 = .ok (.ireturn, 1) := by decide +kernel
theorem d_La_assume_21 : decode b_La_assume 21 = .ok (.iconst 0, 1) := by decide +kernel
theorem d_La_assume_22 : decode b_La_assume 22 = .ok (.ireturn, 1) := by decide +kernel
def g_La_assume (a1 : Int32) (σ : St) (o : Nat → Int64) : XL := match (f_CL_assume a1 σ).1 with
  | .inl x => (0, (f_CL_assume a1 σ).2, vp_updL o 0 x.toInt64)
  | .inr E => (if E = 1 then 1 else if E = 2 then 2 else 3, (f_CL_assume a1 σ).2, o)
abbrev w_La_assume : List Cond := Cond.codeWith y_La_assume b_La_assume 4 (some .int) [(0, 9, 12, 23), (0, 9, 15, 13), (0, 9, 18, 17)] :: gw
abbrev rm_La_assume : Room := { frames := 9, cells := 1, slots := 6, locals := 163 }
set_option maxHeartbeats 4000000 in
set_option maxRecDepth 100000 in
theorem c_La_assume (l : Launch) (hlt : l.stackTraces = false) (D : va_G) (ty : Nat → ClassId) (h : Nat → Nat) (px : va_W) (sa : Nat → Nat) (ho : Nat) (o : Nat → Int64) (σ : St) (sz : Nat) (a1 : Int32) (hk : k_CL_assume a1 σ) (hE : ∀ E, (f_CL_assume a1 σ).1 = .inr E → E = 1 ∨ E = 2 ∨ E = 4) : xMet l y_La_assume w_La_assume rm_La_assume (va_Pc [.ref (h 0), .int a1, .ref ho] (fun U => U.heap.size = sz ∧ va_P D classes (Wc ty h σ ((ho, .inl (ty 1, 1, .inr (.inl o))) :: px)) U.heap ∧ va_K D classes (Ta ty) U ∧ NW U ∧ NC U ∧ XK sa (va_A (Wc ty h σ ((ho, .inl (ty 1, 1, .inr (.inl o))) :: px)) sz) U U.heap ∧ MK sa (va_A (Wc ty h σ ((ho, .inl (ty 1, 1, .inr (.inl o))) :: px)) sz) U U.heap ∧ va_D (fun _ => True) (Wc ty h σ ((ho, .inl (ty 1, 1, .inr (.inl o))) :: px)))) (Rl D classes (fun u z => Wc ty h u ((ho, .inl (ty 1, 1, .inr (.inl z))) :: px)) (va_A (Wc ty h σ ((ho, .inl (ty 1, 1, .inr (.inl o))) :: px)) sz) (g_La_assume a1 σ o)) 1 6 (va_A (Wc ty h σ ((ho, .inl (ty 1, 1, .inr (.inl o))) :: px)) sz) := by
  refine xMet.ofWH (cc := b_La_assume) (maxL := 4) (ret := (some .int)) (hh := [(0, 9, 12, 23), (0, 9, 15, 13), (0, 9, 18, 17)]) (by decide) rfl ?_
  intro p e s m args below meth c s₁ B hml htab hv
  obtain ⟨ha, hsz, hP, hK, hN, hNC, hX, hM, hD0⟩ := hv
  have hx := B.exec
  have hb := B.bytes
  have hr := B.returns
  have hg : ∀ w ∈ gw, w.before args s = true := fun w h9 => atoms_spec (ws := w_La_assume) B.pre w (List.mem_cons_of_mem _ h9)
  have hown : s.vm.findClass "ClauseLedgerLaw" = some m.cls := findClass_of_methodNamed B.named
  have hlocks := B.notSynchronized
  subst hsz
  have hD := hD0.self (sz := s.heap.size)
  generalize hAe : va_A (Wc ty h σ ((ho, .inl (ty 1, 1, .inr (.inl o))) :: px)) s.heap.size = A at hD hM hX ⊢
  have hA : ∀ q : Nat, s.heap.size ≤ q → A q := fun q h9 => by rw [← hAe]; exact Or.inr h9
  have hS : va_S A s.heap s.heap [] := va_S.rf
  have he : entryFrame m args 4 = entryFrame m ([.ref (h 0), .int a1, .ref ho] : List Value).toArray 4 := by rw [ha]
  rw [he, lg_entry_eq]
  have hl := lv_entry ([.ref (h 0), .int a1, .ref ho]) (n := 4) (Nat.le_of_ble_eq_true rfl)
  generalize (lg_sl ([.ref (h 0), .int a1, .ref ho]) ++ List.replicate (4 - (lg_sl ([.ref (h 0), .int a1, .ref ho])).length) Slot.unset).toArray = ls at hl ⊢
  have hl : lv_has ls 4 [(0, .ref (h 0)), (1, .int a1), (2, .ref ho)] := hl
  generalize hv : g_La_assume a1 σ o = v
  replace hv := hv.symm
  unfold g_La_assume at hv
  refine lv_aload_n hx hb d_La_assume_0 rfl (lv_at hl 2 rfl) ?_
  refine lv_iconst (v := 0) hx hb d_La_assume_1 (by decide) ?_
  refine lv_aload_n hx hb d_La_assume_2 rfl (lv_at hl 0 rfl) ?_
  refine lv_iload_n hx hb d_La_assume_3 rfl (lv_at hl 1 rfl) ?_
  refine x_callV (As := [.int a1]) (rest := [.int 0, .ref ho]) ⟨hx, hb, hml, hown, hg⟩ (c_CL_assume l hlt D ty h ((ho, .inl (ty 1, 1, .inr (.inl o))) :: px) sa σ s.heap.size a1 hk) ⟨callB_of 1 hg (gw_C m_910) rfl rfl rfl (hg _ m_1) (hg _ m_907) hd_CL_assume ⟨Nat.le_of_ble_eq_true rfl, Nat.le_of_ble_eq_true rfl⟩, hg _ m_908, hg _ m_909⟩ (zz_preX hM hN hX hS hA hK hP hD 0 rfl rfl) rfl hl.1 rfl (Nat.le_of_ble_eq_true rfl) d_La_assume_4 ⟨Nat.le_of_ble_eq_true rfl, Nat.le_of_ble_eq_true rfl⟩ (fun r9 st9 t9 L9 h09 hal9 hR9 hL9 => ?_) (fun q9 st9 t9 L9 h09 h19 hal9 hR9 hL9 => ?_)
  · obtain ⟨hF9, hP9, x, rfl, hz9⟩ := hR9
    rw [hz9] at hv
    have hS := zz_xS hS h09 hF9 (zz_free hD hS hA) hL9
    have hD : va_D A (Wc ty h (f_CL_assume a1 σ).2 ((ho, .inl (ty 1, 1, .inr (.inl o))) :: px)) := zz_D hD rfl
    refine W.eq (g2 := F0 m 7 ls [.int x, .int 0, .ref ho]) rfl ?_
    refine lv_i2l hx hb d_La_assume_7 rfl ?_
    refine va_last hx hb hK hP9 hD hS 36 1 rfl rfl (vp_in_iff.mpr (by decide)) d_La_assume_8 (fun H locs hP hD hS => ?_)
    have hP : va_P D classes (Wc ty h (f_CL_assume a1 σ).2 ((ho, .inl (ty 1, 1, .inr (.inl (vp_updL o 0 x.toInt64)))) :: px)) H := hP
    refine lv_goto (tgt := 21) hx hb d_La_assume_9 (by decide) ?_
    refine lv_iconst (v := 0) hx hb d_La_assume_21 (by decide) ?_
    exact x_ret (fun o t hq => by obtain ⟨rfl, ht⟩ := hq; exact ⟨hS.F ht, by rw [ht, hv]; exact hP, by rw [hv]⟩) (Nat.le_of_ble_eq_true rfl) (Nat.le_of_ble_eq_true rfl) (W.iret (Qc := fun _ _ o t => o = .returned (some (.int 0)) ∧ t.heap = H) hx hb hr (fun t ht hW => ⟨rfl, ht⟩) hS.2.2 d_La_assume_22)
  · obtain ⟨hF9, hP9, E9, ce9, hz9, hq9, hn9, hc9⟩ := hR9
    rw [hz9] at hv
    have hcl : s.vm.findClass (exN E9) = some ce9.cls := by rw [h19.findClass]; exact hc9
    have hk9 : ∃ k, s.vm.classes[ce9.cls]? = some k := by obtain ⟨k9, h9, -⟩ := Vm.findClass_spec hcl; exact ⟨k9, h9⟩
    have hS := zz_xS hS h09 hF9 (zz_free hD hS hA) hL9
    have hP := hP9
    generalize t9.heap = H at hP hS hq9 ⊢
    rcases hE E9 hz9 with rfl | rfl | rfl
    · refine x_catch (h := 12) hq9 hn9 hk9 (fun pl hpl => xFindsH.to _ _ (by rw [htab]; exact xf_yes rfl (by decide) (xl_yes hown (hg _ m_906) (hN.use nw_917) hcl pl hpl))) ?_
      refine lv_astore_n (lv' := [(3, .ref q9), (0, .ref (h 0)), (1, .int a1), (2, .ref ho)]) hx hb d_La_assume_12 rfl hl (by decide) rfl (fun ls hl => ?_)
      refine lv_iconst (v := 1) hx hb d_La_assume_13 (by decide) ?_
      exact x_ret (fun o t hq => by obtain ⟨rfl, ht⟩ := hq; exact ⟨hS.F ht, by rw [ht, hv]; exact hP, by rw [hv]; first | done | rfl⟩) (Nat.le_of_ble_eq_true rfl) (Nat.le_of_ble_eq_true rfl) (W.iret (Qc := fun _ _ o t => o = .returned (some (.int 1)) ∧ t.heap = H) hx hb hr (fun t ht hW => ⟨rfl, ht⟩) hS.2.2 d_La_assume_14)
    · refine x_catch (h := 15) hq9 hn9 hk9 (fun pl hpl => xFindsH.to _ _ (by rw [htab]; exact xf_no rfl (by decide) (xl_no hown (hg _ m_906) (hNC 2 (by decide) 1 (by decide) (by decide)) hcl pl hpl) (xf_yes rfl (by decide) (xl_yes hown (hg _ m_561) (hN.use nw_785) hcl pl hpl)))) ?_
      refine lv_astore_n (lv' := [(3, .ref q9), (0, .ref (h 0)), (1, .int a1), (2, .ref ho)]) hx hb d_La_assume_15 rfl hl (by decide) rfl (fun ls hl => ?_)
      refine lv_iconst (v := 2) hx hb d_La_assume_16 (by decide) ?_
      exact x_ret (fun o t hq => by obtain ⟨rfl, ht⟩ := hq; exact ⟨hS.F ht, by rw [ht, hv]; exact hP, by rw [hv]; first | done | rfl⟩) (Nat.le_of_ble_eq_true rfl) (Nat.le_of_ble_eq_true rfl) (W.iret (Qc := fun _ _ o t => o = .returned (some (.int 2)) ∧ t.heap = H) hx hb hr (fun t ht hW => ⟨rfl, ht⟩) hS.2.2 d_La_assume_17)
    · refine x_catch (h := 18) hq9 hn9 hk9 (fun pl hpl => xFindsH.to _ _ (by rw [htab]; exact xf_no rfl (by decide) (xl_no hown (hg _ m_906) (hNC 4 (by decide) 1 (by decide) (by decide)) hcl pl hpl) (xf_no rfl (by decide) (xl_no hown (hg _ m_561) (hNC 4 (by decide) 2 (by decide) (by decide)) hcl pl hpl) (xf_yes rfl (by decide) (xl_yes hown (hg _ m_563) (hN.use nw_885) hcl pl hpl))))) ?_
      refine lv_astore_n (lv' := [(3, .ref q9), (0, .ref (h 0)), (1, .int a1), (2, .ref ho)]) hx hb d_La_assume_18 rfl hl (by decide) rfl (fun ls hl => ?_)
      refine lv_iconst (v := 3) hx hb d_La_assume_19 (by decide) ?_
      exact x_ret (fun o t hq => by obtain ⟨rfl, ht⟩ := hq; exact ⟨hS.F ht, by rw [ht, hv]; exact hP, by rw [hv]; first | done | rfl⟩) (Nat.le_of_ble_eq_true rfl) (Nat.le_of_ble_eq_true rfl) (W.iret (Qc := fun _ _ o t => o = .returned (some (.int 3)) ∧ t.heap = H) hx hb hr (fun t ht hW => ⟨rfl, ht⟩) hS.2.2 d_La_assume_20)

-- ClauseLedgerLaw.cut(LClauseLedger;III[J)I
abbrev b_La_cut : ByteArray := method_5_code
def y_La_cut : MethodName := ⟨"ClauseLedgerLaw", "cut", "(LClauseLedger;III[J)I"⟩
theorem hd_La_cut : y_La_cut.cls ≠ "java/lang/invoke/MethodHandle" ∧ y_La_cut.cls ≠ "java/lang/invoke/VarHandle" ∧ (parseMethodDescriptor y_La_cut.desc).map (fun d => d.parameters.length) = some 5 := by decide +kernel
theorem d_La_cut_0 : decode b_La_cut 0 = .ok (.aload 4, 2) := by decide +kernel
theorem d_La_cut_2 : decode b_La_cut 2 = .ok (.iconst 0, 1) := by decide +kernel
theorem d_La_cut_3 : decode b_La_cut 3 = .ok (.aload_n 0, 1) := by decide +kernel
theorem d_La_cut_4 : decode b_La_cut 4 = .ok (.iload_n 1, 1) := by decide +kernel
theorem d_La_cut_5 : decode b_La_cut 5 = .ok (.iload_n 2, 1) := by decide +kernel
theorem d_La_cut_6 : decode b_La_cut 6 = .ok (.iload_n 3, 1) := by decide +kernel
theorem d_La_cut_7 : decode b_La_cut 7 = .ok (.invokevirtual 25, 3) := by decide +kernel
theorem d_La_cut_10 : decode b_La_cut 10 = .ok (.i2l, 1) := by decide +kernel
theorem d_La_cut_11 : decode b_La_cut 11 = .ok (.lastore, 1) := by decide +kernel
theorem d_La_cut_12 : decode b_La_cut 12 = .ok (.goto 19, 3) := by decide +kernel
theorem d_La_cut_15 : decode b_La_cut 15 = .ok (.astore 5, 2) := by decide +kernel
theorem d_La_cut_17 : decode b_La_cut 17 = .ok (.iconst 1, 1) := by decide +kernel
theorem d_La_cut_18 : decode b_La_cut 18 = .ok (.ireturn, 1) := by decide +kernel
theorem d_La_cut_19 : decode b_La_cut 19 = .ok (.astore 5, 2) := by decide +kernel
theorem d_La_cut_21 : decode b_La_cut 21 = .ok (.iconst 2, 1) := by decide +kernel
theorem d_La_cut_22 : decode b_La_cut 22 = .ok (.ireturn, 1) := by decide +kernel
theorem d_La_cut_23 : decode b_La_cut 23 = .ok (.astore 5, 2) := by decide +kernel
theorem d_La_cut_25 : decode b_La_cut 25 = .ok (.iconst 3, 1) := by decide +kernel
theorem d_La_cut_26 : decode b_La_cut 26 = .ok (.ireturn, 1) := by decide +kernel
theorem d_La_cut_27 : decode b_La_cut 27 = .ok (.astore 5, 2) := by decide +kernel
theorem d_La_cut_29 : decode b_La_cut 29 = .ok (.iconst 4, 1) := by decide +kernel
theorem d_La_cut_30 : decode b_La_cut 30 = .ok (.ireturn, 1) := by decide +kernel
theorem d_La_cut_31 : decode b_La_cut 31 = .ok (.iconst 0, 1) := by decide +kernel
theorem d_La_cut_32 : decode b_La_cut 32 = .ok (.ireturn, 1) := by decide +kernel
def g_La_cut (a1 : Int32) (a2 : Int32) (a3 : Int32) (σ : St) (o : Nat → Int64) : XL := match (f_CL_cut a1 a2 a3 σ).1 with
  | .inl x => (0, (f_CL_cut a1 a2 a3 σ).2, vp_updL o 0 x.toInt64)
  | .inr E => (if E = 1 then 1 else if E = 2 then 2 else if E = 3 then 3 else 4, (f_CL_cut a1 a2 a3 σ).2, o)
abbrev w_La_cut : List Cond := Cond.codeWith y_La_cut b_La_cut 6 (some .int) [(0, 12, 15, 23), (0, 12, 19, 13), (0, 12, 23, 15), (0, 12, 27, 17)] :: gw
abbrev rm_La_cut : Room := { frames := 9, cells := 1, slots := 6, locals := 166 }
set_option maxHeartbeats 4000000 in
set_option maxRecDepth 100000 in
theorem c_La_cut (l : Launch) (hlt : l.stackTraces = false) (D : va_G) (ty : Nat → ClassId) (h : Nat → Nat) (px : va_W) (sa : Nat → Nat) (ho : Nat) (o : Nat → Int64) (σ : St) (sz : Nat) (a1 : Int32) (a2 : Int32) (a3 : Int32) (hk : k_CL_cut a1 a2 a3 σ) (hE : ∀ E, (f_CL_cut a1 a2 a3 σ).1 = .inr E → E = 1 ∨ E = 2 ∨ E = 3 ∨ E = 4) : xMet l y_La_cut w_La_cut rm_La_cut (va_Pc [.ref (h 0), .int a1, .int a2, .int a3, .ref ho] (fun U => U.heap.size = sz ∧ va_P D classes (Wc ty h σ ((ho, .inl (ty 1, 1, .inr (.inl o))) :: px)) U.heap ∧ va_K D classes (Ta ty) U ∧ NW U ∧ NC U ∧ XK sa (va_A (Wc ty h σ ((ho, .inl (ty 1, 1, .inr (.inl o))) :: px)) sz) U U.heap ∧ MK sa (va_A (Wc ty h σ ((ho, .inl (ty 1, 1, .inr (.inl o))) :: px)) sz) U U.heap ∧ va_D (fun _ => True) (Wc ty h σ ((ho, .inl (ty 1, 1, .inr (.inl o))) :: px)))) (Rl D classes (fun u z => Wc ty h u ((ho, .inl (ty 1, 1, .inr (.inl z))) :: px)) (va_A (Wc ty h σ ((ho, .inl (ty 1, 1, .inr (.inl o))) :: px)) sz) (g_La_cut a1 a2 a3 σ o)) 1 6 (va_A (Wc ty h σ ((ho, .inl (ty 1, 1, .inr (.inl o))) :: px)) sz) := by
  refine xMet.ofWH (cc := b_La_cut) (maxL := 6) (ret := (some .int)) (hh := [(0, 12, 15, 23), (0, 12, 19, 13), (0, 12, 23, 15), (0, 12, 27, 17)]) (by decide) rfl ?_
  intro p e s m args below meth c s₁ B hml htab hv
  obtain ⟨ha, hsz, hP, hK, hN, hNC, hX, hM, hD0⟩ := hv
  have hx := B.exec
  have hb := B.bytes
  have hr := B.returns
  have hg : ∀ w ∈ gw, w.before args s = true := fun w h9 => atoms_spec (ws := w_La_cut) B.pre w (List.mem_cons_of_mem _ h9)
  have hown : s.vm.findClass "ClauseLedgerLaw" = some m.cls := findClass_of_methodNamed B.named
  have hlocks := B.notSynchronized
  subst hsz
  have hD := hD0.self (sz := s.heap.size)
  generalize hAe : va_A (Wc ty h σ ((ho, .inl (ty 1, 1, .inr (.inl o))) :: px)) s.heap.size = A at hD hM hX ⊢
  have hA : ∀ q : Nat, s.heap.size ≤ q → A q := fun q h9 => by rw [← hAe]; exact Or.inr h9
  have hS : va_S A s.heap s.heap [] := va_S.rf
  have he : entryFrame m args 6 = entryFrame m ([.ref (h 0), .int a1, .int a2, .int a3, .ref ho] : List Value).toArray 6 := by rw [ha]
  rw [he, lg_entry_eq]
  have hl := lv_entry ([.ref (h 0), .int a1, .int a2, .int a3, .ref ho]) (n := 6) (Nat.le_of_ble_eq_true rfl)
  generalize (lg_sl ([.ref (h 0), .int a1, .int a2, .int a3, .ref ho]) ++ List.replicate (6 - (lg_sl ([.ref (h 0), .int a1, .int a2, .int a3, .ref ho])).length) Slot.unset).toArray = ls at hl ⊢
  have hl : lv_has ls 6 [(0, .ref (h 0)), (1, .int a1), (2, .int a2), (3, .int a3), (4, .ref ho)] := hl
  generalize hv : g_La_cut a1 a2 a3 σ o = v
  replace hv := hv.symm
  unfold g_La_cut at hv
  refine lv_aload hx hb d_La_cut_0 (lv_at hl 4 rfl) ?_
  refine lv_iconst (v := 0) hx hb d_La_cut_2 (by decide) ?_
  refine lv_aload_n hx hb d_La_cut_3 rfl (lv_at hl 0 rfl) ?_
  refine lv_iload_n hx hb d_La_cut_4 rfl (lv_at hl 1 rfl) ?_
  refine lv_iload_n hx hb d_La_cut_5 rfl (lv_at hl 2 rfl) ?_
  refine lv_iload_n hx hb d_La_cut_6 rfl (lv_at hl 3 rfl) ?_
  refine x_callV (As := [.int a1, .int a2, .int a3]) (rest := [.int 0, .ref ho]) ⟨hx, hb, hml, hown, hg⟩ (c_CL_cut l hlt D ty h ((ho, .inl (ty 1, 1, .inr (.inl o))) :: px) sa σ s.heap.size a1 a2 a3 hk) ⟨callB_of 3 hg (gw_C m_973) rfl rfl rfl (hg _ m_1) (hg _ m_970) hd_CL_cut ⟨Nat.le_of_ble_eq_true rfl, Nat.le_of_ble_eq_true rfl⟩, hg _ m_971, hg _ m_972⟩ (zz_preX hM hN hX hS hA hK hP hD 0 rfl rfl) rfl hl.1 rfl (Nat.le_of_ble_eq_true rfl) d_La_cut_7 ⟨Nat.le_of_ble_eq_true rfl, Nat.le_of_ble_eq_true rfl⟩ (fun r9 st9 t9 L9 h09 hal9 hR9 hL9 => ?_) (fun q9 st9 t9 L9 h09 h19 hal9 hR9 hL9 => ?_)
  · obtain ⟨hF9, hP9, x, rfl, hz9⟩ := hR9
    rw [hz9] at hv
    have hS := zz_xS hS h09 hF9 (zz_free hD hS hA) hL9
    have hD : va_D A (Wc ty h (f_CL_cut a1 a2 a3 σ).2 ((ho, .inl (ty 1, 1, .inr (.inl o))) :: px)) := zz_D hD rfl
    refine W.eq (g2 := F0 m 10 ls [.int x, .int 0, .ref ho]) rfl ?_
    refine lv_i2l hx hb d_La_cut_10 rfl ?_
    refine va_last hx hb hK hP9 hD hS 36 1 rfl rfl (vp_in_iff.mpr (by decide)) d_La_cut_11 (fun H locs hP hD hS => ?_)
    have hP : va_P D classes (Wc ty h (f_CL_cut a1 a2 a3 σ).2 ((ho, .inl (ty 1, 1, .inr (.inl (vp_updL o 0 x.toInt64)))) :: px)) H := hP
    refine lv_goto (tgt := 31) hx hb d_La_cut_12 (by decide) ?_
    refine lv_iconst (v := 0) hx hb d_La_cut_31 (by decide) ?_
    exact x_ret (fun o t hq => by obtain ⟨rfl, ht⟩ := hq; exact ⟨hS.F ht, by rw [ht, hv]; exact hP, by rw [hv]⟩) (Nat.le_of_ble_eq_true rfl) (Nat.le_of_ble_eq_true rfl) (W.iret (Qc := fun _ _ o t => o = .returned (some (.int 0)) ∧ t.heap = H) hx hb hr (fun t ht hW => ⟨rfl, ht⟩) hS.2.2 d_La_cut_32)
  · obtain ⟨hF9, hP9, E9, ce9, hz9, hq9, hn9, hc9⟩ := hR9
    rw [hz9] at hv
    have hcl : s.vm.findClass (exN E9) = some ce9.cls := by rw [h19.findClass]; exact hc9
    have hk9 : ∃ k, s.vm.classes[ce9.cls]? = some k := by obtain ⟨k9, h9, -⟩ := Vm.findClass_spec hcl; exact ⟨k9, h9⟩
    have hS := zz_xS hS h09 hF9 (zz_free hD hS hA) hL9
    have hP := hP9
    generalize t9.heap = H at hP hS hq9 ⊢
    rcases hE E9 hz9 with rfl | rfl | rfl | rfl
    · refine x_catch (h := 15) hq9 hn9 hk9 (fun pl hpl => xFindsH.to _ _ (by rw [htab]; exact xf_yes rfl (by decide) (xl_yes hown (hg _ m_906) (hN.use nw_917) hcl pl hpl))) ?_
      refine lv_astore (lv' := [(5, .ref q9), (0, .ref (h 0)), (1, .int a1), (2, .int a2), (3, .int a3), (4, .ref ho)]) hx hb d_La_cut_15 hl (by decide) rfl (fun ls hl => ?_)
      refine lv_iconst (v := 1) hx hb d_La_cut_17 (by decide) ?_
      exact x_ret (fun o t hq => by obtain ⟨rfl, ht⟩ := hq; exact ⟨hS.F ht, by rw [ht, hv]; exact hP, by rw [hv]; first | done | rfl⟩) (Nat.le_of_ble_eq_true rfl) (Nat.le_of_ble_eq_true rfl) (W.iret (Qc := fun _ _ o t => o = .returned (some (.int 1)) ∧ t.heap = H) hx hb hr (fun t ht hW => ⟨rfl, ht⟩) hS.2.2 d_La_cut_18)
    · refine x_catch (h := 19) hq9 hn9 hk9 (fun pl hpl => xFindsH.to _ _ (by rw [htab]; exact xf_no rfl (by decide) (xl_no hown (hg _ m_906) (hNC 2 (by decide) 1 (by decide) (by decide)) hcl pl hpl) (xf_yes rfl (by decide) (xl_yes hown (hg _ m_561) (hN.use nw_785) hcl pl hpl)))) ?_
      refine lv_astore (lv' := [(5, .ref q9), (0, .ref (h 0)), (1, .int a1), (2, .int a2), (3, .int a3), (4, .ref ho)]) hx hb d_La_cut_19 hl (by decide) rfl (fun ls hl => ?_)
      refine lv_iconst (v := 2) hx hb d_La_cut_21 (by decide) ?_
      exact x_ret (fun o t hq => by obtain ⟨rfl, ht⟩ := hq; exact ⟨hS.F ht, by rw [ht, hv]; exact hP, by rw [hv]; first | done | rfl⟩) (Nat.le_of_ble_eq_true rfl) (Nat.le_of_ble_eq_true rfl) (W.iret (Qc := fun _ _ o t => o = .returned (some (.int 2)) ∧ t.heap = H) hx hb hr (fun t ht hW => ⟨rfl, ht⟩) hS.2.2 d_La_cut_22)
    · refine x_catch (h := 23) hq9 hn9 hk9 (fun pl hpl => xFindsH.to _ _ (by rw [htab]; exact xf_no rfl (by decide) (xl_no hown (hg _ m_906) (hNC 3 (by decide) 1 (by decide) (by decide)) hcl pl hpl) (xf_no rfl (by decide) (xl_no hown (hg _ m_561) (hNC 3 (by decide) 2 (by decide) (by decide)) hcl pl hpl) (xf_yes rfl (by decide) (xl_yes hown (hg _ m_562) (hN.use nw_861) hcl pl hpl))))) ?_
      refine lv_astore (lv' := [(5, .ref q9), (0, .ref (h 0)), (1, .int a1), (2, .int a2), (3, .int a3), (4, .ref ho)]) hx hb d_La_cut_23 hl (by decide) rfl (fun ls hl => ?_)
      refine lv_iconst (v := 3) hx hb d_La_cut_25 (by decide) ?_
      exact x_ret (fun o t hq => by obtain ⟨rfl, ht⟩ := hq; exact ⟨hS.F ht, by rw [ht, hv]; exact hP, by rw [hv]; first | done | rfl⟩) (Nat.le_of_ble_eq_true rfl) (Nat.le_of_ble_eq_true rfl) (W.iret (Qc := fun _ _ o t => o = .returned (some (.int 3)) ∧ t.heap = H) hx hb hr (fun t ht hW => ⟨rfl, ht⟩) hS.2.2 d_La_cut_26)
    · refine x_catch (h := 27) hq9 hn9 hk9 (fun pl hpl => xFindsH.to _ _ (by rw [htab]; exact xf_no rfl (by decide) (xl_no hown (hg _ m_906) (hNC 4 (by decide) 1 (by decide) (by decide)) hcl pl hpl) (xf_no rfl (by decide) (xl_no hown (hg _ m_561) (hNC 4 (by decide) 2 (by decide) (by decide)) hcl pl hpl) (xf_no rfl (by decide) (xl_no hown (hg _ m_562) (hNC 4 (by decide) 3 (by decide) (by decide)) hcl pl hpl) (xf_yes rfl (by decide) (xl_yes hown (hg _ m_563) (hN.use nw_885) hcl pl hpl)))))) ?_
      refine lv_astore (lv' := [(5, .ref q9), (0, .ref (h 0)), (1, .int a1), (2, .int a2), (3, .int a3), (4, .ref ho)]) hx hb d_La_cut_27 hl (by decide) rfl (fun ls hl => ?_)
      refine lv_iconst (v := 4) hx hb d_La_cut_29 (by decide) ?_
      exact x_ret (fun o t hq => by obtain ⟨rfl, ht⟩ := hq; exact ⟨hS.F ht, by rw [ht, hv]; exact hP, by rw [hv]; first | done | rfl⟩) (Nat.le_of_ble_eq_true rfl) (Nat.le_of_ble_eq_true rfl) (W.iret (Qc := fun _ _ o t => o = .returned (some (.int 4)) ∧ t.heap = H) hx hb hr (fun t ht hW => ⟨rfl, ht⟩) hS.2.2 d_La_cut_30)

-- ClauseLedgerLaw.widen(LClauseLedger;II[J)I
abbrev b_La_widen : ByteArray := method_6_code
def y_La_widen : MethodName := ⟨"ClauseLedgerLaw", "widen", "(LClauseLedger;II[J)I"⟩
theorem hd_La_widen : y_La_widen.cls ≠ "java/lang/invoke/MethodHandle" ∧ y_La_widen.cls ≠ "java/lang/invoke/VarHandle" ∧ (parseMethodDescriptor y_La_widen.desc).map (fun d => d.parameters.length) = some 4 := by decide +kernel
theorem d_La_widen_0 : decode b_La_widen 0 = .ok (.aload_n 3, 1) := by decide +kernel
theorem d_La_widen_1 : decode b_La_widen 1 = .ok (.iconst 0, 1) := by decide +kernel
theorem d_La_widen_2 : decode b_La_widen 2 = .ok (.aload_n 0, 1) := by decide +kernel
theorem d_La_widen_3 : decode b_La_widen 3 = .ok (.iload_n 1, 1) := by decide +kernel
theorem d_La_widen_4 : decode b_La_widen 4 = .ok (.iload_n 2, 1) := by decide +kernel
theorem d_La_widen_5 : decode b_La_widen 5 = .ok (.invokevirtual 29, 3) := by decide +kernel
theorem d_La_widen_8 : decode b_La_widen 8 = .ok (.i2l, 1) := by decide +kernel
theorem d_La_widen_9 : decode b_La_widen 9 = .ok (.lastore, 1) := by decide +kernel
theorem d_La_widen_10 : decode b_La_widen 10 = .ok (.goto 15, 3) := by decide +kernel
theorem d_La_widen_13 : decode b_La_widen 13 = .ok (.astore 4, 2) := by decide +kernel
theorem d_La_widen_15 : decode b_La_widen 15 = .ok (.iconst 1, 1) := by decide +kernel
theorem d_La_widen_16 : decode b_La_widen 16 = .ok (.ireturn, 1) := by decide +kernel
theorem d_La_widen_17 : decode b_La_widen 17 = .ok (.astore 4, 2) := by decide +kernel
theorem d_La_widen_19 : decode b_La_widen 19 = .ok (.iconst 2, 1) := by decide +kernel
theorem d_La_widen_20 : decode b_La_widen 20 = .ok (.ireturn, 1) := by decide +kernel
theorem d_La_widen_21 : decode b_La_widen 21 = .ok (.astore 4, 2) := by decide +kernel
theorem d_La_widen_23 : decode b_La_widen 23 = .ok (.iconst 3, 1) := by decide +kernel
theorem d_La_widen_24 : decode b_La_widen 24 = .ok (.ireturn, 1) := by decide +kernel
theorem d_La_widen_25 : decode b_La_widen 25 = .ok (.iconst 0, 1) := by decide +kernel
theorem d_La_widen_26 : decode b_La_widen 26 = .ok (.ireturn, 1) := by decide +kernel
def g_La_widen (a1 : Int32) (a2 : Int32) (σ : St) (o : Nat → Int64) : XL := match (f_CL_widen a1 a2 σ).1 with
  | .inl x => (0, (f_CL_widen a1 a2 σ).2, vp_updL o 0 x.toInt64)
  | .inr E => (if E = 1 then 1 else if E = 2 then 2 else 3, (f_CL_widen a1 a2 σ).2, o)
abbrev w_La_widen : List Cond := Cond.codeWith y_La_widen b_La_widen 5 (some .int) [(0, 10, 13, 23), (0, 10, 17, 13), (0, 10, 21, 17)] :: gw
abbrev rm_La_widen : Room := { frames := 9, cells := 1, slots := 6, locals := 164 }
set_option maxHeartbeats 4000000 in
set_option maxRecDepth 100000 in
theorem c_La_widen (l : Launch) (hlt : l.stackTraces = false) (D : va_G) (ty : Nat → ClassId) (h : Nat → Nat) (px : va_W) (sa : Nat → Nat) (ho : Nat) (o : Nat → Int64) (σ : St) (sz : Nat) (a1 : Int32) (a2 : Int32) (hk : k_CL_widen a1 a2 σ) (hE : ∀ E, (f_CL_widen a1 a2 σ).1 = .inr E → E = 1 ∨ E = 2 ∨ E = 4) : xMet l y_La_widen w_La_widen rm_La_widen (va_Pc [.ref (h 0), .int a1, .int a2, .ref ho] (fun U => U.heap.size = sz ∧ va_P D classes (Wc ty h σ ((ho, .inl (ty 1, 1, .inr (.inl o))) :: px)) U.heap ∧ va_K D classes (Ta ty) U ∧ NW U ∧ NC U ∧ XK sa (va_A (Wc ty h σ ((ho, .inl (ty 1, 1, .inr (.inl o))) :: px)) sz) U U.heap ∧ MK sa (va_A (Wc ty h σ ((ho, .inl (ty 1, 1, .inr (.inl o))) :: px)) sz) U U.heap ∧ va_D (fun _ => True) (Wc ty h σ ((ho, .inl (ty 1, 1, .inr (.inl o))) :: px)))) (Rl D classes (fun u z => Wc ty h u ((ho, .inl (ty 1, 1, .inr (.inl z))) :: px)) (va_A (Wc ty h σ ((ho, .inl (ty 1, 1, .inr (.inl o))) :: px)) sz) (g_La_widen a1 a2 σ o)) 1 6 (va_A (Wc ty h σ ((ho, .inl (ty 1, 1, .inr (.inl o))) :: px)) sz) := by
  refine xMet.ofWH (cc := b_La_widen) (maxL := 5) (ret := (some .int)) (hh := [(0, 10, 13, 23), (0, 10, 17, 13), (0, 10, 21, 17)]) (by decide) rfl ?_
  intro p e s m args below meth c s₁ B hml htab hv
  obtain ⟨ha, hsz, hP, hK, hN, hNC, hX, hM, hD0⟩ := hv
  have hx := B.exec
  have hb := B.bytes
  have hr := B.returns
  have hg : ∀ w ∈ gw, w.before args s = true := fun w h9 => atoms_spec (ws := w_La_widen) B.pre w (List.mem_cons_of_mem _ h9)
  have hown : s.vm.findClass "ClauseLedgerLaw" = some m.cls := findClass_of_methodNamed B.named
  have hlocks := B.notSynchronized
  subst hsz
  have hD := hD0.self (sz := s.heap.size)
  generalize hAe : va_A (Wc ty h σ ((ho, .inl (ty 1, 1, .inr (.inl o))) :: px)) s.heap.size = A at hD hM hX ⊢
  have hA : ∀ q : Nat, s.heap.size ≤ q → A q := fun q h9 => by rw [← hAe]; exact Or.inr h9
  have hS : va_S A s.heap s.heap [] := va_S.rf
  have he : entryFrame m args 5 = entryFrame m ([.ref (h 0), .int a1, .int a2, .ref ho] : List Value).toArray 5 := by rw [ha]
  rw [he, lg_entry_eq]
  have hl := lv_entry ([.ref (h 0), .int a1, .int a2, .ref ho]) (n := 5) (Nat.le_of_ble_eq_true rfl)
  generalize (lg_sl ([.ref (h 0), .int a1, .int a2, .ref ho]) ++ List.replicate (5 - (lg_sl ([.ref (h 0), .int a1, .int a2, .ref ho])).length) Slot.unset).toArray = ls at hl ⊢
  have hl : lv_has ls 5 [(0, .ref (h 0)), (1, .int a1), (2, .int a2), (3, .ref ho)] := hl
  generalize hv : g_La_widen a1 a2 σ o = v
  replace hv := hv.symm
  unfold g_La_widen at hv
  refine lv_aload_n hx hb d_La_widen_0 rfl (lv_at hl 3 rfl) ?_
  refine lv_iconst (v := 0) hx hb d_La_widen_1 (by decide) ?_
  refine lv_aload_n hx hb d_La_widen_2 rfl (lv_at hl 0 rfl) ?_
  refine lv_iload_n hx hb d_La_widen_3 rfl (lv_at hl 1 rfl) ?_
  refine lv_iload_n hx hb d_La_widen_4 rfl (lv_at hl 2 rfl) ?_
  refine x_callV (As := [.int a1, .int a2]) (rest := [.int 0, .ref ho]) ⟨hx, hb, hml, hown, hg⟩ (c_CL_widen l hlt D ty h ((ho, .inl (ty 1, 1, .inr (.inl o))) :: px) sa σ s.heap.size a1 a2 hk) ⟨callB_of 2 hg (gw_C m_995) rfl rfl rfl (hg _ m_1) (hg _ m_992) hd_CL_widen ⟨Nat.le_of_ble_eq_true rfl, Nat.le_of_ble_eq_true rfl⟩, hg _ m_993, hg _ m_994⟩ (zz_preX hM hN hX hS hA hK hP hD 0 rfl rfl) rfl hl.1 rfl (Nat.le_of_ble_eq_true rfl) d_La_widen_5 ⟨Nat.le_of_ble_eq_true rfl, Nat.le_of_ble_eq_true rfl⟩ (fun r9 st9 t9 L9 h09 hal9 hR9 hL9 => ?_) (fun q9 st9 t9 L9 h09 h19 hal9 hR9 hL9 => ?_)
  · obtain ⟨hF9, hP9, x, rfl, hz9⟩ := hR9
    rw [hz9] at hv
    have hS := zz_xS hS h09 hF9 (zz_free hD hS hA) hL9
    have hD : va_D A (Wc ty h (f_CL_widen a1 a2 σ).2 ((ho, .inl (ty 1, 1, .inr (.inl o))) :: px)) := zz_D hD rfl
    refine W.eq (g2 := F0 m 8 ls [.int x, .int 0, .ref ho]) rfl ?_
    refine lv_i2l hx hb d_La_widen_8 rfl ?_
    refine va_last hx hb hK hP9 hD hS 36 1 rfl rfl (vp_in_iff.mpr (by decide)) d_La_widen_9 (fun H locs hP hD hS => ?_)
    have hP : va_P D classes (Wc ty h (f_CL_widen a1 a2 σ).2 ((ho, .inl (ty 1, 1, .inr (.inl (vp_updL o 0 x.toInt64)))) :: px)) H := hP
    refine lv_goto (tgt := 25) hx hb d_La_widen_10 (by decide) ?_
    refine lv_iconst (v := 0) hx hb d_La_widen_25 (by decide) ?_
    exact x_ret (fun o t hq => by obtain ⟨rfl, ht⟩ := hq; exact ⟨hS.F ht, by rw [ht, hv]; exact hP, by rw [hv]⟩) (Nat.le_of_ble_eq_true rfl) (Nat.le_of_ble_eq_true rfl) (W.iret (Qc := fun _ _ o t => o = .returned (some (.int 0)) ∧ t.heap = H) hx hb hr (fun t ht hW => ⟨rfl, ht⟩) hS.2.2 d_La_widen_26)
  · obtain ⟨hF9, hP9, E9, ce9, hz9, hq9, hn9, hc9⟩ := hR9
    rw [hz9] at hv
    have hcl : s.vm.findClass (exN E9) = some ce9.cls := by rw [h19.findClass]; exact hc9
    have hk9 : ∃ k, s.vm.classes[ce9.cls]? = some k := by obtain ⟨k9, h9, -⟩ := Vm.findClass_spec hcl; exact ⟨k9, h9⟩
    have hS := zz_xS hS h09 hF9 (zz_free hD hS hA) hL9
    have hP := hP9
    generalize t9.heap = H at hP hS hq9 ⊢
    rcases hE E9 hz9 with rfl | rfl | rfl
    · refine x_catch (h := 13) hq9 hn9 hk9 (fun pl hpl => xFindsH.to _ _ (by rw [htab]; exact xf_yes rfl (by decide) (xl_yes hown (hg _ m_906) (hN.use nw_917) hcl pl hpl))) ?_
      refine lv_astore (lv' := [(4, .ref q9), (0, .ref (h 0)), (1, .int a1), (2, .int a2), (3, .ref ho)]) hx hb d_La_widen_13 hl (by decide) rfl (fun ls hl => ?_)
      refine lv_iconst (v := 1) hx hb d_La_widen_15 (by decide) ?_
      exact x_ret (fun o t hq => by obtain ⟨rfl, ht⟩ := hq; exact ⟨hS.F ht, by rw [ht, hv]; exact hP, by rw [hv]; first | done | rfl⟩) (Nat.le_of_ble_eq_true rfl) (Nat.le_of_ble_eq_true rfl) (W.iret (Qc := fun _ _ o t => o = .returned (some (.int 1)) ∧ t.heap = H) hx hb hr (fun t ht hW => ⟨rfl, ht⟩) hS.2.2 d_La_widen_16)
    · refine x_catch (h := 17) hq9 hn9 hk9 (fun pl hpl => xFindsH.to _ _ (by rw [htab]; exact xf_no rfl (by decide) (xl_no hown (hg _ m_906) (hNC 2 (by decide) 1 (by decide) (by decide)) hcl pl hpl) (xf_yes rfl (by decide) (xl_yes hown (hg _ m_561) (hN.use nw_785) hcl pl hpl)))) ?_
      refine lv_astore (lv' := [(4, .ref q9), (0, .ref (h 0)), (1, .int a1), (2, .int a2), (3, .ref ho)]) hx hb d_La_widen_17 hl (by decide) rfl (fun ls hl => ?_)
      refine lv_iconst (v := 2) hx hb d_La_widen_19 (by decide) ?_
      exact x_ret (fun o t hq => by obtain ⟨rfl, ht⟩ := hq; exact ⟨hS.F ht, by rw [ht, hv]; exact hP, by rw [hv]; first | done | rfl⟩) (Nat.le_of_ble_eq_true rfl) (Nat.le_of_ble_eq_true rfl) (W.iret (Qc := fun _ _ o t => o = .returned (some (.int 2)) ∧ t.heap = H) hx hb hr (fun t ht hW => ⟨rfl, ht⟩) hS.2.2 d_La_widen_20)
    · refine x_catch (h := 21) hq9 hn9 hk9 (fun pl hpl => xFindsH.to _ _ (by rw [htab]; exact xf_no rfl (by decide) (xl_no hown (hg _ m_906) (hNC 4 (by decide) 1 (by decide) (by decide)) hcl pl hpl) (xf_no rfl (by decide) (xl_no hown (hg _ m_561) (hNC 4 (by decide) 2 (by decide) (by decide)) hcl pl hpl) (xf_yes rfl (by decide) (xl_yes hown (hg _ m_563) (hN.use nw_885) hcl pl hpl))))) ?_
      refine lv_astore (lv' := [(4, .ref q9), (0, .ref (h 0)), (1, .int a1), (2, .int a2), (3, .ref ho)]) hx hb d_La_widen_21 hl (by decide) rfl (fun ls hl => ?_)
      refine lv_iconst (v := 3) hx hb d_La_widen_23 (by decide) ?_
      exact x_ret (fun o t hq => by obtain ⟨rfl, ht⟩ := hq; exact ⟨hS.F ht, by rw [ht, hv]; exact hP, by rw [hv]; first | done | rfl⟩) (Nat.le_of_ble_eq_true rfl) (Nat.le_of_ble_eq_true rfl) (W.iret (Qc := fun _ _ o t => o = .returned (some (.int 3)) ∧ t.heap = H) hx hb hr (fun t ht hW => ⟨rfl, ht⟩) hS.2.2 d_La_widen_24)

-- ClauseLedgerLaw.meaning(LClauseLedger;II[J)I
abbrev b_La_meaning : ByteArray := method_7_code
def y_La_meaning : MethodName := ⟨"ClauseLedgerLaw", "meaning", "(LClauseLedger;II[J)I"⟩
theorem hd_La_meaning : y_La_meaning.cls ≠ "java/lang/invoke/MethodHandle" ∧ y_La_meaning.cls ≠ "java/lang/invoke/VarHandle" ∧ (parseMethodDescriptor y_La_meaning.desc).map (fun d => d.parameters.length) = some 4 := by decide +kernel
theorem d_La_meaning_0 : decode b_La_meaning 0 = .ok (.aload_n 3, 1) := by decide +kernel
theorem d_La_meaning_1 : decode b_La_meaning 1 = .ok (.iconst 0, 1) := by decide +kernel
theorem d_La_meaning_2 : decode b_La_meaning 2 = .ok (.aload_n 0, 1) := by decide +kernel
theorem d_La_meaning_3 : decode b_La_meaning 3 = .ok (.iload_n 1, 1) := by decide +kernel
theorem d_La_meaning_4 : decode b_La_meaning 4 = .ok (.iload_n 2, 1) := by decide +kernel
theorem d_La_meaning_5 : decode b_La_meaning 5 = .ok (.invokevirtual 33, 3) := by decide +kernel
theorem d_La_meaning_8 : decode b_La_meaning 8 = .ok (.i2l, 1) := by decide +kernel
theorem d_La_meaning_9 : decode b_La_meaning 9 = .ok (.lastore, 1) := by decide +kernel
theorem d_La_meaning_10 : decode b_La_meaning 10 = .ok (.goto 19, 3) := by decide +kernel
theorem d_La_meaning_13 : decode b_La_meaning 13 = .ok (.astore 4, 2) := by decide +kernel
theorem d_La_meaning_15 : decode b_La_meaning 15 = .ok (.iconst 1, 1) := by decide +kernel
theorem d_La_meaning_16 : decode b_La_meaning 16 = .ok (.ireturn, 1) := by decide +kernel
theorem d_La_meaning_17 : decode b_La_meaning 17 = .ok (.astore 4, 2) := by decide +kernel
theorem d_La_meaning_19 : decode b_La_meaning 19 = .ok (.iconst 2, 1) := by decide +kernel
theorem d_La_meaning_20 : decode b_La_meaning 20 = .ok (.ireturn, 1) := by decide +kernel
theorem d_La_meaning_21 : decode b_La_meaning 21 = .ok (.astore 4, 2) := by decide +kernel
theorem d_La_meaning_23 : decode b_La_meaning 23 = .ok (.iconst 3, 1) := by decide +kernel
theorem d_La_meaning_24 : decode b_La_meaning 24 = .ok (.ireturn, 1) := by decide +kernel
theorem d_La_meaning_25 : decode b_La_meaning 25 = .ok (.astore 4, 2) := by decide +kernel
theorem d_La_meaning_27 : decode b_La_meaning 27 = .ok (.iconst 4, 1) := by decide +kernel
theorem d_La_meaning_28 : decode b_La_meaning 28 = .ok (.ireturn, 1) := by decide +kernel
theorem d_La_meaning_29 : decode b_La_meaning 29 = .ok (.iconst 0, 1) := by decide +kernel
theorem d_La_meaning_30 : decode b_La_meaning 30 = .ok (.ireturn, 1) := by decide +kernel
def g_La_meaning (a1 : Int32) (a2 : Int32) (σ : St) (o : Nat → Int64) : XL := match (f_CL_meaning a1 a2 σ).1 with
  | .inl x => (0, (f_CL_meaning a1 a2 σ).2, vp_updL o 0 x.toInt64)
  | .inr E => (if E = 1 then 1 else if E = 2 then 2 else if E = 3 then 3 else 4, (f_CL_meaning a1 a2 σ).2, o)
abbrev w_La_meaning : List Cond := Cond.codeWith y_La_meaning b_La_meaning 5 (some .int) [(0, 10, 13, 23), (0, 10, 17, 13), (0, 10, 21, 15), (0, 10, 25, 17)] :: gw
abbrev rm_La_meaning : Room := { frames := 9, cells := 1, slots := 6, locals := 167 }
set_option maxHeartbeats 4000000 in
set_option maxRecDepth 100000 in
theorem c_La_meaning (l : Launch) (hlt : l.stackTraces = false) (D : va_G) (ty : Nat → ClassId) (h : Nat → Nat) (px : va_W) (sa : Nat → Nat) (ho : Nat) (o : Nat → Int64) (σ : St) (sz : Nat) (a1 : Int32) (a2 : Int32) (hk : k_CL_meaning a1 a2 σ) (hE : ∀ E, (f_CL_meaning a1 a2 σ).1 = .inr E → E = 1 ∨ E = 2 ∨ E = 3 ∨ E = 4) : xMet l y_La_meaning w_La_meaning rm_La_meaning (va_Pc [.ref (h 0), .int a1, .int a2, .ref ho] (fun U => U.heap.size = sz ∧ va_P D classes (Wc ty h σ ((ho, .inl (ty 1, 1, .inr (.inl o))) :: px)) U.heap ∧ va_K D classes (Ta ty) U ∧ NW U ∧ NC U ∧ XK sa (va_A (Wc ty h σ ((ho, .inl (ty 1, 1, .inr (.inl o))) :: px)) sz) U U.heap ∧ MK sa (va_A (Wc ty h σ ((ho, .inl (ty 1, 1, .inr (.inl o))) :: px)) sz) U U.heap ∧ va_D (fun _ => True) (Wc ty h σ ((ho, .inl (ty 1, 1, .inr (.inl o))) :: px)))) (Rl D classes (fun u z => Wc ty h u ((ho, .inl (ty 1, 1, .inr (.inl z))) :: px)) (va_A (Wc ty h σ ((ho, .inl (ty 1, 1, .inr (.inl o))) :: px)) sz) (g_La_meaning a1 a2 σ o)) 1 6 (va_A (Wc ty h σ ((ho, .inl (ty 1, 1, .inr (.inl o))) :: px)) sz) := by
  refine xMet.ofWH (cc := b_La_meaning) (maxL := 5) (ret := (some .int)) (hh := [(0, 10, 13, 23), (0, 10, 17, 13), (0, 10, 21, 15), (0, 10, 25, 17)]) (by decide) rfl ?_
  intro p e s m args below meth c s₁ B hml htab hv
  obtain ⟨ha, hsz, hP, hK, hN, hNC, hX, hM, hD0⟩ := hv
  have hx := B.exec
  have hb := B.bytes
  have hr := B.returns
  have hg : ∀ w ∈ gw, w.before args s = true := fun w h9 => atoms_spec (ws := w_La_meaning) B.pre w (List.mem_cons_of_mem _ h9)
  have hown : s.vm.findClass "ClauseLedgerLaw" = some m.cls := findClass_of_methodNamed B.named
  have hlocks := B.notSynchronized
  subst hsz
  have hD := hD0.self (sz := s.heap.size)
  generalize hAe : va_A (Wc ty h σ ((ho, .inl (ty 1, 1, .inr (.inl o))) :: px)) s.heap.size = A at hD hM hX ⊢
  have hA : ∀ q : Nat, s.heap.size ≤ q → A q := fun q h9 => by rw [← hAe]; exact Or.inr h9
  have hS : va_S A s.heap s.heap [] := va_S.rf
  have he : entryFrame m args 5 = entryFrame m ([.ref (h 0), .int a1, .int a2, .ref ho] : List Value).toArray 5 := by rw [ha]
  rw [he, lg_entry_eq]
  have hl := lv_entry ([.ref (h 0), .int a1, .int a2, .ref ho]) (n := 5) (Nat.le_of_ble_eq_true rfl)
  generalize (lg_sl ([.ref (h 0), .int a1, .int a2, .ref ho]) ++ List.replicate (5 - (lg_sl ([.ref (h 0), .int a1, .int a2, .ref ho])).length) Slot.unset).toArray = ls at hl ⊢
  have hl : lv_has ls 5 [(0, .ref (h 0)), (1, .int a1), (2, .int a2), (3, .ref ho)] := hl
  generalize hv : g_La_meaning a1 a2 σ o = v
  replace hv := hv.symm
  unfold g_La_meaning at hv
  refine lv_aload_n hx hb d_La_meaning_0 rfl (lv_at hl 3 rfl) ?_
  refine lv_iconst (v := 0) hx hb d_La_meaning_1 (by decide) ?_
  refine lv_aload_n hx hb d_La_meaning_2 rfl (lv_at hl 0 rfl) ?_
  refine lv_iload_n hx hb d_La_meaning_3 rfl (lv_at hl 1 rfl) ?_
  refine lv_iload_n hx hb d_La_meaning_4 rfl (lv_at hl 2 rfl) ?_
  refine x_callV (As := [.int a1, .int a2]) (rest := [.int 0, .ref ho]) ⟨hx, hb, hml, hown, hg⟩ (c_CL_meaning l hlt D ty h ((ho, .inl (ty 1, 1, .inr (.inl o))) :: px) sa σ s.heap.size a1 a2 hk) ⟨callB_of 2 hg (gw_C m_1002) rfl rfl rfl (hg _ m_1) (hg _ m_999) hd_CL_meaning ⟨Nat.le_of_ble_eq_true rfl, Nat.le_of_ble_eq_true rfl⟩, hg _ m_1000, hg _ m_1001⟩ (zz_preX hM hN hX hS hA hK hP hD 0 rfl rfl) rfl hl.1 rfl (Nat.le_of_ble_eq_true rfl) d_La_meaning_5 ⟨Nat.le_of_ble_eq_true rfl, Nat.le_of_ble_eq_true rfl⟩ (fun r9 st9 t9 L9 h09 hal9 hR9 hL9 => ?_) (fun q9 st9 t9 L9 h09 h19 hal9 hR9 hL9 => ?_)
  · obtain ⟨hF9, hP9, x, rfl, hz9⟩ := hR9
    rw [hz9] at hv
    have hS := zz_xS hS h09 hF9 (zz_free hD hS hA) hL9
    have hD : va_D A (Wc ty h (f_CL_meaning a1 a2 σ).2 ((ho, .inl (ty 1, 1, .inr (.inl o))) :: px)) := zz_D hD rfl
    refine W.eq (g2 := F0 m 8 ls [.int x, .int 0, .ref ho]) rfl ?_
    refine lv_i2l hx hb d_La_meaning_8 rfl ?_
    refine va_last hx hb hK hP9 hD hS 36 1 rfl rfl (vp_in_iff.mpr (by decide)) d_La_meaning_9 (fun H locs hP hD hS => ?_)
    have hP : va_P D classes (Wc ty h (f_CL_meaning a1 a2 σ).2 ((ho, .inl (ty 1, 1, .inr (.inl (vp_updL o 0 x.toInt64)))) :: px)) H := hP
    refine lv_goto (tgt := 29) hx hb d_La_meaning_10 (by decide) ?_
    refine lv_iconst (v := 0) hx hb d_La_meaning_29 (by decide) ?_
    exact x_ret (fun o t hq => by obtain ⟨rfl, ht⟩ := hq; exact ⟨hS.F ht, by rw [ht, hv]; exact hP, by rw [hv]⟩) (Nat.le_of_ble_eq_true rfl) (Nat.le_of_ble_eq_true rfl) (W.iret (Qc := fun _ _ o t => o = .returned (some (.int 0)) ∧ t.heap = H) hx hb hr (fun t ht hW => ⟨rfl, ht⟩) hS.2.2 d_La_meaning_30)
  · obtain ⟨hF9, hP9, E9, ce9, hz9, hq9, hn9, hc9⟩ := hR9
    rw [hz9] at hv
    have hcl : s.vm.findClass (exN E9) = some ce9.cls := by rw [h19.findClass]; exact hc9
    have hk9 : ∃ k, s.vm.classes[ce9.cls]? = some k := by obtain ⟨k9, h9, -⟩ := Vm.findClass_spec hcl; exact ⟨k9, h9⟩
    have hS := zz_xS hS h09 hF9 (zz_free hD hS hA) hL9
    have hP := hP9
    generalize t9.heap = H at hP hS hq9 ⊢
    rcases hE E9 hz9 with rfl | rfl | rfl | rfl
    · refine x_catch (h := 13) hq9 hn9 hk9 (fun pl hpl => xFindsH.to _ _ (by rw [htab]; exact xf_yes rfl (by decide) (xl_yes hown (hg _ m_906) (hN.use nw_917) hcl pl hpl))) ?_
      refine lv_astore (lv' := [(4, .ref q9), (0, .ref (h 0)), (1, .int a1), (2, .int a2), (3, .ref ho)]) hx hb d_La_meaning_13 hl (by decide) rfl (fun ls hl => ?_)
      refine lv_iconst (v := 1) hx hb d_La_meaning_15 (by decide) ?_
      exact x_ret (fun o t hq => by obtain ⟨rfl, ht⟩ := hq; exact ⟨hS.F ht, by rw [ht, hv]; exact hP, by rw [hv]; first | done | rfl⟩) (Nat.le_of_ble_eq_true rfl) (Nat.le_of_ble_eq_true rfl) (W.iret (Qc := fun _ _ o t => o = .returned (some (.int 1)) ∧ t.heap = H) hx hb hr (fun t ht hW => ⟨rfl, ht⟩) hS.2.2 d_La_meaning_16)
    · refine x_catch (h := 17) hq9 hn9 hk9 (fun pl hpl => xFindsH.to _ _ (by rw [htab]; exact xf_no rfl (by decide) (xl_no hown (hg _ m_906) (hNC 2 (by decide) 1 (by decide) (by decide)) hcl pl hpl) (xf_yes rfl (by decide) (xl_yes hown (hg _ m_561) (hN.use nw_785) hcl pl hpl)))) ?_
      refine lv_astore (lv' := [(4, .ref q9), (0, .ref (h 0)), (1, .int a1), (2, .int a2), (3, .ref ho)]) hx hb d_La_meaning_17 hl (by decide) rfl (fun ls hl => ?_)
      refine lv_iconst (v := 2) hx hb d_La_meaning_19 (by decide) ?_
      exact x_ret (fun o t hq => by obtain ⟨rfl, ht⟩ := hq; exact ⟨hS.F ht, by rw [ht, hv]; exact hP, by rw [hv]; first | done | rfl⟩) (Nat.le_of_ble_eq_true rfl) (Nat.le_of_ble_eq_true rfl) (W.iret (Qc := fun _ _ o t => o = .returned (some (.int 2)) ∧ t.heap = H) hx hb hr (fun t ht hW => ⟨rfl, ht⟩) hS.2.2 d_La_meaning_20)
    · refine x_catch (h := 21) hq9 hn9 hk9 (fun pl hpl => xFindsH.to _ _ (by rw [htab]; exact xf_no rfl (by decide) (xl_no hown (hg _ m_906) (hNC 3 (by decide) 1 (by decide) (by decide)) hcl pl hpl) (xf_no rfl (by decide) (xl_no hown (hg _ m_561) (hNC 3 (by decide) 2 (by decide) (by decide)) hcl pl hpl) (xf_yes rfl (by decide) (xl_yes hown (hg _ m_562) (hN.use nw_861) hcl pl hpl))))) ?_
      refine lv_astore (lv' := [(4, .ref q9), (0, .ref (h 0)), (1, .int a1), (2, .int a2), (3, .ref ho)]) hx hb d_La_meaning_21 hl (by decide) rfl (fun ls hl => ?_)
      refine lv_iconst (v := 3) hx hb d_La_meaning_23 (by decide) ?_
      exact x_ret (fun o t hq => by obtain ⟨rfl, ht⟩ := hq; exact ⟨hS.F ht, by rw [ht, hv]; exact hP, by rw [hv]; first | done | rfl⟩) (Nat.le_of_ble_eq_true rfl) (Nat.le_of_ble_eq_true rfl) (W.iret (Qc := fun _ _ o t => o = .returned (some (.int 3)) ∧ t.heap = H) hx hb hr (fun t ht hW => ⟨rfl, ht⟩) hS.2.2 d_La_meaning_24)
    · refine x_catch (h := 25) hq9 hn9 hk9 (fun pl hpl => xFindsH.to _ _ (by rw [htab]; exact xf_no rfl (by decide) (xl_no hown (hg _ m_906) (hNC 4 (by decide) 1 (by decide) (by decide)) hcl pl hpl) (xf_no rfl (by decide) (xl_no hown (hg _ m_561) (hNC 4 (by decide) 2 (by decide) (by decide)) hcl pl hpl) (xf_no rfl (by decide) (xl_no hown (hg _ m_562) (hNC 4 (by decide) 3 (by decide) (by decide)) hcl pl hpl) (xf_yes rfl (by decide) (xl_yes hown (hg _ m_563) (hN.use nw_885) hcl pl hpl)))))) ?_
      refine lv_astore (lv' := [(4, .ref q9), (0, .ref (h 0)), (1, .int a1), (2, .int a2), (3, .ref ho)]) hx hb d_La_meaning_25 hl (by decide) rfl (fun ls hl => ?_)
      refine lv_iconst (v := 4) hx hb d_La_meaning_27 (by decide) ?_
      exact x_ret (fun o t hq => by obtain ⟨rfl, ht⟩ := hq; exact ⟨hS.F ht, by rw [ht, hv]; exact hP, by rw [hv]; first | done | rfl⟩) (Nat.le_of_ble_eq_true rfl) (Nat.le_of_ble_eq_true rfl) (W.iret (Qc := fun _ _ o t => o = .returned (some (.int 4)) ∧ t.heap = H) hx hb hr (fun t ht hW => ⟨rfl, ht⟩) hS.2.2 d_La_meaning_28)

-- ClauseLedgerLaw.same(LClauseLedger;I[J)I
abbrev b_La_same : ByteArray := method_8_code
def y_La_same : MethodName := ⟨"ClauseLedgerLaw", "same", "(LClauseLedger;I[J)I"⟩
theorem hd_La_same : y_La_same.cls ≠ "java/lang/invoke/MethodHandle" ∧ y_La_same.cls ≠ "java/lang/invoke/VarHandle" ∧ (parseMethodDescriptor y_La_same.desc).map (fun d => d.parameters.length) = some 3 := by decide +kernel
theorem d_La_same_0 : decode b_La_same 0 = .ok (.aload_n 2, 1) := by decide +kernel
theorem d_La_same_1 : decode b_La_same 1 = .ok (.iconst 0, 1) := by decide +kernel
theorem d_La_same_2 : decode b_La_same 2 = .ok (.aload_n 0, 1) := by decide +kernel
theorem d_La_same_3 : decode b_La_same 3 = .ok (.iload_n 1, 1) := by decide +kernel
theorem d_La_same_4 : decode b_La_same 4 = .ok (.invokevirtual 36, 3) := by decide +kernel
theorem d_La_same_7 : decode b_La_same 7 = .ok (.i2l, 1) := by decide +kernel
theorem d_La_same_8 : decode b_La_same 8 = .ok (.lastore, 1) := by decide +kernel
theorem d_La_same_9 : decode b_La_same 9 = .ok (.goto 12, 3) := by decide +kernel
theorem d_La_same_12 : decode b_La_same 12 = .ok (.astore_n 3, 1) := by decide +kernel
theorem d_La_same_13 : decode b_La_same 13 = .ok (.iconst 1, 1) := by decide +kernel
theorem d_La_same_14 : decode b_La_same 14 = .ok (.ireturn, 1) := by decide +kernel
theorem d_La_same_15 : decode b_La_same 15 = .ok (.astore_n 3, 1) := by decide +kernel
theorem d_La_same_16 : decode b_La_same 16 = .ok (.iconst 2, 1) := by decide +kernel
theorem d_La_same_17 : decode b_La_same 17 = .ok (.ireturn, 1) := by decide +kernel
theorem d_La_same_18 : decode b_La_same 18 = .ok (.astore_n 3, 1) := by decide +kernel
theorem d_La_same_19 : decode b_La_same 19 = .ok (.iconst 3, 1) := by decide +kernel
theorem d_La_same_20 : decode b_La_same 20 = .ok (.ireturn, 1) := by decide +kernel
theorem d_La_same_21 : decode b_La_same 21 = .ok (.iconst 0, 1) := by decide +kernel
theorem d_La_same_22 : decode b_La_same 22 = .ok (.ireturn, 1) := by decide +kernel
def g_La_same (a1 : Int32) (σ : St) (o : Nat → Int64) : XL := match (f_CL_same a1 σ).1 with
  | .inl x => (0, (f_CL_same a1 σ).2, vp_updL o 0 x.toInt64)
  | .inr E => (if E = 1 then 1 else if E = 3 then 2 else 3, (f_CL_same a1 σ).2, o)
abbrev w_La_same : List Cond := Cond.codeWith y_La_same b_La_same 4 (some .int) [(0, 9, 12, 23), (0, 9, 15, 15), (0, 9, 18, 17)] :: gw
abbrev rm_La_same : Room := { frames := 9, cells := 1, slots := 6, locals := 163 }
set_option maxHeartbeats 4000000 in
set_option maxRecDepth 100000 in
theorem c_La_same (l : Launch) (hlt : l.stackTraces = false) (D : va_G) (ty : Nat → ClassId) (h : Nat → Nat) (px : va_W) (sa : Nat → Nat) (ho : Nat) (o : Nat → Int64) (σ : St) (sz : Nat) (a1 : Int32) (hk : k_CL_same a1 σ) (hE : ∀ E, (f_CL_same a1 σ).1 = .inr E → E = 1 ∨ E = 3 ∨ E = 4) : xMet l y_La_same w_La_same rm_La_same (va_Pc [.ref (h 0), .int a1, .ref ho] (fun U => U.heap.size = sz ∧ va_P D classes (Wc ty h σ ((ho, .inl (ty 1, 1, .inr (.inl o))) :: px)) U.heap ∧ va_K D classes (Ta ty) U ∧ NW U ∧ NC U ∧ XK sa (va_A (Wc ty h σ ((ho, .inl (ty 1, 1, .inr (.inl o))) :: px)) sz) U U.heap ∧ MK sa (va_A (Wc ty h σ ((ho, .inl (ty 1, 1, .inr (.inl o))) :: px)) sz) U U.heap ∧ va_D (fun _ => True) (Wc ty h σ ((ho, .inl (ty 1, 1, .inr (.inl o))) :: px)))) (Rl D classes (fun u z => Wc ty h u ((ho, .inl (ty 1, 1, .inr (.inl z))) :: px)) (va_A (Wc ty h σ ((ho, .inl (ty 1, 1, .inr (.inl o))) :: px)) sz) (g_La_same a1 σ o)) 1 6 (va_A (Wc ty h σ ((ho, .inl (ty 1, 1, .inr (.inl o))) :: px)) sz) := by
  refine xMet.ofWH (cc := b_La_same) (maxL := 4) (ret := (some .int)) (hh := [(0, 9, 12, 23), (0, 9, 15, 15), (0, 9, 18, 17)]) (by decide) rfl ?_
  intro p e s m args below meth c s₁ B hml htab hv
  obtain ⟨ha, hsz, hP, hK, hN, hNC, hX, hM, hD0⟩ := hv
  have hx := B.exec
  have hb := B.bytes
  have hr := B.returns
  have hg : ∀ w ∈ gw, w.before args s = true := fun w h9 => atoms_spec (ws := w_La_same) B.pre w (List.mem_cons_of_mem _ h9)
  have hown : s.vm.findClass "ClauseLedgerLaw" = some m.cls := findClass_of_methodNamed B.named
  have hlocks := B.notSynchronized
  subst hsz
  have hD := hD0.self (sz := s.heap.size)
  generalize hAe : va_A (Wc ty h σ ((ho, .inl (ty 1, 1, .inr (.inl o))) :: px)) s.heap.size = A at hD hM hX ⊢
  have hA : ∀ q : Nat, s.heap.size ≤ q → A q := fun q h9 => by rw [← hAe]; exact Or.inr h9
  have hS : va_S A s.heap s.heap [] := va_S.rf
  have he : entryFrame m args 4 = entryFrame m ([.ref (h 0), .int a1, .ref ho] : List Value).toArray 4 := by rw [ha]
  rw [he, lg_entry_eq]
  have hl := lv_entry ([.ref (h 0), .int a1, .ref ho]) (n := 4) (Nat.le_of_ble_eq_true rfl)
  generalize (lg_sl ([.ref (h 0), .int a1, .ref ho]) ++ List.replicate (4 - (lg_sl ([.ref (h 0), .int a1, .ref ho])).length) Slot.unset).toArray = ls at hl ⊢
  have hl : lv_has ls 4 [(0, .ref (h 0)), (1, .int a1), (2, .ref ho)] := hl
  generalize hv : g_La_same a1 σ o = v
  replace hv := hv.symm
  unfold g_La_same at hv
  refine lv_aload_n hx hb d_La_same_0 rfl (lv_at hl 2 rfl) ?_
  refine lv_iconst (v := 0) hx hb d_La_same_1 (by decide) ?_
  refine lv_aload_n hx hb d_La_same_2 rfl (lv_at hl 0 rfl) ?_
  refine lv_iload_n hx hb d_La_same_3 rfl (lv_at hl 1 rfl) ?_
  refine x_callV (As := [.int a1]) (rest := [.int 0, .ref ho]) ⟨hx, hb, hml, hown, hg⟩ (c_CL_same l hlt D ty h ((ho, .inl (ty 1, 1, .inr (.inl o))) :: px) sa σ s.heap.size a1 hk) ⟨callB_of 1 hg (gw_C m_1034) rfl rfl rfl (hg _ m_1) (hg _ m_1031) hd_CL_same ⟨Nat.le_of_ble_eq_true rfl, Nat.le_of_ble_eq_true rfl⟩, hg _ m_1032, hg _ m_1033⟩ (zz_preX hM hN hX hS hA hK hP hD 0 rfl rfl) rfl hl.1 rfl (Nat.le_of_ble_eq_true rfl) d_La_same_4 ⟨Nat.le_of_ble_eq_true rfl, Nat.le_of_ble_eq_true rfl⟩ (fun r9 st9 t9 L9 h09 hal9 hR9 hL9 => ?_) (fun q9 st9 t9 L9 h09 h19 hal9 hR9 hL9 => ?_)
  · obtain ⟨hF9, hP9, x, rfl, hz9⟩ := hR9
    rw [hz9] at hv
    have hS := zz_xS hS h09 hF9 (zz_free hD hS hA) hL9
    have hD : va_D A (Wc ty h (f_CL_same a1 σ).2 ((ho, .inl (ty 1, 1, .inr (.inl o))) :: px)) := zz_D hD rfl
    refine W.eq (g2 := F0 m 7 ls [.int x, .int 0, .ref ho]) rfl ?_
    refine lv_i2l hx hb d_La_same_7 rfl ?_
    refine va_last hx hb hK hP9 hD hS 36 1 rfl rfl (vp_in_iff.mpr (by decide)) d_La_same_8 (fun H locs hP hD hS => ?_)
    have hP : va_P D classes (Wc ty h (f_CL_same a1 σ).2 ((ho, .inl (ty 1, 1, .inr (.inl (vp_updL o 0 x.toInt64)))) :: px)) H := hP
    refine lv_goto (tgt := 21) hx hb d_La_same_9 (by decide) ?_
    refine lv_iconst (v := 0) hx hb d_La_same_21 (by decide) ?_
    exact x_ret (fun o t hq => by obtain ⟨rfl, ht⟩ := hq; exact ⟨hS.F ht, by rw [ht, hv]; exact hP, by rw [hv]⟩) (Nat.le_of_ble_eq_true rfl) (Nat.le_of_ble_eq_true rfl) (W.iret (Qc := fun _ _ o t => o = .returned (some (.int 0)) ∧ t.heap = H) hx hb hr (fun t ht hW => ⟨rfl, ht⟩) hS.2.2 d_La_same_22)
  · obtain ⟨hF9, hP9, E9, ce9, hz9, hq9, hn9, hc9⟩ := hR9
    rw [hz9] at hv
    have hcl : s.vm.findClass (exN E9) = some ce9.cls := by rw [h19.findClass]; exact hc9
    have hk9 : ∃ k, s.vm.classes[ce9.cls]? = some k := by obtain ⟨k9, h9, -⟩ := Vm.findClass_spec hcl; exact ⟨k9, h9⟩
    have hS := zz_xS hS h09 hF9 (zz_free hD hS hA) hL9
    have hP := hP9
    generalize t9.heap = H at hP hS hq9 ⊢
    rcases hE E9 hz9 with rfl | rfl | rfl
    · refine x_catch (h := 12) hq9 hn9 hk9 (fun pl hpl => xFindsH.to _ _ (by rw [htab]; exact xf_yes rfl (by decide) (xl_yes hown (hg _ m_906) (hN.use nw_917) hcl pl hpl))) ?_
      refine lv_astore_n (lv' := [(3, .ref q9), (0, .ref (h 0)), (1, .int a1), (2, .ref ho)]) hx hb d_La_same_12 rfl hl (by decide) rfl (fun ls hl => ?_)
      refine lv_iconst (v := 1) hx hb d_La_same_13 (by decide) ?_
      exact x_ret (fun o t hq => by obtain ⟨rfl, ht⟩ := hq; exact ⟨hS.F ht, by rw [ht, hv]; exact hP, by rw [hv]; first | done | rfl⟩) (Nat.le_of_ble_eq_true rfl) (Nat.le_of_ble_eq_true rfl) (W.iret (Qc := fun _ _ o t => o = .returned (some (.int 1)) ∧ t.heap = H) hx hb hr (fun t ht hW => ⟨rfl, ht⟩) hS.2.2 d_La_same_14)
    · refine x_catch (h := 15) hq9 hn9 hk9 (fun pl hpl => xFindsH.to _ _ (by rw [htab]; exact xf_no rfl (by decide) (xl_no hown (hg _ m_906) (hNC 3 (by decide) 1 (by decide) (by decide)) hcl pl hpl) (xf_yes rfl (by decide) (xl_yes hown (hg _ m_562) (hN.use nw_861) hcl pl hpl)))) ?_
      refine lv_astore_n (lv' := [(3, .ref q9), (0, .ref (h 0)), (1, .int a1), (2, .ref ho)]) hx hb d_La_same_15 rfl hl (by decide) rfl (fun ls hl => ?_)
      refine lv_iconst (v := 2) hx hb d_La_same_16 (by decide) ?_
      exact x_ret (fun o t hq => by obtain ⟨rfl, ht⟩ := hq; exact ⟨hS.F ht, by rw [ht, hv]; exact hP, by rw [hv]; first | done | rfl⟩) (Nat.le_of_ble_eq_true rfl) (Nat.le_of_ble_eq_true rfl) (W.iret (Qc := fun _ _ o t => o = .returned (some (.int 2)) ∧ t.heap = H) hx hb hr (fun t ht hW => ⟨rfl, ht⟩) hS.2.2 d_La_same_17)
    · refine x_catch (h := 18) hq9 hn9 hk9 (fun pl hpl => xFindsH.to _ _ (by rw [htab]; exact xf_no rfl (by decide) (xl_no hown (hg _ m_906) (hNC 4 (by decide) 1 (by decide) (by decide)) hcl pl hpl) (xf_no rfl (by decide) (xl_no hown (hg _ m_562) (hNC 4 (by decide) 3 (by decide) (by decide)) hcl pl hpl) (xf_yes rfl (by decide) (xl_yes hown (hg _ m_563) (hN.use nw_885) hcl pl hpl))))) ?_
      refine lv_astore_n (lv' := [(3, .ref q9), (0, .ref (h 0)), (1, .int a1), (2, .ref ho)]) hx hb d_La_same_18 rfl hl (by decide) rfl (fun ls hl => ?_)
      refine lv_iconst (v := 3) hx hb d_La_same_19 (by decide) ?_
      exact x_ret (fun o t hq => by obtain ⟨rfl, ht⟩ := hq; exact ⟨hS.F ht, by rw [ht, hv]; exact hP, by rw [hv]; first | done | rfl⟩) (Nat.le_of_ble_eq_true rfl) (Nat.le_of_ble_eq_true rfl) (W.iret (Qc := fun _ _ o t => o = .returned (some (.int 3)) ∧ t.heap = H) hx hb hr (fun t ht hW => ⟨rfl, ht⟩) hS.2.2 d_La_same_20)

-- ClauseLedgerLaw.chain(LClauseLedger;II[J)I
abbrev b_La_chain : ByteArray := method_9_code
def y_La_chain : MethodName := ⟨"ClauseLedgerLaw", "chain", "(LClauseLedger;II[J)I"⟩
theorem hd_La_chain : y_La_chain.cls ≠ "java/lang/invoke/MethodHandle" ∧ y_La_chain.cls ≠ "java/lang/invoke/VarHandle" ∧ (parseMethodDescriptor y_La_chain.desc).map (fun d => d.parameters.length) = some 4 := by decide +kernel
theorem d_La_chain_0 : decode b_La_chain 0 = .ok (.aload_n 3, 1) := by decide +kernel
theorem d_La_chain_1 : decode b_La_chain 1 = .ok (.iconst 0, 1) := by decide +kernel
theorem d_La_chain_2 : decode b_La_chain 2 = .ok (.aload_n 0, 1) := by decide +kernel
theorem d_La_chain_3 : decode b_La_chain 3 = .ok (.iload_n 1, 1) := by decide +kernel
theorem d_La_chain_4 : decode b_La_chain 4 = .ok (.iload_n 2, 1) := by decide +kernel
theorem d_La_chain_5 : decode b_La_chain 5 = .ok (.invokevirtual 39, 3) := by decide +kernel
theorem d_La_chain_8 : decode b_La_chain 8 = .ok (.i2l, 1) := by decide +kernel
theorem d_La_chain_9 : decode b_La_chain 9 = .ok (.lastore, 1) := by decide +kernel
theorem d_La_chain_10 : decode b_La_chain 10 = .ok (.goto 19, 3) := by decide +kernel
theorem d_La_chain_13 : decode b_La_chain 13 = .ok (.astore 4, 2) := by decide +kernel
theorem d_La_chain_15 : decode b_La_chain 15 = .ok (.iconst 1, 1) := by decide +kernel
theorem d_La_chain_16 : decode b_La_chain 16 = .ok (.ireturn, 1) := by decide +kernel
theorem d_La_chain_17 : decode b_La_chain 17 = .ok (.astore 4, 2) := by decide +kernel
theorem d_La_chain_19 : decode b_La_chain 19 = .ok (.iconst 2, 1) := by decide +kernel
theorem d_La_chain_20 : decode b_La_chain 20 = .ok (.ireturn, 1) := by decide +kernel
theorem d_La_chain_21 : decode b_La_chain 21 = .ok (.astore 4, 2) := by decide +kernel
theorem d_La_chain_23 : decode b_La_chain 23 = .ok (.iconst 3, 1) := by decide +kernel
theorem d_La_chain_24 : decode b_La_chain 24 = .ok (.ireturn, 1) := by decide +kernel
theorem d_La_chain_25 : decode b_La_chain 25 = .ok (.astore 4, 2) := by decide +kernel
theorem d_La_chain_27 : decode b_La_chain 27 = .ok (.iconst 4, 1) := by decide +kernel
theorem d_La_chain_28 : decode b_La_chain 28 = .ok (.ireturn, 1) := by decide +kernel
theorem d_La_chain_29 : decode b_La_chain 29 = .ok (.iconst 0, 1) := by decide +kernel
theorem d_La_chain_30 : decode b_La_chain 30 = .ok (.ireturn, 1) := by decide +kernel
def g_La_chain (a1 : Int32) (a2 : Int32) (σ : St) (o : Nat → Int64) : XL := match (f_CL_chain a1 a2 σ).1 with
  | .inl x => (0, (f_CL_chain a1 a2 σ).2, vp_updL o 0 x.toInt64)
  | .inr E => (if E = 1 then 1 else if E = 2 then 2 else if E = 3 then 3 else 4, (f_CL_chain a1 a2 σ).2, o)
abbrev w_La_chain : List Cond := Cond.codeWith y_La_chain b_La_chain 5 (some .int) [(0, 10, 13, 23), (0, 10, 17, 13), (0, 10, 21, 15), (0, 10, 25, 17)] :: gw
abbrev rm_La_chain : Room := { frames := 9, cells := 1, slots := 6, locals := 164 }
set_option maxHeartbeats 4000000 in
set_option maxRecDepth 100000 in
theorem c_La_chain (l : Launch) (hlt : l.stackTraces = false) (D : va_G) (ty : Nat → ClassId) (h : Nat → Nat) (px : va_W) (sa : Nat → Nat) (ho : Nat) (o : Nat → Int64) (σ : St) (sz : Nat) (a1 : Int32) (a2 : Int32) (hk : k_CL_chain a1 a2 σ) (hE : ∀ E, (f_CL_chain a1 a2 σ).1 = .inr E → E = 1 ∨ E = 2 ∨ E = 3 ∨ E = 4) : xMet l y_La_chain w_La_chain rm_La_chain (va_Pc [.ref (h 0), .int a1, .int a2, .ref ho] (fun U => U.heap.size = sz ∧ va_P D classes (Wc ty h σ ((ho, .inl (ty 1, 1, .inr (.inl o))) :: px)) U.heap ∧ va_K D classes (Ta ty) U ∧ NW U ∧ NC U ∧ XK sa (va_A (Wc ty h σ ((ho, .inl (ty 1, 1, .inr (.inl o))) :: px)) sz) U U.heap ∧ MK sa (va_A (Wc ty h σ ((ho, .inl (ty 1, 1, .inr (.inl o))) :: px)) sz) U U.heap ∧ va_D (fun _ => True) (Wc ty h σ ((ho, .inl (ty 1, 1, .inr (.inl o))) :: px)))) (Rl D classes (fun u z => Wc ty h u ((ho, .inl (ty 1, 1, .inr (.inl z))) :: px)) (va_A (Wc ty h σ ((ho, .inl (ty 1, 1, .inr (.inl o))) :: px)) sz) (g_La_chain a1 a2 σ o)) 1 6 (va_A (Wc ty h σ ((ho, .inl (ty 1, 1, .inr (.inl o))) :: px)) sz) := by
  refine xMet.ofWH (cc := b_La_chain) (maxL := 5) (ret := (some .int)) (hh := [(0, 10, 13, 23), (0, 10, 17, 13), (0, 10, 21, 15), (0, 10, 25, 17)]) (by decide) rfl ?_
  intro p e s m args below meth c s₁ B hml htab hv
  obtain ⟨ha, hsz, hP, hK, hN, hNC, hX, hM, hD0⟩ := hv
  have hx := B.exec
  have hb := B.bytes
  have hr := B.returns
  have hg : ∀ w ∈ gw, w.before args s = true := fun w h9 => atoms_spec (ws := w_La_chain) B.pre w (List.mem_cons_of_mem _ h9)
  have hown : s.vm.findClass "ClauseLedgerLaw" = some m.cls := findClass_of_methodNamed B.named
  have hlocks := B.notSynchronized
  subst hsz
  have hD := hD0.self (sz := s.heap.size)
  generalize hAe : va_A (Wc ty h σ ((ho, .inl (ty 1, 1, .inr (.inl o))) :: px)) s.heap.size = A at hD hM hX ⊢
  have hA : ∀ q : Nat, s.heap.size ≤ q → A q := fun q h9 => by rw [← hAe]; exact Or.inr h9
  have hS : va_S A s.heap s.heap [] := va_S.rf
  have he : entryFrame m args 5 = entryFrame m ([.ref (h 0), .int a1, .int a2, .ref ho] : List Value).toArray 5 := by rw [ha]
  rw [he, lg_entry_eq]
  have hl := lv_entry ([.ref (h 0), .int a1, .int a2, .ref ho]) (n := 5) (Nat.le_of_ble_eq_true rfl)
  generalize (lg_sl ([.ref (h 0), .int a1, .int a2, .ref ho]) ++ List.replicate (5 - (lg_sl ([.ref (h 0), .int a1, .int a2, .ref ho])).length) Slot.unset).toArray = ls at hl ⊢
  have hl : lv_has ls 5 [(0, .ref (h 0)), (1, .int a1), (2, .int a2), (3, .ref ho)] := hl
  generalize hv : g_La_chain a1 a2 σ o = v
  replace hv := hv.symm
  unfold g_La_chain at hv
  refine lv_aload_n hx hb d_La_chain_0 rfl (lv_at hl 3 rfl) ?_
  refine lv_iconst (v := 0) hx hb d_La_chain_1 (by decide) ?_
  refine lv_aload_n hx hb d_La_chain_2 rfl (lv_at hl 0 rfl) ?_
  refine lv_iload_n hx hb d_La_chain_3 rfl (lv_at hl 1 rfl) ?_
  refine lv_iload_n hx hb d_La_chain_4 rfl (lv_at hl 2 rfl) ?_
  refine x_callV (As := [.int a1, .int a2]) (rest := [.int 0, .ref ho]) ⟨hx, hb, hml, hown, hg⟩ (c_CL_chain l hlt D ty h ((ho, .inl (ty 1, 1, .inr (.inl o))) :: px) sa σ s.heap.size a1 a2 hk) ⟨callB_of 2 hg (gw_C m_1045) rfl rfl rfl (hg _ m_1) (hg _ m_1042) hd_CL_chain ⟨Nat.le_of_ble_eq_true rfl, Nat.le_of_ble_eq_true rfl⟩, hg _ m_1043, hg _ m_1044⟩ (zz_preX hM hN hX hS hA hK hP hD 0 rfl rfl) rfl hl.1 rfl (Nat.le_of_ble_eq_true rfl) d_La_chain_5 ⟨Nat.le_of_ble_eq_true rfl, Nat.le_of_ble_eq_true rfl⟩ (fun r9 st9 t9 L9 h09 hal9 hR9 hL9 => ?_) (fun q9 st9 t9 L9 h09 h19 hal9 hR9 hL9 => ?_)
  · obtain ⟨hF9, hP9, x, rfl, hz9⟩ := hR9
    rw [hz9] at hv
    have hS := zz_xS hS h09 hF9 (zz_free hD hS hA) hL9
    have hD : va_D A (Wc ty h (f_CL_chain a1 a2 σ).2 ((ho, .inl (ty 1, 1, .inr (.inl o))) :: px)) := zz_D hD rfl
    refine W.eq (g2 := F0 m 8 ls [.int x, .int 0, .ref ho]) rfl ?_
    refine lv_i2l hx hb d_La_chain_8 rfl ?_
    refine va_last hx hb hK hP9 hD hS 36 1 rfl rfl (vp_in_iff.mpr (by decide)) d_La_chain_9 (fun H locs hP hD hS => ?_)
    have hP : va_P D classes (Wc ty h (f_CL_chain a1 a2 σ).2 ((ho, .inl (ty 1, 1, .inr (.inl (vp_updL o 0 x.toInt64)))) :: px)) H := hP
    refine lv_goto (tgt := 29) hx hb d_La_chain_10 (by decide) ?_
    refine lv_iconst (v := 0) hx hb d_La_chain_29 (by decide) ?_
    exact x_ret (fun o t hq => by obtain ⟨rfl, ht⟩ := hq; exact ⟨hS.F ht, by rw [ht, hv]; exact hP, by rw [hv]⟩) (Nat.le_of_ble_eq_true rfl) (Nat.le_of_ble_eq_true rfl) (W.iret (Qc := fun _ _ o t => o = .returned (some (.int 0)) ∧ t.heap = H) hx hb hr (fun t ht hW => ⟨rfl, ht⟩) hS.2.2 d_La_chain_30)
  · obtain ⟨hF9, hP9, E9, ce9, hz9, hq9, hn9, hc9⟩ := hR9
    rw [hz9] at hv
    have hcl : s.vm.findClass (exN E9) = some ce9.cls := by rw [h19.findClass]; exact hc9
    have hk9 : ∃ k, s.vm.classes[ce9.cls]? = some k := by obtain ⟨k9, h9, -⟩ := Vm.findClass_spec hcl; exact ⟨k9, h9⟩
    have hS := zz_xS hS h09 hF9 (zz_free hD hS hA) hL9
    have hP := hP9
    generalize t9.heap = H at hP hS hq9 ⊢
    rcases hE E9 hz9 with rfl | rfl | rfl | rfl
    · refine x_catch (h := 13) hq9 hn9 hk9 (fun pl hpl => xFindsH.to _ _ (by rw [htab]; exact xf_yes rfl (by decide) (xl_yes hown (hg _ m_906) (hN.use nw_917) hcl pl hpl))) ?_
      refine lv_astore (lv' := [(4, .ref q9), (0, .ref (h 0)), (1, .int a1), (2, .int a2), (3, .ref ho)]) hx hb d_La_chain_13 hl (by decide) rfl (fun ls hl => ?_)
      refine lv_iconst (v := 1) hx hb d_La_chain_15 (by decide) ?_
      exact x_ret (fun o t hq => by obtain ⟨rfl, ht⟩ := hq; exact ⟨hS.F ht, by rw [ht, hv]; exact hP, by rw [hv]; first | done | rfl⟩) (Nat.le_of_ble_eq_true rfl) (Nat.le_of_ble_eq_true rfl) (W.iret (Qc := fun _ _ o t => o = .returned (some (.int 1)) ∧ t.heap = H) hx hb hr (fun t ht hW => ⟨rfl, ht⟩) hS.2.2 d_La_chain_16)
    · refine x_catch (h := 17) hq9 hn9 hk9 (fun pl hpl => xFindsH.to _ _ (by rw [htab]; exact xf_no rfl (by decide) (xl_no hown (hg _ m_906) (hNC 2 (by decide) 1 (by decide) (by decide)) hcl pl hpl) (xf_yes rfl (by decide) (xl_yes hown (hg _ m_561) (hN.use nw_785) hcl pl hpl)))) ?_
      refine lv_astore (lv' := [(4, .ref q9), (0, .ref (h 0)), (1, .int a1), (2, .int a2), (3, .ref ho)]) hx hb d_La_chain_17 hl (by decide) rfl (fun ls hl => ?_)
      refine lv_iconst (v := 2) hx hb d_La_chain_19 (by decide) ?_
      exact x_ret (fun o t hq => by obtain ⟨rfl, ht⟩ := hq; exact ⟨hS.F ht, by rw [ht, hv]; exact hP, by rw [hv]; first | done | rfl⟩) (Nat.le_of_ble_eq_true rfl) (Nat.le_of_ble_eq_true rfl) (W.iret (Qc := fun _ _ o t => o = .returned (some (.int 2)) ∧ t.heap = H) hx hb hr (fun t ht hW => ⟨rfl, ht⟩) hS.2.2 d_La_chain_20)
    · refine x_catch (h := 21) hq9 hn9 hk9 (fun pl hpl => xFindsH.to _ _ (by rw [htab]; exact xf_no rfl (by decide) (xl_no hown (hg _ m_906) (hNC 3 (by decide) 1 (by decide) (by decide)) hcl pl hpl) (xf_no rfl (by decide) (xl_no hown (hg _ m_561) (hNC 3 (by decide) 2 (by decide) (by decide)) hcl pl hpl) (xf_yes rfl (by decide) (xl_yes hown (hg _ m_562) (hN.use nw_861) hcl pl hpl))))) ?_
      refine lv_astore (lv' := [(4, .ref q9), (0, .ref (h 0)), (1, .int a1), (2, .int a2), (3, .ref ho)]) hx hb d_La_chain_21 hl (by decide) rfl (fun ls hl => ?_)
      refine lv_iconst (v := 3) hx hb d_La_chain_23 (by decide) ?_
      exact x_ret (fun o t hq => by obtain ⟨rfl, ht⟩ := hq; exact ⟨hS.F ht, by rw [ht, hv]; exact hP, by rw [hv]; first | done | rfl⟩) (Nat.le_of_ble_eq_true rfl) (Nat.le_of_ble_eq_true rfl) (W.iret (Qc := fun _ _ o t => o = .returned (some (.int 3)) ∧ t.heap = H) hx hb hr (fun t ht hW => ⟨rfl, ht⟩) hS.2.2 d_La_chain_24)
    · refine x_catch (h := 25) hq9 hn9 hk9 (fun pl hpl => xFindsH.to _ _ (by rw [htab]; exact xf_no rfl (by decide) (xl_no hown (hg _ m_906) (hNC 4 (by decide) 1 (by decide) (by decide)) hcl pl hpl) (xf_no rfl (by decide) (xl_no hown (hg _ m_561) (hNC 4 (by decide) 2 (by decide) (by decide)) hcl pl hpl) (xf_no rfl (by decide) (xl_no hown (hg _ m_562) (hNC 4 (by decide) 3 (by decide) (by decide)) hcl pl hpl) (xf_yes rfl (by decide) (xl_yes hown (hg _ m_563) (hN.use nw_885) hcl pl hpl)))))) ?_
      refine lv_astore (lv' := [(4, .ref q9), (0, .ref (h 0)), (1, .int a1), (2, .int a2), (3, .ref ho)]) hx hb d_La_chain_25 hl (by decide) rfl (fun ls hl => ?_)
      refine lv_iconst (v := 4) hx hb d_La_chain_27 (by decide) ?_
      exact x_ret (fun o t hq => by obtain ⟨rfl, ht⟩ := hq; exact ⟨hS.F ht, by rw [ht, hv]; exact hP, by rw [hv]; first | done | rfl⟩) (Nat.le_of_ble_eq_true rfl) (Nat.le_of_ble_eq_true rfl) (W.iret (Qc := fun _ _ o t => o = .returned (some (.int 4)) ∧ t.heap = H) hx hb hr (fun t ht hW => ⟨rfl, ht⟩) hS.2.2 d_La_chain_28)

-- ClauseLedgerLaw.turn(LClauseLedger;I[J)I
abbrev b_La_turn : ByteArray := method_10_code
def y_La_turn : MethodName := ⟨"ClauseLedgerLaw", "turn", "(LClauseLedger;I[J)I"⟩
theorem hd_La_turn : y_La_turn.cls ≠ "java/lang/invoke/MethodHandle" ∧ y_La_turn.cls ≠ "java/lang/invoke/VarHandle" ∧ (parseMethodDescriptor y_La_turn.desc).map (fun d => d.parameters.length) = some 3 := by decide +kernel
theorem d_La_turn_0 : decode b_La_turn 0 = .ok (.aload_n 2, 1) := by decide +kernel
theorem d_La_turn_1 : decode b_La_turn 1 = .ok (.iconst 0, 1) := by decide +kernel
theorem d_La_turn_2 : decode b_La_turn 2 = .ok (.aload_n 0, 1) := by decide +kernel
theorem d_La_turn_3 : decode b_La_turn 3 = .ok (.iload_n 1, 1) := by decide +kernel
theorem d_La_turn_4 : decode b_La_turn 4 = .ok (.invokevirtual 42, 3) := by decide +kernel
theorem d_La_turn_7 : decode b_La_turn 7 = .ok (.i2l, 1) := by decide +kernel
theorem d_La_turn_8 : decode b_La_turn 8 = .ok (.lastore, 1) := by decide +kernel
theorem d_La_turn_9 : decode b_La_turn 9 = .ok (.goto 15, 3) := by decide +kernel
theorem d_La_turn_12 : decode b_La_turn 12 = .ok (.astore_n 3, 1) := by decide +kernel
theorem d_La_turn_13 : decode b_La_turn 13 = .ok (.iconst 1, 1) := by decide +kernel
theorem d_La_turn_14 : decode b_La_turn 14 = .ok (.ireturn, 1) := by decide +kernel
theorem d_La_turn_15 : decode b_La_turn 15 = .ok (.astore_n 3, 1) := by decide +kernel
theorem d_La_turn_16 : decode b_La_turn 16 = .ok (.iconst 2, 1) := by decide +kernel
theorem d_La_turn_17 : decode b_La_turn 17 = .ok (.ireturn, 1) := by decide +kernel
theorem d_La_turn_18 : decode b_La_turn 18 = .ok (.astore_n 3, 1) := by decide +kernel
theorem d_La_turn_19 : decode b_La_turn 19 = .ok (.iconst 3, 1) := by decide +kernel
theorem d_La_turn_20 : decode b_La_turn 20 = .ok (.ireturn, 1) := by decide +kernel
theorem d_La_turn_21 : decode b_La_turn 21 = .ok (.astore_n 3, 1) := by decide +kernel
theorem d_La_turn_22 : decode b_La_turn 22 = .ok (.iconst 4, 1) := by decide +kernel
theorem d_La_turn_23 : decode b_La_turn 23 = .ok (.ireturn, 1) := by decide +kernel
theorem d_La_turn_24 : decode b_La_turn 24 = .ok (.iconst 0, 1) := by decide +kernel
theorem d_La_turn_25 : decode b_La_turn 25 = .ok (.ireturn, 1) := by decide +kernel
def g_La_turn (a1 : Int32) (σ : St) (o : Nat → Int64) : XL := match (f_CL_turn a1 σ).1 with
  | .inl x => (0, (f_CL_turn a1 σ).2, vp_updL o 0 x.toInt64)
  | .inr E => (if E = 1 then 1 else if E = 2 then 2 else if E = 3 then 3 else 4, (f_CL_turn a1 σ).2, o)
abbrev w_La_turn : List Cond := Cond.codeWith y_La_turn b_La_turn 4 (some .int) [(0, 9, 12, 23), (0, 9, 15, 13), (0, 9, 18, 15), (0, 9, 21, 17)] :: gw
abbrev rm_La_turn : Room := { frames := 9, cells := 1, slots := 6, locals := 163 }
set_option maxHeartbeats 4000000 in
set_option maxRecDepth 100000 in
theorem c_La_turn (l : Launch) (hlt : l.stackTraces = false) (D : va_G) (ty : Nat → ClassId) (h : Nat → Nat) (px : va_W) (sa : Nat → Nat) (ho : Nat) (o : Nat → Int64) (σ : St) (sz : Nat) (a1 : Int32) (hk : k_CL_turn a1 σ) (hE : ∀ E, (f_CL_turn a1 σ).1 = .inr E → E = 1 ∨ E = 2 ∨ E = 3 ∨ E = 4) : xMet l y_La_turn w_La_turn rm_La_turn (va_Pc [.ref (h 0), .int a1, .ref ho] (fun U => U.heap.size = sz ∧ va_P D classes (Wc ty h σ ((ho, .inl (ty 1, 1, .inr (.inl o))) :: px)) U.heap ∧ va_K D classes (Ta ty) U ∧ NW U ∧ NC U ∧ XK sa (va_A (Wc ty h σ ((ho, .inl (ty 1, 1, .inr (.inl o))) :: px)) sz) U U.heap ∧ MK sa (va_A (Wc ty h σ ((ho, .inl (ty 1, 1, .inr (.inl o))) :: px)) sz) U U.heap ∧ va_D (fun _ => True) (Wc ty h σ ((ho, .inl (ty 1, 1, .inr (.inl o))) :: px)))) (Rl D classes (fun u z => Wc ty h u ((ho, .inl (ty 1, 1, .inr (.inl z))) :: px)) (va_A (Wc ty h σ ((ho, .inl (ty 1, 1, .inr (.inl o))) :: px)) sz) (g_La_turn a1 σ o)) 1 6 (va_A (Wc ty h σ ((ho, .inl (ty 1, 1, .inr (.inl o))) :: px)) sz) := by
  refine xMet.ofWH (cc := b_La_turn) (maxL := 4) (ret := (some .int)) (hh := [(0, 9, 12, 23), (0, 9, 15, 13), (0, 9, 18, 15), (0, 9, 21, 17)]) (by decide) rfl ?_
  intro p e s m args below meth c s₁ B hml htab hv
  obtain ⟨ha, hsz, hP, hK, hN, hNC, hX, hM, hD0⟩ := hv
  have hx := B.exec
  have hb := B.bytes
  have hr := B.returns
  have hg : ∀ w ∈ gw, w.before args s = true := fun w h9 => atoms_spec (ws := w_La_turn) B.pre w (List.mem_cons_of_mem _ h9)
  have hown : s.vm.findClass "ClauseLedgerLaw" = some m.cls := findClass_of_methodNamed B.named
  have hlocks := B.notSynchronized
  subst hsz
  have hD := hD0.self (sz := s.heap.size)
  generalize hAe : va_A (Wc ty h σ ((ho, .inl (ty 1, 1, .inr (.inl o))) :: px)) s.heap.size = A at hD hM hX ⊢
  have hA : ∀ q : Nat, s.heap.size ≤ q → A q := fun q h9 => by rw [← hAe]; exact Or.inr h9
  have hS : va_S A s.heap s.heap [] := va_S.rf
  have he : entryFrame m args 4 = entryFrame m ([.ref (h 0), .int a1, .ref ho] : List Value).toArray 4 := by rw [ha]
  rw [he, lg_entry_eq]
  have hl := lv_entry ([.ref (h 0), .int a1, .ref ho]) (n := 4) (Nat.le_of_ble_eq_true rfl)
  generalize (lg_sl ([.ref (h 0), .int a1, .ref ho]) ++ List.replicate (4 - (lg_sl ([.ref (h 0), .int a1, .ref ho])).length) Slot.unset).toArray = ls at hl ⊢
  have hl : lv_has ls 4 [(0, .ref (h 0)), (1, .int a1), (2, .ref ho)] := hl
  generalize hv : g_La_turn a1 σ o = v
  replace hv := hv.symm
  unfold g_La_turn at hv
  refine lv_aload_n hx hb d_La_turn_0 rfl (lv_at hl 2 rfl) ?_
  refine lv_iconst (v := 0) hx hb d_La_turn_1 (by decide) ?_
  refine lv_aload_n hx hb d_La_turn_2 rfl (lv_at hl 0 rfl) ?_
  refine lv_iload_n hx hb d_La_turn_3 rfl (lv_at hl 1 rfl) ?_
  refine x_callV (As := [.int a1]) (rest := [.int 0, .ref ho]) ⟨hx, hb, hml, hown, hg⟩ (c_CL_turn l hlt D ty h ((ho, .inl (ty 1, 1, .inr (.inl o))) :: px) sa σ s.heap.size a1 hk) ⟨callB_of 1 hg (gw_C m_1052) rfl rfl rfl (hg _ m_1) (hg _ m_1049) hd_CL_turn ⟨Nat.le_of_ble_eq_true rfl, Nat.le_of_ble_eq_true rfl⟩, hg _ m_1050, hg _ m_1051⟩ (zz_preX hM hN hX hS hA hK hP hD 0 rfl rfl) rfl hl.1 rfl (Nat.le_of_ble_eq_true rfl) d_La_turn_4 ⟨Nat.le_of_ble_eq_true rfl, Nat.le_of_ble_eq_true rfl⟩ (fun r9 st9 t9 L9 h09 hal9 hR9 hL9 => ?_) (fun q9 st9 t9 L9 h09 h19 hal9 hR9 hL9 => ?_)
  · obtain ⟨hF9, hP9, x, rfl, hz9⟩ := hR9
    rw [hz9] at hv
    have hS := zz_xS hS h09 hF9 (zz_free hD hS hA) hL9
    have hD : va_D A (Wc ty h (f_CL_turn a1 σ).2 ((ho, .inl (ty 1, 1, .inr (.inl o))) :: px)) := zz_D hD rfl
    refine W.eq (g2 := F0 m 7 ls [.int x, .int 0, .ref ho]) rfl ?_
    refine lv_i2l hx hb d_La_turn_7 rfl ?_
    refine va_last hx hb hK hP9 hD hS 36 1 rfl rfl (vp_in_iff.mpr (by decide)) d_La_turn_8 (fun H locs hP hD hS => ?_)
    have hP : va_P D classes (Wc ty h (f_CL_turn a1 σ).2 ((ho, .inl (ty 1, 1, .inr (.inl (vp_updL o 0 x.toInt64)))) :: px)) H := hP
    refine lv_goto (tgt := 24) hx hb d_La_turn_9 (by decide) ?_
    refine lv_iconst (v := 0) hx hb d_La_turn_24 (by decide) ?_
    exact x_ret (fun o t hq => by obtain ⟨rfl, ht⟩ := hq; exact ⟨hS.F ht, by rw [ht, hv]; exact hP, by rw [hv]⟩) (Nat.le_of_ble_eq_true rfl) (Nat.le_of_ble_eq_true rfl) (W.iret (Qc := fun _ _ o t => o = .returned (some (.int 0)) ∧ t.heap = H) hx hb hr (fun t ht hW => ⟨rfl, ht⟩) hS.2.2 d_La_turn_25)
  · obtain ⟨hF9, hP9, E9, ce9, hz9, hq9, hn9, hc9⟩ := hR9
    rw [hz9] at hv
    have hcl : s.vm.findClass (exN E9) = some ce9.cls := by rw [h19.findClass]; exact hc9
    have hk9 : ∃ k, s.vm.classes[ce9.cls]? = some k := by obtain ⟨k9, h9, -⟩ := Vm.findClass_spec hcl; exact ⟨k9, h9⟩
    have hS := zz_xS hS h09 hF9 (zz_free hD hS hA) hL9
    have hP := hP9
    generalize t9.heap = H at hP hS hq9 ⊢
    rcases hE E9 hz9 with rfl | rfl | rfl | rfl
    · refine x_catch (h := 12) hq9 hn9 hk9 (fun pl hpl => xFindsH.to _ _ (by rw [htab]; exact xf_yes rfl (by decide) (xl_yes hown (hg _ m_906) (hN.use nw_917) hcl pl hpl))) ?_
      refine lv_astore_n (lv' := [(3, .ref q9), (0, .ref (h 0)), (1, .int a1), (2, .ref ho)]) hx hb d_La_turn_12 rfl hl (by decide) rfl (fun ls hl => ?_)
      refine lv_iconst (v := 1) hx hb d_La_turn_13 (by decide) ?_
      exact x_ret (fun o t hq => by obtain ⟨rfl, ht⟩ := hq; exact ⟨hS.F ht, by rw [ht, hv]; exact hP, by rw [hv]; first | done | rfl⟩) (Nat.le_of_ble_eq_true rfl) (Nat.le_of_ble_eq_true rfl) (W.iret (Qc := fun _ _ o t => o = .returned (some (.int 1)) ∧ t.heap = H) hx hb hr (fun t ht hW => ⟨rfl, ht⟩) hS.2.2 d_La_turn_14)
    · refine x_catch (h := 15) hq9 hn9 hk9 (fun pl hpl => xFindsH.to _ _ (by rw [htab]; exact xf_no rfl (by decide) (xl_no hown (hg _ m_906) (hNC 2 (by decide) 1 (by decide) (by decide)) hcl pl hpl) (xf_yes rfl (by decide) (xl_yes hown (hg _ m_561) (hN.use nw_785) hcl pl hpl)))) ?_
      refine lv_astore_n (lv' := [(3, .ref q9), (0, .ref (h 0)), (1, .int a1), (2, .ref ho)]) hx hb d_La_turn_15 rfl hl (by decide) rfl (fun ls hl => ?_)
      refine lv_iconst (v := 2) hx hb d_La_turn_16 (by decide) ?_
      exact x_ret (fun o t hq => by obtain ⟨rfl, ht⟩ := hq; exact ⟨hS.F ht, by rw [ht, hv]; exact hP, by rw [hv]; first | done | rfl⟩) (Nat.le_of_ble_eq_true rfl) (Nat.le_of_ble_eq_true rfl) (W.iret (Qc := fun _ _ o t => o = .returned (some (.int 2)) ∧ t.heap = H) hx hb hr (fun t ht hW => ⟨rfl, ht⟩) hS.2.2 d_La_turn_17)
    · refine x_catch (h := 18) hq9 hn9 hk9 (fun pl hpl => xFindsH.to _ _ (by rw [htab]; exact xf_no rfl (by decide) (xl_no hown (hg _ m_906) (hNC 3 (by decide) 1 (by decide) (by decide)) hcl pl hpl) (xf_no rfl (by decide) (xl_no hown (hg _ m_561) (hNC 3 (by decide) 2 (by decide) (by decide)) hcl pl hpl) (xf_yes rfl (by decide) (xl_yes hown (hg _ m_562) (hN.use nw_861) hcl pl hpl))))) ?_
      refine lv_astore_n (lv' := [(3, .ref q9), (0, .ref (h 0)), (1, .int a1), (2, .ref ho)]) hx hb d_La_turn_18 rfl hl (by decide) rfl (fun ls hl => ?_)
      refine lv_iconst (v := 3) hx hb d_La_turn_19 (by decide) ?_
      exact x_ret (fun o t hq => by obtain ⟨rfl, ht⟩ := hq; exact ⟨hS.F ht, by rw [ht, hv]; exact hP, by rw [hv]; first | done | rfl⟩) (Nat.le_of_ble_eq_true rfl) (Nat.le_of_ble_eq_true rfl) (W.iret (Qc := fun _ _ o t => o = .returned (some (.int 3)) ∧ t.heap = H) hx hb hr (fun t ht hW => ⟨rfl, ht⟩) hS.2.2 d_La_turn_20)
    · refine x_catch (h := 21) hq9 hn9 hk9 (fun pl hpl => xFindsH.to _ _ (by rw [htab]; exact xf_no rfl (by decide) (xl_no hown (hg _ m_906) (hNC 4 (by decide) 1 (by decide) (by decide)) hcl pl hpl) (xf_no rfl (by decide) (xl_no hown (hg _ m_561) (hNC 4 (by decide) 2 (by decide) (by decide)) hcl pl hpl) (xf_no rfl (by decide) (xl_no hown (hg _ m_562) (hNC 4 (by decide) 3 (by decide) (by decide)) hcl pl hpl) (xf_yes rfl (by decide) (xl_yes hown (hg _ m_563) (hN.use nw_885) hcl pl hpl)))))) ?_
      refine lv_astore_n (lv' := [(3, .ref q9), (0, .ref (h 0)), (1, .int a1), (2, .ref ho)]) hx hb d_La_turn_21 rfl hl (by decide) rfl (fun ls hl => ?_)
      refine lv_iconst (v := 4) hx hb d_La_turn_22 (by decide) ?_
      exact x_ret (fun o t hq => by obtain ⟨rfl, ht⟩ := hq; exact ⟨hS.F ht, by rw [ht, hv]; exact hP, by rw [hv]; first | done | rfl⟩) (Nat.le_of_ble_eq_true rfl) (Nat.le_of_ble_eq_true rfl) (W.iret (Qc := fun _ _ o t => o = .returned (some (.int 4)) ∧ t.heap = H) hx hb hr (fun t ht hW => ⟨rfl, ht⟩) hS.2.2 d_La_turn_23)

-- ClauseLedgerLaw.replace(LClauseLedger;II[J)I
abbrev b_La_replace : ByteArray := method_11_code
def y_La_replace : MethodName := ⟨"ClauseLedgerLaw", "replace", "(LClauseLedger;II[J)I"⟩
theorem hd_La_replace : y_La_replace.cls ≠ "java/lang/invoke/MethodHandle" ∧ y_La_replace.cls ≠ "java/lang/invoke/VarHandle" ∧ (parseMethodDescriptor y_La_replace.desc).map (fun d => d.parameters.length) = some 4 := by decide +kernel
theorem d_La_replace_0 : decode b_La_replace 0 = .ok (.aload_n 3, 1) := by decide +kernel
theorem d_La_replace_1 : decode b_La_replace 1 = .ok (.iconst 0, 1) := by decide +kernel
theorem d_La_replace_2 : decode b_La_replace 2 = .ok (.aload_n 0, 1) := by decide +kernel
theorem d_La_replace_3 : decode b_La_replace 3 = .ok (.iload_n 1, 1) := by decide +kernel
theorem d_La_replace_4 : decode b_La_replace 4 = .ok (.iload_n 2, 1) := by decide +kernel
theorem d_La_replace_5 : decode b_La_replace 5 = .ok (.invokevirtual 45, 3) := by decide +kernel
theorem d_La_replace_8 : decode b_La_replace 8 = .ok (.i2l, 1) := by decide +kernel
theorem d_La_replace_9 : decode b_La_replace 9 = .ok (.lastore, 1) := by decide +kernel
theorem d_La_replace_10 : decode b_La_replace 10 = .ok (.goto 19, 3) := by decide +kernel
theorem d_La_replace_13 : decode b_La_replace 13 = .ok (.astore 4, 2) := by decide +kernel
theorem d_La_replace_15 : decode b_La_replace 15 = .ok (.iconst 1, 1) := by decide +kernel
theorem d_La_replace_16 : decode b_La_replace 16 = .ok (.ireturn, 1) := by decide +kernel
theorem d_La_replace_17 : decode b_La_replace 17 = .ok (.astore 4, 2) := by decide +kernel
theorem d_La_replace_19 : decode b_La_replace 19 = .ok (.iconst 2, 1) := by decide +kernel
theorem d_La_replace_20 : decode b_La_replace 20 = .ok (.ireturn, 1) := by decide +kernel
theorem d_La_replace_21 : decode b_La_replace 21 = .ok (.astore 4, 2) := by decide +kernel
theorem d_La_replace_23 : decode b_La_replace 23 = .ok (.iconst 3, 1) := by decide +kernel
theorem d_La_replace_24 : decode b_La_replace 24 = .ok (.ireturn, 1) := by decide +kernel
theorem d_La_replace_25 : decode b_La_replace 25 = .ok (.astore 4, 2) := by decide +kernel
theorem d_La_replace_27 : decode b_La_replace 27 = .ok (.iconst 4, 1) := by decide +kernel
theorem d_La_replace_28 : decode b_La_replace 28 = .ok (.ireturn, 1) := by decide +kernel
theorem d_La_replace_29 : decode b_La_replace 29 = .ok (.iconst 0, 1) := by decide +kernel
theorem d_La_replace_30 : decode b_La_replace 30 = .ok (.ireturn, 1) := by decide +kernel
def g_La_replace (a1 : Int32) (a2 : Int32) (σ : St) (o : Nat → Int64) : XL := match (f_CL_replace a1 a2 σ).1 with
  | .inl x => (0, (f_CL_replace a1 a2 σ).2, vp_updL o 0 x.toInt64)
  | .inr E => (if E = 1 then 1 else if E = 2 then 2 else if E = 3 then 3 else 4, (f_CL_replace a1 a2 σ).2, o)
abbrev w_La_replace : List Cond := Cond.codeWith y_La_replace b_La_replace 5 (some .int) [(0, 10, 13, 23), (0, 10, 17, 13), (0, 10, 21, 15), (0, 10, 25, 17)] :: gw
abbrev rm_La_replace : Room := { frames := 9, cells := 1, slots := 6, locals := 164 }
set_option maxHeartbeats 4000000 in
set_option maxRecDepth 100000 in
theorem c_La_replace (l : Launch) (hlt : l.stackTraces = false) (D : va_G) (ty : Nat → ClassId) (h : Nat → Nat) (px : va_W) (sa : Nat → Nat) (ho : Nat) (o : Nat → Int64) (σ : St) (sz : Nat) (a1 : Int32) (a2 : Int32) (hk : k_CL_replace a1 a2 σ) (hE : ∀ E, (f_CL_replace a1 a2 σ).1 = .inr E → E = 1 ∨ E = 2 ∨ E = 3 ∨ E = 4) : xMet l y_La_replace w_La_replace rm_La_replace (va_Pc [.ref (h 0), .int a1, .int a2, .ref ho] (fun U => U.heap.size = sz ∧ va_P D classes (Wc ty h σ ((ho, .inl (ty 1, 1, .inr (.inl o))) :: px)) U.heap ∧ va_K D classes (Ta ty) U ∧ NW U ∧ NC U ∧ XK sa (va_A (Wc ty h σ ((ho, .inl (ty 1, 1, .inr (.inl o))) :: px)) sz) U U.heap ∧ MK sa (va_A (Wc ty h σ ((ho, .inl (ty 1, 1, .inr (.inl o))) :: px)) sz) U U.heap ∧ va_D (fun _ => True) (Wc ty h σ ((ho, .inl (ty 1, 1, .inr (.inl o))) :: px)))) (Rl D classes (fun u z => Wc ty h u ((ho, .inl (ty 1, 1, .inr (.inl z))) :: px)) (va_A (Wc ty h σ ((ho, .inl (ty 1, 1, .inr (.inl o))) :: px)) sz) (g_La_replace a1 a2 σ o)) 1 6 (va_A (Wc ty h σ ((ho, .inl (ty 1, 1, .inr (.inl o))) :: px)) sz) := by
  refine xMet.ofWH (cc := b_La_replace) (maxL := 5) (ret := (some .int)) (hh := [(0, 10, 13, 23), (0, 10, 17, 13), (0, 10, 21, 15), (0, 10, 25, 17)]) (by decide) rfl ?_
  intro p e s m args below meth c s₁ B hml htab hv
  obtain ⟨ha, hsz, hP, hK, hN, hNC, hX, hM, hD0⟩ := hv
  have hx := B.exec
  have hb := B.bytes
  have hr := B.returns
  have hg : ∀ w ∈ gw, w.before args s = true := fun w h9 => atoms_spec (ws := w_La_replace) B.pre w (List.mem_cons_of_mem _ h9)
  have hown : s.vm.findClass "ClauseLedgerLaw" = some m.cls := findClass_of_methodNamed B.named
  have hlocks := B.notSynchronized
  subst hsz
  have hD := hD0.self (sz := s.heap.size)
  generalize hAe : va_A (Wc ty h σ ((ho, .inl (ty 1, 1, .inr (.inl o))) :: px)) s.heap.size = A at hD hM hX ⊢
  have hA : ∀ q : Nat, s.heap.size ≤ q → A q := fun q h9 => by rw [← hAe]; exact Or.inr h9
  have hS : va_S A s.heap s.heap [] := va_S.rf
  have he : entryFrame m args 5 = entryFrame m ([.ref (h 0), .int a1, .int a2, .ref ho] : List Value).toArray 5 := by rw [ha]
  rw [he, lg_entry_eq]
  have hl := lv_entry ([.ref (h 0), .int a1, .int a2, .ref ho]) (n := 5) (Nat.le_of_ble_eq_true rfl)
  generalize (lg_sl ([.ref (h 0), .int a1, .int a2, .ref ho]) ++ List.replicate (5 - (lg_sl ([.ref (h 0), .int a1, .int a2, .ref ho])).length) Slot.unset).toArray = ls at hl ⊢
  have hl : lv_has ls 5 [(0, .ref (h 0)), (1, .int a1), (2, .int a2), (3, .ref ho)] := hl
  generalize hv : g_La_replace a1 a2 σ o = v
  replace hv := hv.symm
  unfold g_La_replace at hv
  refine lv_aload_n hx hb d_La_replace_0 rfl (lv_at hl 3 rfl) ?_
  refine lv_iconst (v := 0) hx hb d_La_replace_1 (by decide) ?_
  refine lv_aload_n hx hb d_La_replace_2 rfl (lv_at hl 0 rfl) ?_
  refine lv_iload_n hx hb d_La_replace_3 rfl (lv_at hl 1 rfl) ?_
  refine lv_iload_n hx hb d_La_replace_4 rfl (lv_at hl 2 rfl) ?_
  refine x_callV (As := [.int a1, .int a2]) (rest := [.int 0, .ref ho]) ⟨hx, hb, hml, hown, hg⟩ (c_CL_replace l hlt D ty h ((ho, .inl (ty 1, 1, .inr (.inl o))) :: px) sa σ s.heap.size a1 a2 hk) ⟨callB_of 2 hg (gw_C m_1059) rfl rfl rfl (hg _ m_1) (hg _ m_1056) hd_CL_replace ⟨Nat.le_of_ble_eq_true rfl, Nat.le_of_ble_eq_true rfl⟩, hg _ m_1057, hg _ m_1058⟩ (zz_preX hM hN hX hS hA hK hP hD 0 rfl rfl) rfl hl.1 rfl (Nat.le_of_ble_eq_true rfl) d_La_replace_5 ⟨Nat.le_of_ble_eq_true rfl, Nat.le_of_ble_eq_true rfl⟩ (fun r9 st9 t9 L9 h09 hal9 hR9 hL9 => ?_) (fun q9 st9 t9 L9 h09 h19 hal9 hR9 hL9 => ?_)
  · obtain ⟨hF9, hP9, x, rfl, hz9⟩ := hR9
    rw [hz9] at hv
    have hS := zz_xS hS h09 hF9 (zz_free hD hS hA) hL9
    have hD : va_D A (Wc ty h (f_CL_replace a1 a2 σ).2 ((ho, .inl (ty 1, 1, .inr (.inl o))) :: px)) := zz_D hD rfl
    refine W.eq (g2 := F0 m 8 ls [.int x, .int 0, .ref ho]) rfl ?_
    refine lv_i2l hx hb d_La_replace_8 rfl ?_
    refine va_last hx hb hK hP9 hD hS 36 1 rfl rfl (vp_in_iff.mpr (by decide)) d_La_replace_9 (fun H locs hP hD hS => ?_)
    have hP : va_P D classes (Wc ty h (f_CL_replace a1 a2 σ).2 ((ho, .inl (ty 1, 1, .inr (.inl (vp_updL o 0 x.toInt64)))) :: px)) H := hP
    refine lv_goto (tgt := 29) hx hb d_La_replace_10 (by decide) ?_
    refine lv_iconst (v := 0) hx hb d_La_replace_29 (by decide) ?_
    exact x_ret (fun o t hq => by obtain ⟨rfl, ht⟩ := hq; exact ⟨hS.F ht, by rw [ht, hv]; exact hP, by rw [hv]⟩) (Nat.le_of_ble_eq_true rfl) (Nat.le_of_ble_eq_true rfl) (W.iret (Qc := fun _ _ o t => o = .returned (some (.int 0)) ∧ t.heap = H) hx hb hr (fun t ht hW => ⟨rfl, ht⟩) hS.2.2 d_La_replace_30)
  · obtain ⟨hF9, hP9, E9, ce9, hz9, hq9, hn9, hc9⟩ := hR9
    rw [hz9] at hv
    have hcl : s.vm.findClass (exN E9) = some ce9.cls := by rw [h19.findClass]; exact hc9
    have hk9 : ∃ k, s.vm.classes[ce9.cls]? = some k := by obtain ⟨k9, h9, -⟩ := Vm.findClass_spec hcl; exact ⟨k9, h9⟩
    have hS := zz_xS hS h09 hF9 (zz_free hD hS hA) hL9
    have hP := hP9
    generalize t9.heap = H at hP hS hq9 ⊢
    rcases hE E9 hz9 with rfl | rfl | rfl | rfl
    · refine x_catch (h := 13) hq9 hn9 hk9 (fun pl hpl => xFindsH.to _ _ (by rw [htab]; exact xf_yes rfl (by decide) (xl_yes hown (hg _ m_906) (hN.use nw_917) hcl pl hpl))) ?_
      refine lv_astore (lv' := [(4, .ref q9), (0, .ref (h 0)), (1, .int a1), (2, .int a2), (3, .ref ho)]) hx hb d_La_replace_13 hl (by decide) rfl (fun ls hl => ?_)
      refine lv_iconst (v := 1) hx hb d_La_replace_15 (by decide) ?_
      exact x_ret (fun o t hq => by obtain ⟨rfl, ht⟩ := hq; exact ⟨hS.F ht, by rw [ht, hv]; exact hP, by rw [hv]; first | done | rfl⟩) (Nat.le_of_ble_eq_true rfl) (Nat.le_of_ble_eq_true rfl) (W.iret (Qc := fun _ _ o t => o = .returned (some (.int 1)) ∧ t.heap = H) hx hb hr (fun t ht hW => ⟨rfl, ht⟩) hS.2.2 d_La_replace_16)
    · refine x_catch (h := 17) hq9 hn9 hk9 (fun pl hpl => xFindsH.to _ _ (by rw [htab]; exact xf_no rfl (by decide) (xl_no hown (hg _ m_906) (hNC 2 (by decide) 1 (by decide) (by decide)) hcl pl hpl) (xf_yes rfl (by decide) (xl_yes hown (hg _ m_561) (hN.use nw_785) hcl pl hpl)))) ?_
      refine lv_astore (lv' := [(4, .ref q9), (0, .ref (h 0)), (1, .int a1), (2, .int a2), (3, .ref ho)]) hx hb d_La_replace_17 hl (by decide) rfl (fun ls hl => ?_)
      refine lv_iconst (v := 2) hx hb d_La_replace_19 (by decide) ?_
      exact x_ret (fun o t hq => by obtain ⟨rfl, ht⟩ := hq; exact ⟨hS.F ht, by rw [ht, hv]; exact hP, by rw [hv]; first | done | rfl⟩) (Nat.le_of_ble_eq_true rfl) (Nat.le_of_ble_eq_true rfl) (W.iret (Qc := fun _ _ o t => o = .returned (some (.int 2)) ∧ t.heap = H) hx hb hr (fun t ht hW => ⟨rfl, ht⟩) hS.2.2 d_La_replace_20)
    · refine x_catch (h := 21) hq9 hn9 hk9 (fun pl hpl => xFindsH.to _ _ (by rw [htab]; exact xf_no rfl (by decide) (xl_no hown (hg _ m_906) (hNC 3 (by decide) 1 (by decide) (by decide)) hcl pl hpl) (xf_no rfl (by decide) (xl_no hown (hg _ m_561) (hNC 3 (by decide) 2 (by decide) (by decide)) hcl pl hpl) (xf_yes rfl (by decide) (xl_yes hown (hg _ m_562) (hN.use nw_861) hcl pl hpl))))) ?_
      refine lv_astore (lv' := [(4, .ref q9), (0, .ref (h 0)), (1, .int a1), (2, .int a2), (3, .ref ho)]) hx hb d_La_replace_21 hl (by decide) rfl (fun ls hl => ?_)
      refine lv_iconst (v := 3) hx hb d_La_replace_23 (by decide) ?_
      exact x_ret (fun o t hq => by obtain ⟨rfl, ht⟩ := hq; exact ⟨hS.F ht, by rw [ht, hv]; exact hP, by rw [hv]; first | done | rfl⟩) (Nat.le_of_ble_eq_true rfl) (Nat.le_of_ble_eq_true rfl) (W.iret (Qc := fun _ _ o t => o = .returned (some (.int 3)) ∧ t.heap = H) hx hb hr (fun t ht hW => ⟨rfl, ht⟩) hS.2.2 d_La_replace_24)
    · refine x_catch (h := 25) hq9 hn9 hk9 (fun pl hpl => xFindsH.to _ _ (by rw [htab]; exact xf_no rfl (by decide) (xl_no hown (hg _ m_906) (hNC 4 (by decide) 1 (by decide) (by decide)) hcl pl hpl) (xf_no rfl (by decide) (xl_no hown (hg _ m_561) (hNC 4 (by decide) 2 (by decide) (by decide)) hcl pl hpl) (xf_no rfl (by decide) (xl_no hown (hg _ m_562) (hNC 4 (by decide) 3 (by decide) (by decide)) hcl pl hpl) (xf_yes rfl (by decide) (xl_yes hown (hg _ m_563) (hN.use nw_885) hcl pl hpl)))))) ?_
      refine lv_astore (lv' := [(4, .ref q9), (0, .ref (h 0)), (1, .int a1), (2, .int a2), (3, .ref ho)]) hx hb d_La_replace_25 hl (by decide) rfl (fun ls hl => ?_)
      refine lv_iconst (v := 4) hx hb d_La_replace_27 (by decide) ?_
      exact x_ret (fun o t hq => by obtain ⟨rfl, ht⟩ := hq; exact ⟨hS.F ht, by rw [ht, hv]; exact hP, by rw [hv]; first | done | rfl⟩) (Nat.le_of_ble_eq_true rfl) (Nat.le_of_ble_eq_true rfl) (W.iret (Qc := fun _ _ o t => o = .returned (some (.int 4)) ∧ t.heap = H) hx hb hr (fun t ht hW => ⟨rfl, ht⟩) hS.2.2 d_La_replace_28)

-- ClauseLedgerLaw.linear(LClauseLedger;IIIIII[J)I
abbrev b_La_linear : ByteArray := method_12_code
def y_La_linear : MethodName := ⟨"ClauseLedgerLaw", "linear", "(LClauseLedger;IIIIII[J)I"⟩
theorem hd_La_linear : y_La_linear.cls ≠ "java/lang/invoke/MethodHandle" ∧ y_La_linear.cls ≠ "java/lang/invoke/VarHandle" ∧ (parseMethodDescriptor y_La_linear.desc).map (fun d => d.parameters.length) = some 8 := by decide +kernel
theorem d_La_linear_0 : decode b_La_linear 0 = .ok (.aload 7, 2) := by decide +kernel
theorem d_La_linear_2 : decode b_La_linear 2 = .ok (.iconst 0, 1) := by decide +kernel
theorem d_La_linear_3 : decode b_La_linear 3 = .ok (.aload_n 0, 1) := by decide +kernel
theorem d_La_linear_4 : decode b_La_linear 4 = .ok (.iload_n 1, 1) := by decide +kernel
theorem d_La_linear_5 : decode b_La_linear 5 = .ok (.iload_n 2, 1) := by decide +kernel
theorem d_La_linear_6 : decode b_La_linear 6 = .ok (.iload_n 3, 1) := by decide +kernel
theorem d_La_linear_7 : decode b_La_linear 7 = .ok (.iload 4, 2) := by decide +kernel
theorem d_La_linear_9 : decode b_La_linear 9 = .ok (.iload 5, 2) := by decide +kernel
theorem d_La_linear_11 : decode b_La_linear 11 = .ok (.iload 6, 2) := by decide +kernel
theorem d_La_linear_13 : decode b_La_linear 13 = .ok (.invokevirtual 48, 3) := by decide +kernel
theorem d_La_linear_16 : decode b_La_linear 16 = .ok (.i2l, 1) := by decide +kernel
theorem d_La_linear_17 : decode b_La_linear 17 = .ok (.lastore, 1) := by decide +kernel
theorem d_La_linear_18 : decode b_La_linear 18 = .ok (.goto 19, 3) := by decide +kernel
theorem d_La_linear_21 : decode b_La_linear 21 = .ok (.astore 8, 2) := by decide +kernel
theorem d_La_linear_23 : decode b_La_linear 23 = .ok (.iconst 1, 1) := by decide +kernel
theorem d_La_linear_24 : decode b_La_linear 24 = .ok (.ireturn, 1) := by decide +kernel
theorem d_La_linear_25 : decode b_La_linear 25 = .ok (.astore 8, 2) := by decide +kernel
theorem d_La_linear_27 : decode b_La_linear 27 = .ok (.iconst 2, 1) := by decide +kernel
theorem d_La_linear_28 : decode b_La_linear 28 = .ok (.ireturn, 1) := by decide +kernel
theorem d_La_linear_29 : decode b_La_linear 29 = .ok (.astore 8, 2) := by decide +kernel
theorem d_La_linear_31 : decode b_La_linear 31 = .ok (.iconst 3, 1) := by decide +kernel
theorem d_La_linear_32 : decode b_La_linear 32 = .ok (.ireturn, 1) := by decide +kernel
theorem d_La_linear_33 : decode b_La_linear 33 = .ok (.astore 8, 2) := by decide +kernel
theorem d_La_linear_35 : decode b_La_linear 35 = .ok (.iconst 4, 1) := by decide +kernel
theorem d_La_linear_36 : decode b_La_linear 36 = .ok (.ireturn, 1) := by decide +kernel
theorem d_La_linear_37 : decode b_La_linear 37 = .ok (.iconst 0, 1) := by decide +kernel
theorem d_La_linear_38 : decode b_La_linear 38 = .ok (.ireturn, 1) := by decide +kernel
def g_La_linear (a1 : Int32) (a2 : Int32) (a3 : Int32) (a4 : Int32) (a5 : Int32) (a6 : Int32) (σ : St) (o : Nat → Int64) : XL := match (f_CL_linear a1 a2 a3 a4 a5 a6 σ).1 with
  | .inl x => (0, (f_CL_linear a1 a2 a3 a4 a5 a6 σ).2, vp_updL o 0 x.toInt64)
  | .inr E => (if E = 1 then 1 else if E = 2 then 2 else if E = 3 then 3 else 4, (f_CL_linear a1 a2 a3 a4 a5 a6 σ).2, o)
abbrev w_La_linear : List Cond := Cond.codeWith y_La_linear b_La_linear 9 (some .int) [(0, 18, 21, 23), (0, 18, 25, 13), (0, 18, 29, 15), (0, 18, 33, 17)] :: gw
abbrev rm_La_linear : Room := { frames := 9, cells := 1, slots := 6, locals := 168 }
set_option maxHeartbeats 4000000 in
set_option maxRecDepth 100000 in
theorem c_La_linear (l : Launch) (hlt : l.stackTraces = false) (D : va_G) (ty : Nat → ClassId) (h : Nat → Nat) (px : va_W) (sa : Nat → Nat) (ho : Nat) (o : Nat → Int64) (σ : St) (sz : Nat) (a1 : Int32) (a2 : Int32) (a3 : Int32) (a4 : Int32) (a5 : Int32) (a6 : Int32) (hk : k_CL_linear a1 a2 a3 a4 a5 a6 σ) (hE : ∀ E, (f_CL_linear a1 a2 a3 a4 a5 a6 σ).1 = .inr E → E = 1 ∨ E = 2 ∨ E = 3 ∨ E = 4) : xMet l y_La_linear w_La_linear rm_La_linear (va_Pc [.ref (h 0), .int a1, .int a2, .int a3, .int a4, .int a5, .int a6, .ref ho] (fun U => U.heap.size = sz ∧ va_P D classes (Wc ty h σ ((ho, .inl (ty 1, 1, .inr (.inl o))) :: px)) U.heap ∧ va_K D classes (Ta ty) U ∧ NW U ∧ NC U ∧ XK sa (va_A (Wc ty h σ ((ho, .inl (ty 1, 1, .inr (.inl o))) :: px)) sz) U U.heap ∧ MK sa (va_A (Wc ty h σ ((ho, .inl (ty 1, 1, .inr (.inl o))) :: px)) sz) U U.heap ∧ va_D (fun _ => True) (Wc ty h σ ((ho, .inl (ty 1, 1, .inr (.inl o))) :: px)))) (Rl D classes (fun u z => Wc ty h u ((ho, .inl (ty 1, 1, .inr (.inl z))) :: px)) (va_A (Wc ty h σ ((ho, .inl (ty 1, 1, .inr (.inl o))) :: px)) sz) (g_La_linear a1 a2 a3 a4 a5 a6 σ o)) 1 6 (va_A (Wc ty h σ ((ho, .inl (ty 1, 1, .inr (.inl o))) :: px)) sz) := by
  refine xMet.ofWH (cc := b_La_linear) (maxL := 9) (ret := (some .int)) (hh := [(0, 18, 21, 23), (0, 18, 25, 13), (0, 18, 29, 15), (0, 18, 33, 17)]) (by decide) rfl ?_
  intro p e s m args below meth c s₁ B hml htab hv
  obtain ⟨ha, hsz, hP, hK, hN, hNC, hX, hM, hD0⟩ := hv
  have hx := B.exec
  have hb := B.bytes
  have hr := B.returns
  have hg : ∀ w ∈ gw, w.before args s = true := fun w h9 => atoms_spec (ws := w_La_linear) B.pre w (List.mem_cons_of_mem _ h9)
  have hown : s.vm.findClass "ClauseLedgerLaw" = some m.cls := findClass_of_methodNamed B.named
  have hlocks := B.notSynchronized
  subst hsz
  have hD := hD0.self (sz := s.heap.size)
  generalize hAe : va_A (Wc ty h σ ((ho, .inl (ty 1, 1, .inr (.inl o))) :: px)) s.heap.size = A at hD hM hX ⊢
  have hA : ∀ q : Nat, s.heap.size ≤ q → A q := fun q h9 => by rw [← hAe]; exact Or.inr h9
  have hS : va_S A s.heap s.heap [] := va_S.rf
  have he : entryFrame m args 9 = entryFrame m ([.ref (h 0), .int a1, .int a2, .int a3, .int a4, .int a5, .int a6, .ref ho] : List Value).toArray 9 := by rw [ha]
  rw [he, lg_entry_eq]
  have hl := lv_entry ([.ref (h 0), .int a1, .int a2, .int a3, .int a4, .int a5, .int a6, .ref ho]) (n := 9) (Nat.le_of_ble_eq_true rfl)
  generalize (lg_sl ([.ref (h 0), .int a1, .int a2, .int a3, .int a4, .int a5, .int a6, .ref ho]) ++ List.replicate (9 - (lg_sl ([.ref (h 0), .int a1, .int a2, .int a3, .int a4, .int a5, .int a6, .ref ho])).length) Slot.unset).toArray = ls at hl ⊢
  have hl : lv_has ls 9 [(0, .ref (h 0)), (1, .int a1), (2, .int a2), (3, .int a3), (4, .int a4), (5, .int a5), (6, .int a6), (7, .ref ho)] := hl
  generalize hv : g_La_linear a1 a2 a3 a4 a5 a6 σ o = v
  replace hv := hv.symm
  unfold g_La_linear at hv
  refine lv_aload hx hb d_La_linear_0 (lv_at hl 7 rfl) ?_
  refine lv_iconst (v := 0) hx hb d_La_linear_2 (by decide) ?_
  refine lv_aload_n hx hb d_La_linear_3 rfl (lv_at hl 0 rfl) ?_
  refine lv_iload_n hx hb d_La_linear_4 rfl (lv_at hl 1 rfl) ?_
  refine lv_iload_n hx hb d_La_linear_5 rfl (lv_at hl 2 rfl) ?_
  refine lv_iload_n hx hb d_La_linear_6 rfl (lv_at hl 3 rfl) ?_
  refine lv_iload hx hb d_La_linear_7 (lv_at hl 4 rfl) ?_
  refine lv_iload hx hb d_La_linear_9 (lv_at hl 5 rfl) ?_
  refine lv_iload hx hb d_La_linear_11 (lv_at hl 6 rfl) ?_
  refine x_callV (As := [.int a1, .int a2, .int a3, .int a4, .int a5, .int a6]) (rest := [.int 0, .ref ho]) ⟨hx, hb, hml, hown, hg⟩ (c_CL_linear l hlt D ty h ((ho, .inl (ty 1, 1, .inr (.inl o))) :: px) sa σ s.heap.size a1 a2 a3 a4 a5 a6 hk) ⟨callB_of 6 hg (gw_C m_1074) rfl rfl rfl (hg _ m_1) (hg _ m_1071) hd_CL_linear ⟨Nat.le_of_ble_eq_true rfl, Nat.le_of_ble_eq_true rfl⟩, hg _ m_1072, hg _ m_1073⟩ (zz_preX hM hN hX hS hA hK hP hD 0 rfl rfl) rfl hl.1 rfl (Nat.le_of_ble_eq_true rfl) d_La_linear_13 ⟨Nat.le_of_ble_eq_true rfl, Nat.le_of_ble_eq_true rfl⟩ (fun r9 st9 t9 L9 h09 hal9 hR9 hL9 => ?_) (fun q9 st9 t9 L9 h09 h19 hal9 hR9 hL9 => ?_)
  · obtain ⟨hF9, hP9, x, rfl, hz9⟩ := hR9
    rw [hz9] at hv
    have hS := zz_xS hS h09 hF9 (zz_free hD hS hA) hL9
    have hD : va_D A (Wc ty h (f_CL_linear a1 a2 a3 a4 a5 a6 σ).2 ((ho, .inl (ty 1, 1, .inr (.inl o))) :: px)) := zz_D hD rfl
    refine W.eq (g2 := F0 m 16 ls [.int x, .int 0, .ref ho]) rfl ?_
    refine lv_i2l hx hb d_La_linear_16 rfl ?_
    refine va_last hx hb hK hP9 hD hS 36 1 rfl rfl (vp_in_iff.mpr (by decide)) d_La_linear_17 (fun H locs hP hD hS => ?_)
    have hP : va_P D classes (Wc ty h (f_CL_linear a1 a2 a3 a4 a5 a6 σ).2 ((ho, .inl (ty 1, 1, .inr (.inl (vp_updL o 0 x.toInt64)))) :: px)) H := hP
    refine lv_goto (tgt := 37) hx hb d_La_linear_18 (by decide) ?_
    refine lv_iconst (v := 0) hx hb d_La_linear_37 (by decide) ?_
    exact x_ret (fun o t hq => by obtain ⟨rfl, ht⟩ := hq; exact ⟨hS.F ht, by rw [ht, hv]; exact hP, by rw [hv]⟩) (Nat.le_of_ble_eq_true rfl) (Nat.le_of_ble_eq_true rfl) (W.iret (Qc := fun _ _ o t => o = .returned (some (.int 0)) ∧ t.heap = H) hx hb hr (fun t ht hW => ⟨rfl, ht⟩) hS.2.2 d_La_linear_38)
  · obtain ⟨hF9, hP9, E9, ce9, hz9, hq9, hn9, hc9⟩ := hR9
    rw [hz9] at hv
    have hcl : s.vm.findClass (exN E9) = some ce9.cls := by rw [h19.findClass]; exact hc9
    have hk9 : ∃ k, s.vm.classes[ce9.cls]? = some k := by obtain ⟨k9, h9, -⟩ := Vm.findClass_spec hcl; exact ⟨k9, h9⟩
    have hS := zz_xS hS h09 hF9 (zz_free hD hS hA) hL9
    have hP := hP9
    generalize t9.heap = H at hP hS hq9 ⊢
    rcases hE E9 hz9 with rfl | rfl | rfl | rfl
    · refine x_catch (h := 21) hq9 hn9 hk9 (fun pl hpl => xFindsH.to _ _ (by rw [htab]; exact xf_yes rfl (by decide) (xl_yes hown (hg _ m_906) (hN.use nw_917) hcl pl hpl))) ?_
      refine lv_astore (lv' := [(8, .ref q9), (0, .ref (h 0)), (1, .int a1), (2, .int a2), (3, .int a3), (4, .int a4), (5, .int a5), (6, .int a6), (7, .ref ho)]) hx hb d_La_linear_21 hl (by decide) rfl (fun ls hl => ?_)
      refine lv_iconst (v := 1) hx hb d_La_linear_23 (by decide) ?_
      exact x_ret (fun o t hq => by obtain ⟨rfl, ht⟩ := hq; exact ⟨hS.F ht, by rw [ht, hv]; exact hP, by rw [hv]; first | done | rfl⟩) (Nat.le_of_ble_eq_true rfl) (Nat.le_of_ble_eq_true rfl) (W.iret (Qc := fun _ _ o t => o = .returned (some (.int 1)) ∧ t.heap = H) hx hb hr (fun t ht hW => ⟨rfl, ht⟩) hS.2.2 d_La_linear_24)
    · refine x_catch (h := 25) hq9 hn9 hk9 (fun pl hpl => xFindsH.to _ _ (by rw [htab]; exact xf_no rfl (by decide) (xl_no hown (hg _ m_906) (hNC 2 (by decide) 1 (by decide) (by decide)) hcl pl hpl) (xf_yes rfl (by decide) (xl_yes hown (hg _ m_561) (hN.use nw_785) hcl pl hpl)))) ?_
      refine lv_astore (lv' := [(8, .ref q9), (0, .ref (h 0)), (1, .int a1), (2, .int a2), (3, .int a3), (4, .int a4), (5, .int a5), (6, .int a6), (7, .ref ho)]) hx hb d_La_linear_25 hl (by decide) rfl (fun ls hl => ?_)
      refine lv_iconst (v := 2) hx hb d_La_linear_27 (by decide) ?_
      exact x_ret (fun o t hq => by obtain ⟨rfl, ht⟩ := hq; exact ⟨hS.F ht, by rw [ht, hv]; exact hP, by rw [hv]; first | done | rfl⟩) (Nat.le_of_ble_eq_true rfl) (Nat.le_of_ble_eq_true rfl) (W.iret (Qc := fun _ _ o t => o = .returned (some (.int 2)) ∧ t.heap = H) hx hb hr (fun t ht hW => ⟨rfl, ht⟩) hS.2.2 d_La_linear_28)
    · refine x_catch (h := 29) hq9 hn9 hk9 (fun pl hpl => xFindsH.to _ _ (by rw [htab]; exact xf_no rfl (by decide) (xl_no hown (hg _ m_906) (hNC 3 (by decide) 1 (by decide) (by decide)) hcl pl hpl) (xf_no rfl (by decide) (xl_no hown (hg _ m_561) (hNC 3 (by decide) 2 (by decide) (by decide)) hcl pl hpl) (xf_yes rfl (by decide) (xl_yes hown (hg _ m_562) (hN.use nw_861) hcl pl hpl))))) ?_
      refine lv_astore (lv' := [(8, .ref q9), (0, .ref (h 0)), (1, .int a1), (2, .int a2), (3, .int a3), (4, .int a4), (5, .int a5), (6, .int a6), (7, .ref ho)]) hx hb d_La_linear_29 hl (by decide) rfl (fun ls hl => ?_)
      refine lv_iconst (v := 3) hx hb d_La_linear_31 (by decide) ?_
      exact x_ret (fun o t hq => by obtain ⟨rfl, ht⟩ := hq; exact ⟨hS.F ht, by rw [ht, hv]; exact hP, by rw [hv]; first | done | rfl⟩) (Nat.le_of_ble_eq_true rfl) (Nat.le_of_ble_eq_true rfl) (W.iret (Qc := fun _ _ o t => o = .returned (some (.int 3)) ∧ t.heap = H) hx hb hr (fun t ht hW => ⟨rfl, ht⟩) hS.2.2 d_La_linear_32)
    · refine x_catch (h := 33) hq9 hn9 hk9 (fun pl hpl => xFindsH.to _ _ (by rw [htab]; exact xf_no rfl (by decide) (xl_no hown (hg _ m_906) (hNC 4 (by decide) 1 (by decide) (by decide)) hcl pl hpl) (xf_no rfl (by decide) (xl_no hown (hg _ m_561) (hNC 4 (by decide) 2 (by decide) (by decide)) hcl pl hpl) (xf_no rfl (by decide) (xl_no hown (hg _ m_562) (hNC 4 (by decide) 3 (by decide) (by decide)) hcl pl hpl) (xf_yes rfl (by decide) (xl_yes hown (hg _ m_563) (hN.use nw_885) hcl pl hpl)))))) ?_
      refine lv_astore (lv' := [(8, .ref q9), (0, .ref (h 0)), (1, .int a1), (2, .int a2), (3, .int a3), (4, .int a4), (5, .int a5), (6, .int a6), (7, .ref ho)]) hx hb d_La_linear_33 hl (by decide) rfl (fun ls hl => ?_)
      refine lv_iconst (v := 4) hx hb d_La_linear_35 (by decide) ?_
      exact x_ret (fun o t hq => by obtain ⟨rfl, ht⟩ := hq; exact ⟨hS.F ht, by rw [ht, hv]; exact hP, by rw [hv]; first | done | rfl⟩) (Nat.le_of_ble_eq_true rfl) (Nat.le_of_ble_eq_true rfl) (W.iret (Qc := fun _ _ o t => o = .returned (some (.int 4)) ∧ t.heap = H) hx hb hr (fun t ht hW => ⟨rfl, ht⟩) hS.2.2 d_La_linear_36)

-- ClauseLedgerLaw.instance(LClauseLedger;II[J)I
abbrev b_La_instance : ByteArray := method_13_code
def y_La_instance : MethodName := ⟨"ClauseLedgerLaw", "instance", "(LClauseLedger;II[J)I"⟩
theorem hd_La_instance : y_La_instance.cls ≠ "java/lang/invoke/MethodHandle" ∧ y_La_instance.cls ≠ "java/lang/invoke/VarHandle" ∧ (parseMethodDescriptor y_La_instance.desc).map (fun d => d.parameters.length) = some 4 := by decide +kernel
theorem d_La_instance_0 : decode b_La_instance 0 = .ok (.aload_n 3, 1) := by decide +kernel
theorem d_La_instance_1 : decode b_La_instance 1 = .ok (.iconst 0, 1) := by decide +kernel
theorem d_La_instance_2 : decode b_La_instance 2 = .ok (.aload_n 0, 1) := by decide +kernel
theorem d_La_instance_3 : decode b_La_instance 3 = .ok (.iload_n 1, 1) := by decide +kernel
theorem d_La_instance_4 : decode b_La_instance 4 = .ok (.iload_n 2, 1) := by decide +kernel
theorem d_La_instance_5 : decode b_La_instance 5 = .ok (.invokevirtual 52, 3) := by decide +kernel
theorem d_La_instance_8 : decode b_La_instance 8 = .ok (.i2l, 1) := by decide +kernel
theorem d_La_instance_9 : decode b_La_instance 9 = .ok (.lastore, 1) := by decide +kernel
theorem d_La_instance_10 : decode b_La_instance 10 = .ok (.goto 19, 3) := by decide +kernel
theorem d_La_instance_13 : decode b_La_instance 13 = .ok (.astore 4, 2) := by decide +kernel
theorem d_La_instance_15 : decode b_La_instance 15 = .ok (.iconst 1, 1) := by decide +kernel
theorem d_La_instance_16 : decode b_La_instance 16 = .ok (.ireturn, 1) := by decide +kernel
theorem d_La_instance_17 : decode b_La_instance 17 = .ok (.astore 4, 2) := by decide +kernel
theorem d_La_instance_19 : decode b_La_instance 19 = .ok (.iconst 2, 1) := by decide +kernel
theorem d_La_instance_20 : decode b_La_instance 20 = .ok (.ireturn, 1) := by decide +kernel
theorem d_La_instance_21 : decode b_La_instance 21 = .ok (.astore 4, 2) := by decide +kernel
theorem d_La_instance_23 : decode b_La_instance 23 = .ok (.iconst 3, 1) := by decide +kernel
theorem d_La_instance_24 : decode b_La_instance 24 = .ok (.ireturn, 1) := by decide +kernel
theorem d_La_instance_25 : decode b_La_instance 25 = .ok (.astore 4, 2) := by decide +kernel
theorem d_La_instance_27 : decode b_La_instance 27 = .ok (.iconst 4, 1) := by decide +kernel
theorem d_La_instance_28 : decode b_La_instance 28 = .ok (.ireturn, 1) := by decide +kernel
theorem d_La_instance_29 : decode b_La_instance 29 = .ok (.iconst 0, 1) := by decide +kernel
theorem d_La_instance_30 : decode b_La_instance 30 = .ok (.ireturn, 1) := by decide +kernel
def g_La_instance (a1 : Int32) (a2 : Int32) (σ : St) (o : Nat → Int64) : XL := match (f_CL_instance a1 a2 σ).1 with
  | .inl x => (0, (f_CL_instance a1 a2 σ).2, vp_updL o 0 x.toInt64)
  | .inr E => (if E = 1 then 1 else if E = 2 then 2 else if E = 3 then 3 else 4, (f_CL_instance a1 a2 σ).2, o)
abbrev w_La_instance : List Cond := Cond.codeWith y_La_instance b_La_instance 5 (some .int) [(0, 10, 13, 23), (0, 10, 17, 13), (0, 10, 21, 15), (0, 10, 25, 17)] :: gw
abbrev rm_La_instance : Room := { frames := 29, cells := 1, slots := 6, locals := 695 }
set_option maxHeartbeats 4000000 in
set_option maxRecDepth 100000 in
theorem c_La_instance (l : Launch) (hlt : l.stackTraces = false) (D : va_G) (ty : Nat → ClassId) (h : Nat → Nat) (px : va_W) (sa : Nat → Nat) (ho : Nat) (o : Nat → Int64) (σ : St) (sz : Nat) (a1 : Int32) (a2 : Int32) (hk : k_CL_instance a1 a2 σ) (hE : ∀ E, (f_CL_instance a1 a2 σ).1 = .inr E → E = 1 ∨ E = 2 ∨ E = 3 ∨ E = 4) : xMet l y_La_instance w_La_instance rm_La_instance (va_Pc [.ref (h 0), .int a1, .int a2, .ref ho] (fun U => U.heap.size = sz ∧ va_P D classes (Wc ty h σ ((ho, .inl (ty 1, 1, .inr (.inl o))) :: px)) U.heap ∧ va_K D classes (Ta ty) U ∧ NW U ∧ NC U ∧ XK sa (va_A (Wc ty h σ ((ho, .inl (ty 1, 1, .inr (.inl o))) :: px)) sz) U U.heap ∧ MK sa (va_A (Wc ty h σ ((ho, .inl (ty 1, 1, .inr (.inl o))) :: px)) sz) U U.heap ∧ va_D (fun _ => True) (Wc ty h σ ((ho, .inl (ty 1, 1, .inr (.inl o))) :: px)))) (Rl D classes (fun u z => Wc ty h u ((ho, .inl (ty 1, 1, .inr (.inl z))) :: px)) (va_A (Wc ty h σ ((ho, .inl (ty 1, 1, .inr (.inl o))) :: px)) sz) (g_La_instance a1 a2 σ o)) 1 6 (va_A (Wc ty h σ ((ho, .inl (ty 1, 1, .inr (.inl o))) :: px)) sz) := by
  refine xMet.ofWH (cc := b_La_instance) (maxL := 5) (ret := (some .int)) (hh := [(0, 10, 13, 23), (0, 10, 17, 13), (0, 10, 21, 15), (0, 10, 25, 17)]) (by decide) rfl ?_
  intro p e s m args below meth c s₁ B hml htab hv
  obtain ⟨ha, hsz, hP, hK, hN, hNC, hX, hM, hD0⟩ := hv
  have hx := B.exec
  have hb := B.bytes
  have hr := B.returns
  have hg : ∀ w ∈ gw, w.before args s = true := fun w h9 => atoms_spec (ws := w_La_instance) B.pre w (List.mem_cons_of_mem _ h9)
  have hown : s.vm.findClass "ClauseLedgerLaw" = some m.cls := findClass_of_methodNamed B.named
  have hlocks := B.notSynchronized
  subst hsz
  have hD := hD0.self (sz := s.heap.size)
  generalize hAe : va_A (Wc ty h σ ((ho, .inl (ty 1, 1, .inr (.inl o))) :: px)) s.heap.size = A at hD hM hX ⊢
  have hA : ∀ q : Nat, s.heap.size ≤ q → A q := fun q h9 => by rw [← hAe]; exact Or.inr h9
  have hS : va_S A s.heap s.heap [] := va_S.rf
  have he : entryFrame m args 5 = entryFrame m ([.ref (h 0), .int a1, .int a2, .ref ho] : List Value).toArray 5 := by rw [ha]
  rw [he, lg_entry_eq]
  have hl := lv_entry ([.ref (h 0), .int a1, .int a2, .ref ho]) (n := 5) (Nat.le_of_ble_eq_true rfl)
  generalize (lg_sl ([.ref (h 0), .int a1, .int a2, .ref ho]) ++ List.replicate (5 - (lg_sl ([.ref (h 0), .int a1, .int a2, .ref ho])).length) Slot.unset).toArray = ls at hl ⊢
  have hl : lv_has ls 5 [(0, .ref (h 0)), (1, .int a1), (2, .int a2), (3, .ref ho)] := hl
  generalize hv : g_La_instance a1 a2 σ o = v
  replace hv := hv.symm
  unfold g_La_instance at hv
  refine lv_aload_n hx hb d_La_instance_0 rfl (lv_at hl 3 rfl) ?_
  refine lv_iconst (v := 0) hx hb d_La_instance_1 (by decide) ?_
  refine lv_aload_n hx hb d_La_instance_2 rfl (lv_at hl 0 rfl) ?_
  refine lv_iload_n hx hb d_La_instance_3 rfl (lv_at hl 1 rfl) ?_
  refine lv_iload_n hx hb d_La_instance_4 rfl (lv_at hl 2 rfl) ?_
  refine x_callV (As := [.int a1, .int a2]) (rest := [.int 0, .ref ho]) ⟨hx, hb, hml, hown, hg⟩ (c_CL_instance l hlt D ty h ((ho, .inl (ty 1, 1, .inr (.inl o))) :: px) sa σ s.heap.size a1 a2 hk) ⟨callB_of 2 hg (gw_C m_1178) rfl rfl rfl (hg _ m_1) (hg _ m_1175) hd_CL_instance ⟨Nat.le_of_ble_eq_true rfl, Nat.le_of_ble_eq_true rfl⟩, hg _ m_1176, hg _ m_1177⟩ (zz_preX hM hN hX hS hA hK hP hD 0 rfl rfl) rfl hl.1 rfl (Nat.le_of_ble_eq_true rfl) d_La_instance_5 ⟨Nat.le_of_ble_eq_true rfl, Nat.le_of_ble_eq_true rfl⟩ (fun r9 st9 t9 L9 h09 hal9 hR9 hL9 => ?_) (fun q9 st9 t9 L9 h09 h19 hal9 hR9 hL9 => ?_)
  · obtain ⟨hF9, hP9, x, rfl, hz9⟩ := hR9
    rw [hz9] at hv
    have hS := zz_xS hS h09 hF9 (zz_free hD hS hA) hL9
    have hD : va_D A (Wc ty h (f_CL_instance a1 a2 σ).2 ((ho, .inl (ty 1, 1, .inr (.inl o))) :: px)) := zz_D hD rfl
    refine W.eq (g2 := F0 m 8 ls [.int x, .int 0, .ref ho]) rfl ?_
    refine lv_i2l hx hb d_La_instance_8 rfl ?_
    refine va_last hx hb hK hP9 hD hS 36 1 rfl rfl (vp_in_iff.mpr (by decide)) d_La_instance_9 (fun H locs hP hD hS => ?_)
    have hP : va_P D classes (Wc ty h (f_CL_instance a1 a2 σ).2 ((ho, .inl (ty 1, 1, .inr (.inl (vp_updL o 0 x.toInt64)))) :: px)) H := hP
    refine lv_goto (tgt := 29) hx hb d_La_instance_10 (by decide) ?_
    refine lv_iconst (v := 0) hx hb d_La_instance_29 (by decide) ?_
    exact x_ret (fun o t hq => by obtain ⟨rfl, ht⟩ := hq; exact ⟨hS.F ht, by rw [ht, hv]; exact hP, by rw [hv]⟩) (Nat.le_of_ble_eq_true rfl) (Nat.le_of_ble_eq_true rfl) (W.iret (Qc := fun _ _ o t => o = .returned (some (.int 0)) ∧ t.heap = H) hx hb hr (fun t ht hW => ⟨rfl, ht⟩) hS.2.2 d_La_instance_30)
  · obtain ⟨hF9, hP9, E9, ce9, hz9, hq9, hn9, hc9⟩ := hR9
    rw [hz9] at hv
    have hcl : s.vm.findClass (exN E9) = some ce9.cls := by rw [h19.findClass]; exact hc9
    have hk9 : ∃ k, s.vm.classes[ce9.cls]? = some k := by obtain ⟨k9, h9, -⟩ := Vm.findClass_spec hcl; exact ⟨k9, h9⟩
    have hS := zz_xS hS h09 hF9 (zz_free hD hS hA) hL9
    have hP := hP9
    generalize t9.heap = H at hP hS hq9 ⊢
    rcases hE E9 hz9 with rfl | rfl | rfl | rfl
    · refine x_catch (h := 13) hq9 hn9 hk9 (fun pl hpl => xFindsH.to _ _ (by rw [htab]; exact xf_yes rfl (by decide) (xl_yes hown (hg _ m_906) (hN.use nw_917) hcl pl hpl))) ?_
      refine lv_astore (lv' := [(4, .ref q9), (0, .ref (h 0)), (1, .int a1), (2, .int a2), (3, .ref ho)]) hx hb d_La_instance_13 hl (by decide) rfl (fun ls hl => ?_)
      refine lv_iconst (v := 1) hx hb d_La_instance_15 (by decide) ?_
      exact x_ret (fun o t hq => by obtain ⟨rfl, ht⟩ := hq; exact ⟨hS.F ht, by rw [ht, hv]; exact hP, by rw [hv]; first | done | rfl⟩) (Nat.le_of_ble_eq_true rfl) (Nat.le_of_ble_eq_true rfl) (W.iret (Qc := fun _ _ o t => o = .returned (some (.int 1)) ∧ t.heap = H) hx hb hr (fun t ht hW => ⟨rfl, ht⟩) hS.2.2 d_La_instance_16)
    · refine x_catch (h := 17) hq9 hn9 hk9 (fun pl hpl => xFindsH.to _ _ (by rw [htab]; exact xf_no rfl (by decide) (xl_no hown (hg _ m_906) (hNC 2 (by decide) 1 (by decide) (by decide)) hcl pl hpl) (xf_yes rfl (by decide) (xl_yes hown (hg _ m_561) (hN.use nw_785) hcl pl hpl)))) ?_
      refine lv_astore (lv' := [(4, .ref q9), (0, .ref (h 0)), (1, .int a1), (2, .int a2), (3, .ref ho)]) hx hb d_La_instance_17 hl (by decide) rfl (fun ls hl => ?_)
      refine lv_iconst (v := 2) hx hb d_La_instance_19 (by decide) ?_
      exact x_ret (fun o t hq => by obtain ⟨rfl, ht⟩ := hq; exact ⟨hS.F ht, by rw [ht, hv]; exact hP, by rw [hv]; first | done | rfl⟩) (Nat.le_of_ble_eq_true rfl) (Nat.le_of_ble_eq_true rfl) (W.iret (Qc := fun _ _ o t => o = .returned (some (.int 2)) ∧ t.heap = H) hx hb hr (fun t ht hW => ⟨rfl, ht⟩) hS.2.2 d_La_instance_20)
    · refine x_catch (h := 21) hq9 hn9 hk9 (fun pl hpl => xFindsH.to _ _ (by rw [htab]; exact xf_no rfl (by decide) (xl_no hown (hg _ m_906) (hNC 3 (by decide) 1 (by decide) (by decide)) hcl pl hpl) (xf_no rfl (by decide) (xl_no hown (hg _ m_561) (hNC 3 (by decide) 2 (by decide) (by decide)) hcl pl hpl) (xf_yes rfl (by decide) (xl_yes hown (hg _ m_562) (hN.use nw_861) hcl pl hpl))))) ?_
      refine lv_astore (lv' := [(4, .ref q9), (0, .ref (h 0)), (1, .int a1), (2, .int a2), (3, .ref ho)]) hx hb d_La_instance_21 hl (by decide) rfl (fun ls hl => ?_)
      refine lv_iconst (v := 3) hx hb d_La_instance_23 (by decide) ?_
      exact x_ret (fun o t hq => by obtain ⟨rfl, ht⟩ := hq; exact ⟨hS.F ht, by rw [ht, hv]; exact hP, by rw [hv]; first | done | rfl⟩) (Nat.le_of_ble_eq_true rfl) (Nat.le_of_ble_eq_true rfl) (W.iret (Qc := fun _ _ o t => o = .returned (some (.int 3)) ∧ t.heap = H) hx hb hr (fun t ht hW => ⟨rfl, ht⟩) hS.2.2 d_La_instance_24)
    · refine x_catch (h := 25) hq9 hn9 hk9 (fun pl hpl => xFindsH.to _ _ (by rw [htab]; exact xf_no rfl (by decide) (xl_no hown (hg _ m_906) (hNC 4 (by decide) 1 (by decide) (by decide)) hcl pl hpl) (xf_no rfl (by decide) (xl_no hown (hg _ m_561) (hNC 4 (by decide) 2 (by decide) (by decide)) hcl pl hpl) (xf_no rfl (by decide) (xl_no hown (hg _ m_562) (hNC 4 (by decide) 3 (by decide) (by decide)) hcl pl hpl) (xf_yes rfl (by decide) (xl_yes hown (hg _ m_563) (hN.use nw_885) hcl pl hpl)))))) ?_
      refine lv_astore (lv' := [(4, .ref q9), (0, .ref (h 0)), (1, .int a1), (2, .int a2), (3, .ref ho)]) hx hb d_La_instance_25 hl (by decide) rfl (fun ls hl => ?_)
      refine lv_iconst (v := 4) hx hb d_La_instance_27 (by decide) ?_
      exact x_ret (fun o t hq => by obtain ⟨rfl, ht⟩ := hq; exact ⟨hS.F ht, by rw [ht, hv]; exact hP, by rw [hv]; first | done | rfl⟩) (Nat.le_of_ble_eq_true rfl) (Nat.le_of_ble_eq_true rfl) (W.iret (Qc := fun _ _ o t => o = .returned (some (.int 4)) ∧ t.heap = H) hx hb hr (fun t ht hW => ⟨rfl, ht⟩) hS.2.2 d_La_instance_28)

-- ClauseLedgerLaw.open(LClauseLedger;[J)I
abbrev b_La_open : ByteArray := method_14_code
def y_La_open : MethodName := ⟨"ClauseLedgerLaw", "open", "(LClauseLedger;[J)I"⟩
theorem hd_La_open : y_La_open.cls ≠ "java/lang/invoke/MethodHandle" ∧ y_La_open.cls ≠ "java/lang/invoke/VarHandle" ∧ (parseMethodDescriptor y_La_open.desc).map (fun d => d.parameters.length) = some 2 := by decide +kernel
theorem d_La_open_0 : decode b_La_open 0 = .ok (.aload_n 1, 1) := by decide +kernel
theorem d_La_open_1 : decode b_La_open 1 = .ok (.iconst 0, 1) := by decide +kernel
theorem d_La_open_2 : decode b_La_open 2 = .ok (.aload_n 0, 1) := by decide +kernel
theorem d_La_open_3 : decode b_La_open 3 = .ok (.invokevirtual 55, 3) := by decide +kernel
theorem d_La_open_6 : decode b_La_open 6 = .ok (.i2l, 1) := by decide +kernel
theorem d_La_open_7 : decode b_La_open 7 = .ok (.lastore, 1) := by decide +kernel
theorem d_La_open_8 : decode b_La_open 8 = .ok (.goto 6, 3) := by decide +kernel
theorem d_La_open_11 : decode b_La_open 11 = .ok (.astore_n 2, 1) := by decide +kernel
theorem d_La_open_12 : decode b_La_open 12 = .ok (.iconst 1, 1) := by decide +kernel
theorem d_La_open_13 : decode b_La_open 13 = .ok (.ireturn, 1) := by decide +kernel
theorem d_La_open_14 : decode b_La_open 14 = .ok (.iconst 0, 1) := by decide +kernel
theorem d_La_open_15 : decode b_La_open 15 = .ok (.ireturn, 1) := by decide +kernel
def g_La_open (σ : St) (o : Nat → Int64) : XL := match (f_CL_open σ).1 with
  | .inl x => (0, (f_CL_open σ).2, vp_updL o 0 x.toInt64)
  | .inr E => (1, (f_CL_open σ).2, o)
abbrev w_La_open : List Cond := Cond.codeWith y_La_open b_La_open 3 (some .int) [(0, 8, 11, 17)] :: gw
abbrev rm_La_open : Room := { frames := 8, cells := 1, slots := 6, locals := 140 }
set_option maxHeartbeats 4000000 in
set_option maxRecDepth 100000 in
theorem c_La_open (l : Launch) (hlt : l.stackTraces = false) (D : va_G) (ty : Nat → ClassId) (h : Nat → Nat) (px : va_W) (sa : Nat → Nat) (ho : Nat) (o : Nat → Int64) (σ : St) (sz : Nat) (hk : k_CL_open σ) (hE : ∀ E, (f_CL_open σ).1 = .inr E → E = 4) : xMet l y_La_open w_La_open rm_La_open (va_Pc [.ref (h 0), .ref ho] (fun U => U.heap.size = sz ∧ va_P D classes (Wc ty h σ ((ho, .inl (ty 1, 1, .inr (.inl o))) :: px)) U.heap ∧ va_K D classes (Ta ty) U ∧ NW U ∧ NC U ∧ XK sa (va_A (Wc ty h σ ((ho, .inl (ty 1, 1, .inr (.inl o))) :: px)) sz) U U.heap ∧ MK sa (va_A (Wc ty h σ ((ho, .inl (ty 1, 1, .inr (.inl o))) :: px)) sz) U U.heap ∧ va_D (fun _ => True) (Wc ty h σ ((ho, .inl (ty 1, 1, .inr (.inl o))) :: px)))) (Rl D classes (fun u z => Wc ty h u ((ho, .inl (ty 1, 1, .inr (.inl z))) :: px)) (va_A (Wc ty h σ ((ho, .inl (ty 1, 1, .inr (.inl o))) :: px)) sz) (g_La_open σ o)) 1 6 (va_A (Wc ty h σ ((ho, .inl (ty 1, 1, .inr (.inl o))) :: px)) sz) := by
  refine xMet.ofWH (cc := b_La_open) (maxL := 3) (ret := (some .int)) (hh := [(0, 8, 11, 17)]) (by decide) rfl ?_
  intro p e s m args below meth c s₁ B hml htab hv
  obtain ⟨ha, hsz, hP, hK, hN, hNC, hX, hM, hD0⟩ := hv
  have hx := B.exec
  have hb := B.bytes
  have hr := B.returns
  have hg : ∀ w ∈ gw, w.before args s = true := fun w h9 => atoms_spec (ws := w_La_open) B.pre w (List.mem_cons_of_mem _ h9)
  have hown : s.vm.findClass "ClauseLedgerLaw" = some m.cls := findClass_of_methodNamed B.named
  have hlocks := B.notSynchronized
  subst hsz
  have hD := hD0.self (sz := s.heap.size)
  generalize hAe : va_A (Wc ty h σ ((ho, .inl (ty 1, 1, .inr (.inl o))) :: px)) s.heap.size = A at hD hM hX ⊢
  have hA : ∀ q : Nat, s.heap.size ≤ q → A q := fun q h9 => by rw [← hAe]; exact Or.inr h9
  have hS : va_S A s.heap s.heap [] := va_S.rf
  have he : entryFrame m args 3 = entryFrame m ([.ref (h 0), .ref ho] : List Value).toArray 3 := by rw [ha]
  rw [he, lg_entry_eq]
  have hl := lv_entry ([.ref (h 0), .ref ho]) (n := 3) (Nat.le_of_ble_eq_true rfl)
  generalize (lg_sl ([.ref (h 0), .ref ho]) ++ List.replicate (3 - (lg_sl ([.ref (h 0), .ref ho])).length) Slot.unset).toArray = ls at hl ⊢
  have hl : lv_has ls 3 [(0, .ref (h 0)), (1, .ref ho)] := hl
  generalize hv : g_La_open σ o = v
  replace hv := hv.symm
  unfold g_La_open at hv
  refine lv_aload_n hx hb d_La_open_0 rfl (lv_at hl 1 rfl) ?_
  refine lv_iconst (v := 0) hx hb d_La_open_1 (by decide) ?_
  refine lv_aload_n hx hb d_La_open_2 rfl (lv_at hl 0 rfl) ?_
  refine x_callV (As := []) (rest := [.int 0, .ref ho]) ⟨hx, hb, hml, hown, hg⟩ (c_CL_open l hlt D ty h ((ho, .inl (ty 1, 1, .inr (.inl o))) :: px) sa σ s.heap.size hk) ⟨callB_of 0 hg (gw_C m_1215) rfl rfl rfl (hg _ m_1) (hg _ m_1212) hd_CL_open ⟨Nat.le_of_ble_eq_true rfl, Nat.le_of_ble_eq_true rfl⟩, hg _ m_1213, hg _ m_1214⟩ (zz_preX hM hN hX hS hA hK hP hD 0 rfl rfl) rfl hl.1 rfl (Nat.le_of_ble_eq_true rfl) d_La_open_3 ⟨Nat.le_of_ble_eq_true rfl, Nat.le_of_ble_eq_true rfl⟩ (fun r9 st9 t9 L9 h09 hal9 hR9 hL9 => ?_) (fun q9 st9 t9 L9 h09 h19 hal9 hR9 hL9 => ?_)
  · obtain ⟨hF9, hP9, x, rfl, hz9⟩ := hR9
    rw [hz9] at hv
    have hS := zz_xS hS h09 hF9 (zz_free hD hS hA) hL9
    have hD : va_D A (Wc ty h (f_CL_open σ).2 ((ho, .inl (ty 1, 1, .inr (.inl o))) :: px)) := zz_D hD rfl
    refine W.eq (g2 := F0 m 6 ls [.int x, .int 0, .ref ho]) rfl ?_
    refine lv_i2l hx hb d_La_open_6 rfl ?_
    refine va_last hx hb hK hP9 hD hS 36 1 rfl rfl (vp_in_iff.mpr (by decide)) d_La_open_7 (fun H locs hP hD hS => ?_)
    have hP : va_P D classes (Wc ty h (f_CL_open σ).2 ((ho, .inl (ty 1, 1, .inr (.inl (vp_updL o 0 x.toInt64)))) :: px)) H := hP
    refine lv_goto (tgt := 14) hx hb d_La_open_8 (by decide) ?_
    refine lv_iconst (v := 0) hx hb d_La_open_14 (by decide) ?_
    exact x_ret (fun o t hq => by obtain ⟨rfl, ht⟩ := hq; exact ⟨hS.F ht, by rw [ht, hv]; exact hP, by rw [hv]⟩) (Nat.le_of_ble_eq_true rfl) (Nat.le_of_ble_eq_true rfl) (W.iret (Qc := fun _ _ o t => o = .returned (some (.int 0)) ∧ t.heap = H) hx hb hr (fun t ht hW => ⟨rfl, ht⟩) hS.2.2 d_La_open_15)
  · obtain ⟨hF9, hP9, E9, ce9, hz9, hq9, hn9, hc9⟩ := hR9
    rw [hz9] at hv
    have hcl : s.vm.findClass (exN E9) = some ce9.cls := by rw [h19.findClass]; exact hc9
    have hk9 : ∃ k, s.vm.classes[ce9.cls]? = some k := by obtain ⟨k9, h9, -⟩ := Vm.findClass_spec hcl; exact ⟨k9, h9⟩
    have hS := zz_xS hS h09 hF9 (zz_free hD hS hA) hL9
    have hP := hP9
    generalize t9.heap = H at hP hS hq9 ⊢
    cases hE E9 hz9
    refine x_catch (h := 11) hq9 hn9 hk9 (fun pl hpl => xFindsH.to _ _ (by rw [htab]; exact xf_yes rfl (by decide) (xl_yes hown (hg _ m_563) (hN.use nw_885) hcl pl hpl))) ?_
    refine lv_astore_n (lv' := [(2, .ref q9), (0, .ref (h 0)), (1, .ref ho)]) hx hb d_La_open_11 rfl hl (by decide) rfl (fun ls hl => ?_)
    refine lv_iconst (v := 1) hx hb d_La_open_12 (by decide) ?_
    exact x_ret (fun o t hq => by obtain ⟨rfl, ht⟩ := hq; exact ⟨hS.F ht, by rw [ht, hv]; exact hP, by rw [hv]; first | done | rfl⟩) (Nat.le_of_ble_eq_true rfl) (Nat.le_of_ble_eq_true rfl) (W.iret (Qc := fun _ _ o t => o = .returned (some (.int 1)) ∧ t.heap = H) hx hb hr (fun t ht hW => ⟨rfl, ht⟩) hS.2.2 d_La_open_13)

-- ClauseLedgerLaw.close(LClauseLedger;[J)I
abbrev b_La_close : ByteArray := method_15_code
def y_La_close : MethodName := ⟨"ClauseLedgerLaw", "close", "(LClauseLedger;[J)I"⟩
theorem hd_La_close : y_La_close.cls ≠ "java/lang/invoke/MethodHandle" ∧ y_La_close.cls ≠ "java/lang/invoke/VarHandle" ∧ (parseMethodDescriptor y_La_close.desc).map (fun d => d.parameters.length) = some 2 := by decide +kernel
theorem d_La_close_0 : decode b_La_close 0 = .ok (.aload_n 1, 1) := by decide +kernel
theorem d_La_close_1 : decode b_La_close 1 = .ok (.iconst 0, 1) := by decide +kernel
theorem d_La_close_2 : decode b_La_close 2 = .ok (.aload_n 0, 1) := by decide +kernel
theorem d_La_close_3 : decode b_La_close 3 = .ok (.invokevirtual 58, 3) := by decide +kernel
theorem d_La_close_6 : decode b_La_close 6 = .ok (.i2l, 1) := by decide +kernel
theorem d_La_close_7 : decode b_La_close 7 = .ok (.lastore, 1) := by decide +kernel
theorem d_La_close_8 : decode b_La_close 8 = .ok (.goto 12, 3) := by decide +kernel
theorem d_La_close_11 : decode b_La_close 11 = .ok (.astore_n 2, 1) := by decide +kernel
theorem d_La_close_12 : decode b_La_close 12 = .ok (.iconst 1, 1) := by decide +kernel
theorem d_La_close_13 : decode b_La_close 13 = .ok (.ireturn, 1) := by decide +kernel
theorem d_La_close_14 : decode b_La_close 14 = .ok (.astore_n 2, 1) := by decide +kernel
theorem d_La_close_15 : decode b_La_close 15 = .ok (.iconst 2, 1) := by decide +kernel
theorem d_La_close_16 : decode b_La_close 16 = .ok (.ireturn, 1) := by decide +kernel
theorem d_La_close_17 : decode b_La_close 17 = .ok (.astore_n 2, 1) := by decide +kernel
theorem d_La_close_18 : decode b_La_close 18 = .ok (.iconst 3, 1) := by decide +kernel
theorem d_La_close_19 : decode b_La_close 19 = .ok (.ireturn, 1) := by decide +kernel
theorem d_La_close_20 : decode b_La_close 20 = .ok (.iconst 0, 1) := by decide +kernel
theorem d_La_close_21 : decode b_La_close 21 = .ok (.ireturn, 1) := by decide +kernel
def g_La_close (σ : St) (o : Nat → Int64) : XL := match (f_CL_close σ).1 with
  | .inl x => (0, (f_CL_close σ).2, vp_updL o 0 x.toInt64)
  | .inr E => (if E = 2 then 1 else if E = 3 then 2 else 3, (f_CL_close σ).2, o)
abbrev w_La_close : List Cond := Cond.codeWith y_La_close b_La_close 3 (some .int) [(0, 8, 11, 13), (0, 8, 14, 15), (0, 8, 17, 17)] :: gw
abbrev rm_La_close : Room := { frames := 9, cells := 1, slots := 6, locals := 165 }
set_option maxHeartbeats 4000000 in
set_option maxRecDepth 100000 in
theorem c_La_close (l : Launch) (hlt : l.stackTraces = false) (D : va_G) (ty : Nat → ClassId) (h : Nat → Nat) (px : va_W) (sa : Nat → Nat) (ho : Nat) (o : Nat → Int64) (σ : St) (sz : Nat) (hk : k_CL_close σ) (hE : ∀ E, (f_CL_close σ).1 = .inr E → E = 2 ∨ E = 3 ∨ E = 4) : xMet l y_La_close w_La_close rm_La_close (va_Pc [.ref (h 0), .ref ho] (fun U => U.heap.size = sz ∧ va_P D classes (Wc ty h σ ((ho, .inl (ty 1, 1, .inr (.inl o))) :: px)) U.heap ∧ va_K D classes (Ta ty) U ∧ NW U ∧ NC U ∧ XK sa (va_A (Wc ty h σ ((ho, .inl (ty 1, 1, .inr (.inl o))) :: px)) sz) U U.heap ∧ MK sa (va_A (Wc ty h σ ((ho, .inl (ty 1, 1, .inr (.inl o))) :: px)) sz) U U.heap ∧ va_D (fun _ => True) (Wc ty h σ ((ho, .inl (ty 1, 1, .inr (.inl o))) :: px)))) (Rl D classes (fun u z => Wc ty h u ((ho, .inl (ty 1, 1, .inr (.inl z))) :: px)) (va_A (Wc ty h σ ((ho, .inl (ty 1, 1, .inr (.inl o))) :: px)) sz) (g_La_close σ o)) 1 6 (va_A (Wc ty h σ ((ho, .inl (ty 1, 1, .inr (.inl o))) :: px)) sz) := by
  refine xMet.ofWH (cc := b_La_close) (maxL := 3) (ret := (some .int)) (hh := [(0, 8, 11, 13), (0, 8, 14, 15), (0, 8, 17, 17)]) (by decide) rfl ?_
  intro p e s m args below meth c s₁ B hml htab hv
  obtain ⟨ha, hsz, hP, hK, hN, hNC, hX, hM, hD0⟩ := hv
  have hx := B.exec
  have hb := B.bytes
  have hr := B.returns
  have hg : ∀ w ∈ gw, w.before args s = true := fun w h9 => atoms_spec (ws := w_La_close) B.pre w (List.mem_cons_of_mem _ h9)
  have hown : s.vm.findClass "ClauseLedgerLaw" = some m.cls := findClass_of_methodNamed B.named
  have hlocks := B.notSynchronized
  subst hsz
  have hD := hD0.self (sz := s.heap.size)
  generalize hAe : va_A (Wc ty h σ ((ho, .inl (ty 1, 1, .inr (.inl o))) :: px)) s.heap.size = A at hD hM hX ⊢
  have hA : ∀ q : Nat, s.heap.size ≤ q → A q := fun q h9 => by rw [← hAe]; exact Or.inr h9
  have hS : va_S A s.heap s.heap [] := va_S.rf
  have he : entryFrame m args 3 = entryFrame m ([.ref (h 0), .ref ho] : List Value).toArray 3 := by rw [ha]
  rw [he, lg_entry_eq]
  have hl := lv_entry ([.ref (h 0), .ref ho]) (n := 3) (Nat.le_of_ble_eq_true rfl)
  generalize (lg_sl ([.ref (h 0), .ref ho]) ++ List.replicate (3 - (lg_sl ([.ref (h 0), .ref ho])).length) Slot.unset).toArray = ls at hl ⊢
  have hl : lv_has ls 3 [(0, .ref (h 0)), (1, .ref ho)] := hl
  generalize hv : g_La_close σ o = v
  replace hv := hv.symm
  unfold g_La_close at hv
  refine lv_aload_n hx hb d_La_close_0 rfl (lv_at hl 1 rfl) ?_
  refine lv_iconst (v := 0) hx hb d_La_close_1 (by decide) ?_
  refine lv_aload_n hx hb d_La_close_2 rfl (lv_at hl 0 rfl) ?_
  refine x_callV (As := []) (rest := [.int 0, .ref ho]) ⟨hx, hb, hml, hown, hg⟩ (c_CL_close l hlt D ty h ((ho, .inl (ty 1, 1, .inr (.inl o))) :: px) sa σ s.heap.size hk) ⟨callB_of 0 hg (gw_C m_1232) rfl rfl rfl (hg _ m_1) (hg _ m_1229) hd_CL_close ⟨Nat.le_of_ble_eq_true rfl, Nat.le_of_ble_eq_true rfl⟩, hg _ m_1230, hg _ m_1231⟩ (zz_preX hM hN hX hS hA hK hP hD 0 rfl rfl) rfl hl.1 rfl (Nat.le_of_ble_eq_true rfl) d_La_close_3 ⟨Nat.le_of_ble_eq_true rfl, Nat.le_of_ble_eq_true rfl⟩ (fun r9 st9 t9 L9 h09 hal9 hR9 hL9 => ?_) (fun q9 st9 t9 L9 h09 h19 hal9 hR9 hL9 => ?_)
  · obtain ⟨hF9, hP9, x, rfl, hz9⟩ := hR9
    rw [hz9] at hv
    have hS := zz_xS hS h09 hF9 (zz_free hD hS hA) hL9
    have hD : va_D A (Wc ty h (f_CL_close σ).2 ((ho, .inl (ty 1, 1, .inr (.inl o))) :: px)) := zz_D hD rfl
    refine W.eq (g2 := F0 m 6 ls [.int x, .int 0, .ref ho]) rfl ?_
    refine lv_i2l hx hb d_La_close_6 rfl ?_
    refine va_last hx hb hK hP9 hD hS 36 1 rfl rfl (vp_in_iff.mpr (by decide)) d_La_close_7 (fun H locs hP hD hS => ?_)
    have hP : va_P D classes (Wc ty h (f_CL_close σ).2 ((ho, .inl (ty 1, 1, .inr (.inl (vp_updL o 0 x.toInt64)))) :: px)) H := hP
    refine lv_goto (tgt := 20) hx hb d_La_close_8 (by decide) ?_
    refine lv_iconst (v := 0) hx hb d_La_close_20 (by decide) ?_
    exact x_ret (fun o t hq => by obtain ⟨rfl, ht⟩ := hq; exact ⟨hS.F ht, by rw [ht, hv]; exact hP, by rw [hv]⟩) (Nat.le_of_ble_eq_true rfl) (Nat.le_of_ble_eq_true rfl) (W.iret (Qc := fun _ _ o t => o = .returned (some (.int 0)) ∧ t.heap = H) hx hb hr (fun t ht hW => ⟨rfl, ht⟩) hS.2.2 d_La_close_21)
  · obtain ⟨hF9, hP9, E9, ce9, hz9, hq9, hn9, hc9⟩ := hR9
    rw [hz9] at hv
    have hcl : s.vm.findClass (exN E9) = some ce9.cls := by rw [h19.findClass]; exact hc9
    have hk9 : ∃ k, s.vm.classes[ce9.cls]? = some k := by obtain ⟨k9, h9, -⟩ := Vm.findClass_spec hcl; exact ⟨k9, h9⟩
    have hS := zz_xS hS h09 hF9 (zz_free hD hS hA) hL9
    have hP := hP9
    generalize t9.heap = H at hP hS hq9 ⊢
    rcases hE E9 hz9 with rfl | rfl | rfl
    · refine x_catch (h := 11) hq9 hn9 hk9 (fun pl hpl => xFindsH.to _ _ (by rw [htab]; exact xf_yes rfl (by decide) (xl_yes hown (hg _ m_561) (hN.use nw_785) hcl pl hpl))) ?_
      refine lv_astore_n (lv' := [(2, .ref q9), (0, .ref (h 0)), (1, .ref ho)]) hx hb d_La_close_11 rfl hl (by decide) rfl (fun ls hl => ?_)
      refine lv_iconst (v := 1) hx hb d_La_close_12 (by decide) ?_
      exact x_ret (fun o t hq => by obtain ⟨rfl, ht⟩ := hq; exact ⟨hS.F ht, by rw [ht, hv]; exact hP, by rw [hv]; first | done | rfl⟩) (Nat.le_of_ble_eq_true rfl) (Nat.le_of_ble_eq_true rfl) (W.iret (Qc := fun _ _ o t => o = .returned (some (.int 1)) ∧ t.heap = H) hx hb hr (fun t ht hW => ⟨rfl, ht⟩) hS.2.2 d_La_close_13)
    · refine x_catch (h := 14) hq9 hn9 hk9 (fun pl hpl => xFindsH.to _ _ (by rw [htab]; exact xf_no rfl (by decide) (xl_no hown (hg _ m_561) (hNC 3 (by decide) 2 (by decide) (by decide)) hcl pl hpl) (xf_yes rfl (by decide) (xl_yes hown (hg _ m_562) (hN.use nw_861) hcl pl hpl)))) ?_
      refine lv_astore_n (lv' := [(2, .ref q9), (0, .ref (h 0)), (1, .ref ho)]) hx hb d_La_close_14 rfl hl (by decide) rfl (fun ls hl => ?_)
      refine lv_iconst (v := 2) hx hb d_La_close_15 (by decide) ?_
      exact x_ret (fun o t hq => by obtain ⟨rfl, ht⟩ := hq; exact ⟨hS.F ht, by rw [ht, hv]; exact hP, by rw [hv]; first | done | rfl⟩) (Nat.le_of_ble_eq_true rfl) (Nat.le_of_ble_eq_true rfl) (W.iret (Qc := fun _ _ o t => o = .returned (some (.int 2)) ∧ t.heap = H) hx hb hr (fun t ht hW => ⟨rfl, ht⟩) hS.2.2 d_La_close_16)
    · refine x_catch (h := 17) hq9 hn9 hk9 (fun pl hpl => xFindsH.to _ _ (by rw [htab]; exact xf_no rfl (by decide) (xl_no hown (hg _ m_561) (hNC 4 (by decide) 2 (by decide) (by decide)) hcl pl hpl) (xf_no rfl (by decide) (xl_no hown (hg _ m_562) (hNC 4 (by decide) 3 (by decide) (by decide)) hcl pl hpl) (xf_yes rfl (by decide) (xl_yes hown (hg _ m_563) (hN.use nw_885) hcl pl hpl))))) ?_
      refine lv_astore_n (lv' := [(2, .ref q9), (0, .ref (h 0)), (1, .ref ho)]) hx hb d_La_close_17 rfl hl (by decide) rfl (fun ls hl => ?_)
      refine lv_iconst (v := 3) hx hb d_La_close_18 (by decide) ?_
      exact x_ret (fun o t hq => by obtain ⟨rfl, ht⟩ := hq; exact ⟨hS.F ht, by rw [ht, hv]; exact hP, by rw [hv]; first | done | rfl⟩) (Nat.le_of_ble_eq_true rfl) (Nat.le_of_ble_eq_true rfl) (W.iret (Qc := fun _ _ o t => o = .returned (some (.int 3)) ∧ t.heap = H) hx hb hr (fun t ht hW => ⟨rfl, ht⟩) hS.2.2 d_La_close_19)

