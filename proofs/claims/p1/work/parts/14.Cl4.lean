-- ClauseLedger$Steps.sizeOf(I)I
abbrev b_St_sizeOf : ByteArray := prog_9_method_5_code
def y_St_sizeOf : MethodName := ⟨"ClauseLedger$Steps", "sizeOf", "(I)I"⟩
theorem hd_St_sizeOf : y_St_sizeOf.cls ≠ "java/lang/invoke/MethodHandle" ∧ y_St_sizeOf.cls ≠ "java/lang/invoke/VarHandle" ∧ (parseMethodDescriptor y_St_sizeOf.desc).map (fun d => d.parameters.length) = some 1 := by decide +kernel
theorem d_St_sizeOf_0 : decode b_St_sizeOf 0 = .ok (.aload_n 0, 1) := by decide +kernel
theorem d_St_sizeOf_1 : decode b_St_sizeOf 1 = .ok (.iload_n 1, 1) := by decide +kernel
theorem d_St_sizeOf_2 : decode b_St_sizeOf 2 = .ok (.invokevirtual 29, 3) := by decide +kernel
theorem d_St_sizeOf_5 : decode b_St_sizeOf 5 = .ok (.ifCond .eq 12, 3) := by decide +kernel
theorem d_St_sizeOf_8 : decode b_St_sizeOf 8 = .ok (.aload_n 0, 1) := by decide +kernel
theorem d_St_sizeOf_9 : decode b_St_sizeOf 9 = .ok (.getfield 15, 3) := by decide +kernel
theorem d_St_sizeOf_12 : decode b_St_sizeOf 12 = .ok (.iload_n 1, 1) := by decide +kernel
theorem d_St_sizeOf_13 : decode b_St_sizeOf 13 = .ok (.iaload, 1) := by decide +kernel
theorem d_St_sizeOf_14 : decode b_St_sizeOf 14 = .ok (.goto 4, 3) := by decide +kernel
theorem d_St_sizeOf_17 : decode b_St_sizeOf 17 = .ok (.iconst (-1), 1) := by decide +kernel
theorem d_St_sizeOf_18 : decode b_St_sizeOf 18 = .ok (.ireturn, 1) := by decide +kernel
def f_St_sizeOf_18 (s0 : Int32) (σ : St) : Int32 := s0
def k_St_sizeOf_18 (s0 : Int32) (σ : St) : Prop := True
def f_St_sizeOf (a1 : Int32) (σ : St) : Int32 := if (f_St_has a1 σ) = 0 then (f_St_sizeOf_18 (-1) σ) else (f_St_sizeOf_18 (σ.1 33 a1.toNatClampNeg) σ)
def k_St_sizeOf (a1 : Int32) (σ : St) : Prop := (k_St_has a1 σ) ∧ (((f_St_has a1 σ) = 0 → (k_St_sizeOf_18 (-1) σ)) ∧ (¬ (f_St_has a1 σ) = 0 → (vp_in a1 60 ∧ (k_St_sizeOf_18 (σ.1 33 a1.toNatClampNeg) σ))))
abbrev w_St_sizeOf : List Cond := Cond.code y_St_sizeOf b_St_sizeOf 2 (some .int) :: gw
abbrev rm_St_sizeOf : Room := { frames := 1, cells := 0, slots := 0, locals := 21 }
set_option maxHeartbeats 4000000 in
set_option maxRecDepth 100000 in
theorem c_St_sizeOf (l : Launch) (D : va_G) (ty : Nat → ClassId) (h : Nat → Nat) (px : va_W) (sa : Nat → Nat) (σ : St) (a1 : Int32) (hk : k_St_sizeOf a1 σ) : Met l y_St_sizeOf w_St_sizeOf rm_St_sizeOf (va_Pc [.ref (h 31), .int a1] (fun U => va_P D classes (Wc ty h σ px) U.heap ∧ va_K D classes (Ta ty) U ∧ NW U ∧ MK sa (fun _ => False) U U.heap)) (k2_QcV (.int (f_St_sizeOf a1 σ))) 0 0 (fun _ => False) := by
  refine Met.ofW (cc := b_St_sizeOf) (maxL := 2) (ret := (some .int)) (by decide) rfl ?_
  intro p e s m args below meth c s₁ B hml hv
  obtain ⟨ha, hP, hK, hN, hM⟩ := hv
  have hx := B.exec
  have hb := B.bytes
  have hr := B.returns
  have hg : ∀ w ∈ gw, w.before args s = true := fun w h9 => atoms_spec (ws := w_St_sizeOf) B.pre w (List.mem_cons_of_mem _ h9)
  have hown : s.vm.findClass "ClauseLedger$Steps" = some m.cls := findClass_of_methodNamed B.named
  have hlocks := B.notSynchronized
  have he : entryFrame m args 2 = entryFrame m ([.ref (h 31), .int a1] : List Value).toArray 2 := by rw [ha]
  rw [he, lg_entry_eq]
  have hl := lv_entry ([.ref (h 31), .int a1]) (n := 2) (Nat.le_of_ble_eq_true rfl)
  generalize (lg_sl ([.ref (h 31), .int a1]) ++ List.replicate (2 - (lg_sl ([.ref (h 31), .int a1])).length) Slot.unset).toArray = ls at hl ⊢
  have hl : lv_has ls 2 [(0, .ref (h 31)), (1, .int a1)] := hl
  generalize hv : f_St_sizeOf a1 σ = v
  replace hv := hv.symm
  have B18 : ∀ (ls : Array Slot) (s0 : Int32), v = f_St_sizeOf_18 s0 σ → k_St_sizeOf_18 s0 σ → lv_has ls 2 [] → W p l e (headSpec w_St_sizeOf rm_St_sizeOf).room s m args below meth c s.heap [] 0 0 (MQ below (k2_QcV (.int v)) args s 0 0 (fun _ => False)) (F0 m 18 ls [.int s0]) := by
    intro ls s0 hv hk hl
    unfold f_St_sizeOf_18 at hv
    unfold k_St_sizeOf_18 at hk
    exact W.iret hx hb hr (fun t ht hW => ⟨by rw [hv], ht⟩) (fun q h => nomatch h) d_St_sizeOf_18
  unfold f_St_sizeOf at hv
  unfold k_St_sizeOf at hk
  refine lv_aload_n hx hb d_St_sizeOf_0 rfl (lv_at hl 0 rfl) ?_
  refine lv_iload_n hx hb d_St_sizeOf_1 rfl (lv_at hl 1 rfl) ?_
  obtain ⟨hk0, hk⟩ := hk
  refine zz_callV (va_runV (As := [.int a1]) (rest := []) ⟨hx, hb, hml, hown, hg⟩ (c_St_has l D ty h px sa σ a1 hk0) ⟨callB_of 1 hg (gw_C m_380) rfl rfl rfl (hg _ m_12) (hg _ m_377) hd_St_has ⟨Nat.le_of_ble_eq_true rfl, Nat.le_of_ble_eq_true rfl⟩, hg _ m_378, hg _ m_379⟩ (zz_preV hM hN hK hP 31 rfl rfl) rfl rfl hl.1 rfl (lv_room (Nat.le_of_ble_eq_true rfl)) d_St_sizeOf_2 ⟨Nat.le_of_ble_eq_true rfl, Nat.le_of_ble_eq_true rfl⟩) ?_
  refine lv_if_eq (tgt := 17) hx hb d_St_sizeOf_5 (by decide) (fun hc => ?_) (fun hc => ?_)
  · have hv := hv.trans (if_pos hc)
    have hk := hk.1 hc
    refine lv_iconst (v := -1) hx hb d_St_sizeOf_17 (by decide) ?_
    exact B18 _ (-1) hv hk (lv_sub hl [] rfl)
  · have hv := hv.trans (if_neg hc)
    have hk := hk.2 hc
    refine lv_aload_n hx hb d_St_sizeOf_8 rfl (lv_at hl 0 rfl) ?_
    refine va_get (v := .ref (h 33)) (C := R_St) (T := T_St) (N := 5) hx hb hg in_St hown hK hP 31 rfl rfl 1 (by decide) (hg _ m_269) (fun _ h9 => h9) rfl d_St_sizeOf_9 ?_
    refine lv_iload_n hx hb d_St_sizeOf_12 rfl (lv_at hl 1 rfl) ?_
    obtain ⟨hk0, hk⟩ := hk
    refine va_iald hx hb hK hP 33 0 rfl rfl hk0 d_St_sizeOf_13 ?_
    refine lv_goto (tgt := 18) hx hb d_St_sizeOf_14 (by decide) ?_
    exact B18 _ (σ.1 33 a1.toNatClampNeg) hv hk (lv_sub hl [] rfl)

-- ClauseLedger$Steps.truthOf(II)I
abbrev b_St_truthOf : ByteArray := prog_9_method_6_code
def y_St_truthOf : MethodName := ⟨"ClauseLedger$Steps", "truthOf", "(II)I"⟩
theorem hd_St_truthOf : y_St_truthOf.cls ≠ "java/lang/invoke/MethodHandle" ∧ y_St_truthOf.cls ≠ "java/lang/invoke/VarHandle" ∧ (parseMethodDescriptor y_St_truthOf.desc).map (fun d => d.parameters.length) = some 2 := by decide +kernel
theorem d_St_truthOf_0 : decode b_St_truthOf 0 = .ok (.iload_n 2, 1) := by decide +kernel
theorem d_St_truthOf_1 : decode b_St_truthOf 1 = .ok (.ifCond .lt 26, 3) := by decide +kernel
theorem d_St_truthOf_4 : decode b_St_truthOf 4 = .ok (.iload_n 2, 1) := by decide +kernel
theorem d_St_truthOf_5 : decode b_St_truthOf 5 = .ok (.aload_n 0, 1) := by decide +kernel
theorem d_St_truthOf_6 : decode b_St_truthOf 6 = .ok (.iload_n 1, 1) := by decide +kernel
theorem d_St_truthOf_7 : decode b_St_truthOf 7 = .ok (.invokevirtual 33, 3) := by decide +kernel
theorem d_St_truthOf_10 : decode b_St_truthOf 10 = .ok (.if_icmp .ge 17, 3) := by decide +kernel
theorem d_St_truthOf_13 : decode b_St_truthOf 13 = .ok (.aload_n 0, 1) := by decide +kernel
theorem d_St_truthOf_14 : decode b_St_truthOf 14 = .ok (.getfield 9, 3) := by decide +kernel
theorem d_St_truthOf_17 : decode b_St_truthOf 17 = .ok (.iload_n 1, 1) := by decide +kernel
theorem d_St_truthOf_18 : decode b_St_truthOf 18 = .ok (.bipush 8, 2) := by decide +kernel
theorem d_St_truthOf_20 : decode b_St_truthOf 20 = .ok (.imul, 1) := by decide +kernel
theorem d_St_truthOf_21 : decode b_St_truthOf 21 = .ok (.iload_n 2, 1) := by decide +kernel
theorem d_St_truthOf_22 : decode b_St_truthOf 22 = .ok (.iadd, 1) := by decide +kernel
theorem d_St_truthOf_23 : decode b_St_truthOf 23 = .ok (.iaload, 1) := by decide +kernel
theorem d_St_truthOf_24 : decode b_St_truthOf 24 = .ok (.goto 4, 3) := by decide +kernel
theorem d_St_truthOf_27 : decode b_St_truthOf 27 = .ok (.iconst (-1), 1) := by decide +kernel
theorem d_St_truthOf_28 : decode b_St_truthOf 28 = .ok (.ireturn, 1) := by decide +kernel
def f_St_truthOf_28 (s0 : Int32) (σ : St) : Int32 := s0
def k_St_truthOf_28 (s0 : Int32) (σ : St) : Prop := True
def f_St_truthOf_27 (σ : St) : Int32 := f_St_truthOf_28 (-1) σ
def k_St_truthOf_27 (σ : St) : Prop := k_St_truthOf_28 (-1) σ
def f_St_truthOf (a1 : Int32) (a2 : Int32) (σ : St) : Int32 := if a2 < 0 then (f_St_truthOf_27 σ) else (if (f_St_sizeOf a1 σ) ≤ a2 then (f_St_truthOf_27 σ) else (f_St_truthOf_28 (σ.1 32 ((a1 * 8) + a2).toNatClampNeg) σ))
def k_St_truthOf (a1 : Int32) (a2 : Int32) (σ : St) : Prop := (a2 < 0 → (k_St_truthOf_27 σ)) ∧ (¬ a2 < 0 → ((k_St_sizeOf a1 σ) ∧ (((f_St_sizeOf a1 σ) ≤ a2 → (k_St_truthOf_27 σ)) ∧ (¬ (f_St_sizeOf a1 σ) ≤ a2 → (vp_in ((a1 * 8) + a2) 480 ∧ (k_St_truthOf_28 (σ.1 32 ((a1 * 8) + a2).toNatClampNeg) σ))))))
abbrev w_St_truthOf : List Cond := Cond.code y_St_truthOf b_St_truthOf 3 (some .int) :: gw
abbrev rm_St_truthOf : Room := { frames := 2, cells := 0, slots := 0, locals := 42 }
set_option maxHeartbeats 4000000 in
set_option maxRecDepth 100000 in
theorem c_St_truthOf (l : Launch) (D : va_G) (ty : Nat → ClassId) (h : Nat → Nat) (px : va_W) (sa : Nat → Nat) (σ : St) (a1 : Int32) (a2 : Int32) (hk : k_St_truthOf a1 a2 σ) : Met l y_St_truthOf w_St_truthOf rm_St_truthOf (va_Pc [.ref (h 31), .int a1, .int a2] (fun U => va_P D classes (Wc ty h σ px) U.heap ∧ va_K D classes (Ta ty) U ∧ NW U ∧ MK sa (fun _ => False) U U.heap)) (k2_QcV (.int (f_St_truthOf a1 a2 σ))) 0 0 (fun _ => False) := by
  refine Met.ofW (cc := b_St_truthOf) (maxL := 3) (ret := (some .int)) (by decide) rfl ?_
  intro p e s m args below meth c s₁ B hml hv
  obtain ⟨ha, hP, hK, hN, hM⟩ := hv
  have hx := B.exec
  have hb := B.bytes
  have hr := B.returns
  have hg : ∀ w ∈ gw, w.before args s = true := fun w h9 => atoms_spec (ws := w_St_truthOf) B.pre w (List.mem_cons_of_mem _ h9)
  have hown : s.vm.findClass "ClauseLedger$Steps" = some m.cls := findClass_of_methodNamed B.named
  have hlocks := B.notSynchronized
  have he : entryFrame m args 3 = entryFrame m ([.ref (h 31), .int a1, .int a2] : List Value).toArray 3 := by rw [ha]
  rw [he, lg_entry_eq]
  have hl := lv_entry ([.ref (h 31), .int a1, .int a2]) (n := 3) (Nat.le_of_ble_eq_true rfl)
  generalize (lg_sl ([.ref (h 31), .int a1, .int a2]) ++ List.replicate (3 - (lg_sl ([.ref (h 31), .int a1, .int a2])).length) Slot.unset).toArray = ls at hl ⊢
  have hl : lv_has ls 3 [(0, .ref (h 31)), (1, .int a1), (2, .int a2)] := hl
  generalize hv : f_St_truthOf a1 a2 σ = v
  replace hv := hv.symm
  have B28 : ∀ (ls : Array Slot) (s0 : Int32), v = f_St_truthOf_28 s0 σ → k_St_truthOf_28 s0 σ → lv_has ls 3 [] → W p l e (headSpec w_St_truthOf rm_St_truthOf).room s m args below meth c s.heap [] 0 0 (MQ below (k2_QcV (.int v)) args s 0 0 (fun _ => False)) (F0 m 28 ls [.int s0]) := by
    intro ls s0 hv hk hl
    unfold f_St_truthOf_28 at hv
    unfold k_St_truthOf_28 at hk
    exact W.iret hx hb hr (fun t ht hW => ⟨by rw [hv], ht⟩) (fun q h => nomatch h) d_St_truthOf_28
  have B27 : ∀ (ls : Array Slot), v = f_St_truthOf_27 σ → k_St_truthOf_27 σ → lv_has ls 3 [] → W p l e (headSpec w_St_truthOf rm_St_truthOf).room s m args below meth c s.heap [] 0 0 (MQ below (k2_QcV (.int v)) args s 0 0 (fun _ => False)) (F0 m 27 ls []) := by
    intro ls hv hk hl
    unfold f_St_truthOf_27 at hv
    unfold k_St_truthOf_27 at hk
    refine lv_iconst (v := -1) hx hb d_St_truthOf_27 (by decide) ?_
    exact B28 _ (-1) hv hk (lv_sub hl [] rfl)
  unfold f_St_truthOf at hv
  unfold k_St_truthOf at hk
  refine lv_iload_n hx hb d_St_truthOf_0 rfl (lv_at hl 2 rfl) ?_
  refine lv_if_lt (tgt := 27) hx hb d_St_truthOf_1 (by decide) (fun hc => ?_) (fun hc => ?_)
  · have hv := hv.trans (if_pos hc)
    have hk := hk.1 hc
    exact B27 _  hv hk (lv_sub hl [] rfl)
  · have hv := hv.trans (if_neg hc)
    have hk := hk.2 hc
    refine lv_iload_n hx hb d_St_truthOf_4 rfl (lv_at hl 2 rfl) ?_
    refine lv_aload_n hx hb d_St_truthOf_5 rfl (lv_at hl 0 rfl) ?_
    refine lv_iload_n hx hb d_St_truthOf_6 rfl (lv_at hl 1 rfl) ?_
    obtain ⟨hk0, hk⟩ := hk
    refine zz_callV (va_runV (As := [.int a1]) (rest := [.int a2]) ⟨hx, hb, hml, hown, hg⟩ (c_St_sizeOf l D ty h px sa σ a1 hk0) ⟨callB_of 1 hg (gw_C m_376) rfl rfl rfl (hg _ m_12) (hg _ m_385) hd_St_sizeOf ⟨Nat.le_of_ble_eq_true rfl, Nat.le_of_ble_eq_true rfl⟩, hg _ m_374, hg _ m_375⟩ (zz_preV hM hN hK hP 31 rfl rfl) rfl rfl hl.1 rfl (lv_room (Nat.le_of_ble_eq_true rfl)) d_St_truthOf_7 ⟨Nat.le_of_ble_eq_true rfl, Nat.le_of_ble_eq_true rfl⟩) ?_
    refine lv_icmp_ge (tgt := 27) hx hb d_St_truthOf_10 (by decide) (fun hc => ?_) (fun hc => ?_)
    · have hv := hv.trans (if_pos hc)
      have hk := hk.1 hc
      exact B27 _  hv hk (lv_sub hl [] rfl)
    · have hv := hv.trans (if_neg hc)
      have hk := hk.2 hc
      refine lv_aload_n hx hb d_St_truthOf_13 rfl (lv_at hl 0 rfl) ?_
      refine va_get (v := .ref (h 32)) (C := R_St) (T := T_St) (N := 5) hx hb hg in_St hown hK hP 31 rfl rfl 0 (by decide) (hg _ m_268) (fun _ h9 => h9) rfl d_St_truthOf_14 ?_
      refine lv_iload_n hx hb d_St_truthOf_17 rfl (lv_at hl 1 rfl) ?_
      refine lv_bipush (v := 8) hx hb d_St_truthOf_18 (by decide) ?_
      refine lv_imul hx hb d_St_truthOf_20 ?_
      refine lv_iload_n hx hb d_St_truthOf_21 rfl (lv_at hl 2 rfl) ?_
      refine lv_iadd hx hb d_St_truthOf_22 ?_
      obtain ⟨hk0, hk⟩ := hk
      refine va_iald hx hb hK hP 32 0 rfl rfl hk0 d_St_truthOf_23 ?_
      refine lv_goto (tgt := 28) hx hb d_St_truthOf_24 (by decide) ?_
      exact B28 _ (σ.1 32 ((a1 * 8) + a2).toNatClampNeg) hv hk (lv_sub hl [] rfl)

-- ClauseLedger$Steps.holds(II)Z
abbrev b_St_holds : ByteArray := prog_9_method_9_code
def y_St_holds : MethodName := ⟨"ClauseLedger$Steps", "holds", "(II)Z"⟩
theorem hd_St_holds : y_St_holds.cls ≠ "java/lang/invoke/MethodHandle" ∧ y_St_holds.cls ≠ "java/lang/invoke/VarHandle" ∧ (parseMethodDescriptor y_St_holds.desc).map (fun d => d.parameters.length) = some 2 := by decide +kernel
theorem d_St_holds_0 : decode b_St_holds 0 = .ok (.iconst 0, 1) := by decide +kernel
theorem d_St_holds_1 : decode b_St_holds 1 = .ok (.istore_n 3, 1) := by decide +kernel
theorem d_St_holds_2 : decode b_St_holds 2 = .ok (.iload_n 3, 1) := by decide +kernel
theorem d_St_holds_3 : decode b_St_holds 3 = .ok (.aload_n 0, 1) := by decide +kernel
theorem d_St_holds_4 : decode b_St_holds 4 = .ok (.iload_n 1, 1) := by decide +kernel
theorem d_St_holds_5 : decode b_St_holds 5 = .ok (.invokevirtual 33, 3) := by decide +kernel
theorem d_St_holds_8 : decode b_St_holds 8 = .ok (.if_icmp .ge 21, 3) := by decide +kernel
theorem d_St_holds_11 : decode b_St_holds 11 = .ok (.aload_n 0, 1) := by decide +kernel
theorem d_St_holds_12 : decode b_St_holds 12 = .ok (.iload_n 1, 1) := by decide +kernel
theorem d_St_holds_13 : decode b_St_holds 13 = .ok (.iload_n 3, 1) := by decide +kernel
theorem d_St_holds_14 : decode b_St_holds 14 = .ok (.invokevirtual 37, 3) := by decide +kernel
theorem d_St_holds_17 : decode b_St_holds 17 = .ok (.iload_n 2, 1) := by decide +kernel
theorem d_St_holds_18 : decode b_St_holds 18 = .ok (.if_icmp .ne 5, 3) := by decide +kernel
theorem d_St_holds_21 : decode b_St_holds 21 = .ok (.iconst 1, 1) := by decide +kernel
theorem d_St_holds_22 : decode b_St_holds 22 = .ok (.ireturn, 1) := by decide +kernel
theorem d_St_holds_23 : decode b_St_holds 23 = .ok (.iinc 3 1, 3) := by decide +kernel
theorem d_St_holds_26 : decode b_St_holds 26 = .ok (.goto (-24), 3) := by decide +kernel
theorem d_St_holds_29 : decode b_St_holds 29 = .ok (.iconst 0, 1) := by decide +kernel
theorem d_St_holds_30 : decode b_St_holds 30 = .ok (.ireturn, 1) := by decide +kernel
def f_St_holds_2 : Nat → Int32 → Int32 → Int32 → St → Int32
  | 0, _, _, _, σ => 0
  | n + 1, x1, x2, x3, σ => if (f_St_sizeOf x1 σ) ≤ x3 then 0 else (if (f_St_truthOf x1 x3 σ) = x2 then 1 else ((f_St_holds_2 n) x1 x2 (x3 + 1) σ))
def k_St_holds_2 : Nat → Int32 → Int32 → Int32 → St → Prop
  | 0, _, _, _, _ => False
  | n + 1, x1, x2, x3, σ => (k_St_sizeOf x1 σ) ∧ (((f_St_sizeOf x1 σ) ≤ x3 → True) ∧ (¬ (f_St_sizeOf x1 σ) ≤ x3 → ((k_St_truthOf x1 x3 σ) ∧ (((f_St_truthOf x1 x3 σ) = x2 → True) ∧ (¬ (f_St_truthOf x1 x3 σ) = x2 → ((k_St_holds_2 n) x1 x2 (x3 + 1) σ))))))
def f_St_holds (a1 : Int32) (a2 : Int32) (σ : St) : Int32 := f_St_holds_2 1000 a1 a2 0 σ
def k_St_holds (a1 : Int32) (a2 : Int32) (σ : St) : Prop := k_St_holds_2 1000 a1 a2 0 σ
abbrev w_St_holds : List Cond := Cond.code y_St_holds b_St_holds 4 (some .boolean) :: gw
abbrev rm_St_holds : Room := { frames := 3, cells := 0, slots := 0, locals := 64 }
set_option maxHeartbeats 4000000 in
set_option maxRecDepth 100000 in
theorem c_St_holds (l : Launch) (D : va_G) (ty : Nat → ClassId) (h : Nat → Nat) (px : va_W) (sa : Nat → Nat) (σ : St) (a1 : Int32) (a2 : Int32) (hk : k_St_holds a1 a2 σ) : Met l y_St_holds w_St_holds rm_St_holds (va_Pc [.ref (h 31), .int a1, .int a2] (fun U => va_P D classes (Wc ty h σ px) U.heap ∧ va_K D classes (Ta ty) U ∧ NW U ∧ MK sa (fun _ => False) U U.heap)) (k2_QcV (.int (f_St_holds a1 a2 σ))) 0 0 (fun _ => False) := by
  refine Met.ofW (cc := b_St_holds) (maxL := 4) (ret := (some .boolean)) (by decide) rfl ?_
  intro p e s m args below meth c s₁ B hml hv
  obtain ⟨ha, hP, hK, hN, hM⟩ := hv
  have hx := B.exec
  have hb := B.bytes
  have hr := B.returns
  have hg : ∀ w ∈ gw, w.before args s = true := fun w h9 => atoms_spec (ws := w_St_holds) B.pre w (List.mem_cons_of_mem _ h9)
  have hown : s.vm.findClass "ClauseLedger$Steps" = some m.cls := findClass_of_methodNamed B.named
  have hlocks := B.notSynchronized
  have he : entryFrame m args 4 = entryFrame m ([.ref (h 31), .int a1, .int a2] : List Value).toArray 4 := by rw [ha]
  rw [he, lg_entry_eq]
  have hl := lv_entry ([.ref (h 31), .int a1, .int a2]) (n := 4) (Nat.le_of_ble_eq_true rfl)
  generalize (lg_sl ([.ref (h 31), .int a1, .int a2]) ++ List.replicate (4 - (lg_sl ([.ref (h 31), .int a1, .int a2])).length) Slot.unset).toArray = ls at hl ⊢
  have hl : lv_has ls 4 [(0, .ref (h 31)), (1, .int a1), (2, .int a2)] := hl
  generalize hv : f_St_holds a1 a2 σ = v
  replace hv := hv.symm
  have B2 : ∀ (n2 : Nat) (ls : Array Slot) (x1 : Int32) (x2 : Int32) (x3 : Int32), v = f_St_holds_2 n2 x1 x2 x3 σ → k_St_holds_2 n2 x1 x2 x3 σ → lv_has ls 4 [(0, .ref (h 31)), (1, .int x1), (2, .int x2), (3, .int x3)] → W p l e (headSpec w_St_holds rm_St_holds).room s m args below meth c s.heap [] 0 0 (MQ below (k2_QcV (.int v)) args s 0 0 (fun _ => False)) (F0 m 2 ls []) := by
    intro n2
    induction n2 with
    | zero => intro ls x1 x2 x3 hv hk hl; exact hk.elim
    | succ n2 ih2 =>
      intro ls x1 x2 x3 hv hk hl
      rw [f_St_holds_2] at hv
      rw [k_St_holds_2] at hk
      refine lv_iload_n hx hb d_St_holds_2 rfl (lv_at hl 3 rfl) ?_
      refine lv_aload_n hx hb d_St_holds_3 rfl (lv_at hl 0 rfl) ?_
      refine lv_iload_n hx hb d_St_holds_4 rfl (lv_at hl 1 rfl) ?_
      obtain ⟨hk0, hk⟩ := hk
      refine zz_callV (va_runV (As := [.int x1]) (rest := [.int x3]) ⟨hx, hb, hml, hown, hg⟩ (c_St_sizeOf l D ty h px sa σ x1 hk0) ⟨callB_of 1 hg (gw_C m_376) rfl rfl rfl (hg _ m_12) (hg _ m_385) hd_St_sizeOf ⟨Nat.le_of_ble_eq_true rfl, Nat.le_of_ble_eq_true rfl⟩, hg _ m_374, hg _ m_375⟩ (zz_preV hM hN hK hP 31 rfl rfl) rfl rfl hl.1 rfl (lv_room (Nat.le_of_ble_eq_true rfl)) d_St_holds_5 ⟨Nat.le_of_ble_eq_true rfl, Nat.le_of_ble_eq_true rfl⟩) ?_
      refine lv_icmp_ge (tgt := 29) hx hb d_St_holds_8 (by decide) (fun hc => ?_) (fun hc => ?_)
      · have hv := hv.trans (if_pos hc)
        have hk := hk.1 hc
        refine lv_iconst (v := 0) hx hb d_St_holds_29 (by decide) ?_
        exact W.zret hx hb hr rfl (fun t ht hW => ⟨by rw [hv], ht⟩) (fun q h => nomatch h) d_St_holds_30
      · have hv := hv.trans (if_neg hc)
        have hk := hk.2 hc
        refine lv_aload_n hx hb d_St_holds_11 rfl (lv_at hl 0 rfl) ?_
        refine lv_iload_n hx hb d_St_holds_12 rfl (lv_at hl 1 rfl) ?_
        refine lv_iload_n hx hb d_St_holds_13 rfl (lv_at hl 3 rfl) ?_
        obtain ⟨hk0, hk⟩ := hk
        refine zz_callV (va_runV (As := [.int x1, .int x3]) (rest := []) ⟨hx, hb, hml, hown, hg⟩ (c_St_truthOf l D ty h px sa σ x1 x3 hk0) ⟨callB_of 2 hg (gw_C m_384) rfl rfl rfl (hg _ m_12) (hg _ m_984) hd_St_truthOf ⟨Nat.le_of_ble_eq_true rfl, Nat.le_of_ble_eq_true rfl⟩, hg _ m_382, hg _ m_383⟩ (zz_preV hM hN hK hP 31 rfl rfl) rfl rfl hl.1 rfl (lv_room (Nat.le_of_ble_eq_true rfl)) d_St_holds_14 ⟨Nat.le_of_ble_eq_true rfl, Nat.le_of_ble_eq_true rfl⟩) ?_
        refine lv_iload_n hx hb d_St_holds_17 rfl (lv_at hl 2 rfl) ?_
        refine lv_icmp_ne (tgt := 23) hx hb d_St_holds_18 (by decide) (fun hc => ?_) (fun hc => ?_)
        · have hv := hv.trans (if_neg hc)
          have hk := hk.2 hc
          refine lv_iinc (k := 3) (v := x3 + 1) (lv' := [(3, .int (x3 + 1)), (0, .ref (h 31)), (1, .int x1), (2, .int x2)]) hx hb d_St_holds_23 hl rfl (by first | rfl | simp [lit1, litm1]) (by decide) rfl (fun ls hl => ?_)
          refine lv_goto (tgt := 2) hx hb d_St_holds_26 (by decide) ?_
          exact ih2 _ x1 x2 (x3 + 1) hv hk (lv_sub hl [1, 2, 3, 0] rfl)
        · have hv := hv.trans (if_pos hc)
          have hk := hk.1 hc
          refine lv_iconst (v := 1) hx hb d_St_holds_21 (by decide) ?_
          exact W.zret hx hb hr rfl (fun t ht hW => ⟨by rw [hv], ht⟩) (fun q h => nomatch h) d_St_holds_22
  unfold f_St_holds at hv
  unfold k_St_holds at hk
  refine lv_iconst (v := 0) hx hb d_St_holds_0 (by decide) ?_
  refine lv_istore_n (lv' := [(3, .int 0), (0, .ref (h 31)), (1, .int a1), (2, .int a2)]) hx hb d_St_holds_1 rfl hl (by decide) rfl (fun ls hl => ?_)
  exact B2 1000 _ a1 a2 0 hv hk (lv_sub hl [1, 2, 3, 0] rfl)

-- ClauseLedger.joinAllBut(II)V
abbrev b_CL_joinAllBut : ByteArray := prog_1_method_35_code
def y_CL_joinAllBut : MethodName := ⟨"ClauseLedger", "joinAllBut", "(II)V"⟩
theorem hd_CL_joinAllBut : y_CL_joinAllBut.cls ≠ "java/lang/invoke/MethodHandle" ∧ y_CL_joinAllBut.cls ≠ "java/lang/invoke/VarHandle" ∧ (parseMethodDescriptor y_CL_joinAllBut.desc).map (fun d => d.parameters.length) = some 2 := by decide +kernel
theorem d_CL_joinAllBut_0 : decode b_CL_joinAllBut 0 = .ok (.iconst 0, 1) := by decide +kernel
theorem d_CL_joinAllBut_1 : decode b_CL_joinAllBut 1 = .ok (.istore_n 3, 1) := by decide +kernel
theorem d_CL_joinAllBut_2 : decode b_CL_joinAllBut 2 = .ok (.iload_n 3, 1) := by decide +kernel
theorem d_CL_joinAllBut_3 : decode b_CL_joinAllBut 3 = .ok (.aload_n 0, 1) := by decide +kernel
theorem d_CL_joinAllBut_4 : decode b_CL_joinAllBut 4 = .ok (.getfield 79, 3) := by decide +kernel
theorem d_CL_joinAllBut_7 : decode b_CL_joinAllBut 7 = .ok (.iload_n 1, 1) := by decide +kernel
theorem d_CL_joinAllBut_8 : decode b_CL_joinAllBut 8 = .ok (.invokevirtual 242, 3) := by decide +kernel
theorem d_CL_joinAllBut_11 : decode b_CL_joinAllBut 11 = .ok (.if_icmp .ge 38, 3) := by decide +kernel
theorem d_CL_joinAllBut_14 : decode b_CL_joinAllBut 14 = .ok (.aload_n 0, 1) := by decide +kernel
theorem d_CL_joinAllBut_15 : decode b_CL_joinAllBut 15 = .ok (.getfield 79, 3) := by decide +kernel
theorem d_CL_joinAllBut_18 : decode b_CL_joinAllBut 18 = .ok (.iload_n 1, 1) := by decide +kernel
theorem d_CL_joinAllBut_19 : decode b_CL_joinAllBut 19 = .ok (.iload_n 3, 1) := by decide +kernel
theorem d_CL_joinAllBut_20 : decode b_CL_joinAllBut 20 = .ok (.invokevirtual 245, 3) := by decide +kernel
theorem d_CL_joinAllBut_23 : decode b_CL_joinAllBut 23 = .ok (.iload_n 2, 1) := by decide +kernel
theorem d_CL_joinAllBut_24 : decode b_CL_joinAllBut 24 = .ok (.if_icmp .eq 19, 3) := by decide +kernel
theorem d_CL_joinAllBut_27 : decode b_CL_joinAllBut 27 = .ok (.aload_n 0, 1) := by decide +kernel
theorem d_CL_joinAllBut_28 : decode b_CL_joinAllBut 28 = .ok (.getfield 65, 3) := by decide +kernel
theorem d_CL_joinAllBut_31 : decode b_CL_joinAllBut 31 = .ok (.aload_n 0, 1) := by decide +kernel
theorem d_CL_joinAllBut_32 : decode b_CL_joinAllBut 32 = .ok (.getfield 79, 3) := by decide +kernel
theorem d_CL_joinAllBut_35 : decode b_CL_joinAllBut 35 = .ok (.iload_n 1, 1) := by decide +kernel
theorem d_CL_joinAllBut_36 : decode b_CL_joinAllBut 36 = .ok (.iload_n 3, 1) := by decide +kernel
theorem d_CL_joinAllBut_37 : decode b_CL_joinAllBut 37 = .ok (.invokevirtual 245, 3) := by decide +kernel
theorem d_CL_joinAllBut_40 : decode b_CL_joinAllBut 40 = .ok (.invokevirtual 141, 3) := by decide +kernel
theorem d_CL_joinAllBut_43 : decode b_CL_joinAllBut 43 = .ok (.iinc 3 1, 3) := by decide +kernel
theorem d_CL_joinAllBut_46 : decode b_CL_joinAllBut 46 = .ok (.goto (-44), 3) := by decide +kernel
theorem d_CL_joinAllBut_49 : decode b_CL_joinAllBut 49 = .ok (.return_, 1) := by decide +kernel
def f_CL_joinAllBut_43 (F2 : (Int32 → Int32 → Int32 → St → St)) (x1 : Int32) (x2 : Int32) (x3 : Int32) (σ : St) : St := F2 x1 x2 (x3 + 1) σ
def k_CL_joinAllBut_43 (K2 : (Int32 → Int32 → Int32 → St → Prop)) (x1 : Int32) (x2 : Int32) (x3 : Int32) (σ : St) : Prop := K2 x1 x2 (x3 + 1) σ
def f_CL_joinAllBut_2 : Nat → Int32 → Int32 → Int32 → St → St
  | 0, _, _, _, σ => σ
  | n + 1, x1, x2, x3, σ => if (f_St_sizeOf x1 σ) ≤ x3 then σ else (if (f_St_truthOf x1 x3 σ) = x2 then (f_CL_joinAllBut_43 (f_CL_joinAllBut_2 n) x1 x2 x3 σ) else (f_CL_joinAllBut_43 (f_CL_joinAllBut_2 n) x1 x2 x3 (f_Ro_join (f_St_truthOf x1 x3 σ) σ)))
def k_CL_joinAllBut_2 : Nat → Int32 → Int32 → Int32 → St → Prop
  | 0, _, _, _, _ => False
  | n + 1, x1, x2, x3, σ => (k_St_sizeOf x1 σ) ∧ (((f_St_sizeOf x1 σ) ≤ x3 → True) ∧ (¬ (f_St_sizeOf x1 σ) ≤ x3 → ((k_St_truthOf x1 x3 σ) ∧ (((f_St_truthOf x1 x3 σ) = x2 → (k_CL_joinAllBut_43 (k_CL_joinAllBut_2 n) x1 x2 x3 σ)) ∧ (¬ (f_St_truthOf x1 x3 σ) = x2 → ((k_St_truthOf x1 x3 σ) ∧ ((k_Ro_join (f_St_truthOf x1 x3 σ) σ) ∧ (k_CL_joinAllBut_43 (k_CL_joinAllBut_2 n) x1 x2 x3 (f_Ro_join (f_St_truthOf x1 x3 σ) σ)))))))))
def f_CL_joinAllBut (a1 : Int32) (a2 : Int32) (σ : St) : St := f_CL_joinAllBut_2 1000 a1 a2 0 σ
def k_CL_joinAllBut (a1 : Int32) (a2 : Int32) (σ : St) : Prop := k_CL_joinAllBut_2 1000 a1 a2 0 σ
abbrev w_CL_joinAllBut : List Cond := Cond.code y_CL_joinAllBut b_CL_joinAllBut 4 none :: gw
abbrev rm_CL_joinAllBut : Room := { frames := 3, cells := 0, slots := 0, locals := 64 }
set_option maxHeartbeats 4000000 in
set_option maxRecDepth 100000 in
theorem c_CL_joinAllBut (l : Launch) (D : va_G) (ty : Nat → ClassId) (h : Nat → Nat) (px : va_W) (sa : Nat → Nat) (σ : St) (sz : Nat) (a1 : Int32) (a2 : Int32) (hk : k_CL_joinAllBut a1 a2 σ) : Met l y_CL_joinAllBut w_CL_joinAllBut rm_CL_joinAllBut (va_Pc [.ref (h 0), .int a1, .int a2] (fun U => U.heap.size = sz ∧ va_P D classes (Wc ty h σ px) U.heap ∧ va_K D classes (Ta ty) U ∧ NW U ∧ MK sa (va_A (Wc ty h σ px) sz) U U.heap ∧ va_D (fun _ => True) (Wc ty h σ px))) (va_Qv (fun u : St => u = f_CL_joinAllBut a1 a2 σ) (fun u t => va_P D classes (Wc ty h u px) t.heap) (va_A (Wc ty h σ px) sz)) 0 0 (va_A (Wc ty h σ px) sz) := by
  refine Met.ofW (cc := b_CL_joinAllBut) (maxL := 4) (ret := none) (by decide) rfl ?_
  intro p e s m args below meth c s₁ B hml hv
  obtain ⟨ha, hsz, hP, hK, hN, hM, hD0⟩ := hv
  have hx := B.exec
  have hb := B.bytes
  have hr := B.returns
  have hg : ∀ w ∈ gw, w.before args s = true := fun w h9 => atoms_spec (ws := w_CL_joinAllBut) B.pre w (List.mem_cons_of_mem _ h9)
  have hown : s.vm.findClass "ClauseLedger" = some m.cls := findClass_of_methodNamed B.named
  have hlocks := B.notSynchronized
  subst hsz
  have hD := hD0.self (sz := s.heap.size)
  generalize hAe : va_A (Wc ty h σ px) s.heap.size = A at hD hM ⊢
  have hA : ∀ q : Nat, s.heap.size ≤ q → A q := fun q h9 => by rw [← hAe]; exact Or.inr h9
  have hS : va_S A s.heap s.heap [] := va_S.rf
  have he : entryFrame m args 4 = entryFrame m ([.ref (h 0), .int a1, .int a2] : List Value).toArray 4 := by rw [ha]
  rw [he, lg_entry_eq]
  have hl := lv_entry ([.ref (h 0), .int a1, .int a2]) (n := 4) (Nat.le_of_ble_eq_true rfl)
  generalize (lg_sl ([.ref (h 0), .int a1, .int a2]) ++ List.replicate (4 - (lg_sl ([.ref (h 0), .int a1, .int a2])).length) Slot.unset).toArray = ls at hl ⊢
  have hl : lv_has ls 4 [(0, .ref (h 0)), (1, .int a1), (2, .int a2)] := hl
  generalize hv : f_CL_joinAllBut a1 a2 σ = v
  replace hv := hv.symm
  have B2 : ∀ (n2 : Nat) (H : Heap) (locs : List Loc) (ls : Array Slot) (x1 : Int32) (x2 : Int32) (x3 : Int32) (σ : St), v = f_CL_joinAllBut_2 n2 x1 x2 x3 σ → k_CL_joinAllBut_2 n2 x1 x2 x3 σ → lv_has ls 4 [(0, .ref (h 0)), (1, .int x1), (2, .int x2), (3, .int x3)] → va_P D classes (Wc ty h σ px) H → va_D A (Wc ty h σ px) → va_S A s.heap H locs → W p l e (headSpec w_CL_joinAllBut rm_CL_joinAllBut).room s m args below meth c H locs 0 0 (MQ below (va_Qv (fun u : St => u = v) (fun u t => va_P D classes (Wc ty h u px) t.heap) A) args s 0 0 A) (F0 m 2 ls []) := by
    intro n2
    induction n2 with
    | zero => intro H locs ls x1 x2 x3 σ hv hk hl hP hD hS; exact hk.elim
    | succ n2 ih2 =>
      have B43 : ∀ (H : Heap) (locs : List Loc) (ls : Array Slot) (x1 : Int32) (x2 : Int32) (x3 : Int32) (σ : St), v = f_CL_joinAllBut_43 (f_CL_joinAllBut_2 n2) x1 x2 x3 σ → k_CL_joinAllBut_43 (k_CL_joinAllBut_2 n2) x1 x2 x3 σ → lv_has ls 4 [(0, .ref (h 0)), (1, .int x1), (2, .int x2), (3, .int x3)] → va_P D classes (Wc ty h σ px) H → va_D A (Wc ty h σ px) → va_S A s.heap H locs → W p l e (headSpec w_CL_joinAllBut rm_CL_joinAllBut).room s m args below meth c H locs 0 0 (MQ below (va_Qv (fun u : St => u = v) (fun u t => va_P D classes (Wc ty h u px) t.heap) A) args s 0 0 A) (F0 m 43 ls []) := by
        intro H locs ls x1 x2 x3 σ hv hk hl hP hD hS
        unfold f_CL_joinAllBut_43 at hv
        unfold k_CL_joinAllBut_43 at hk
        refine lv_iinc (k := 3) (v := x3 + 1) (lv' := [(3, .int (x3 + 1)), (0, .ref (h 0)), (1, .int x1), (2, .int x2)]) hx hb d_CL_joinAllBut_43 hl rfl (by first | rfl | simp [lit1, litm1]) (by decide) rfl (fun ls hl => ?_)
        refine lv_goto (tgt := 2) hx hb d_CL_joinAllBut_46 (by decide) ?_
        exact ih2 _ _ _ x1 x2 (x3 + 1) σ hv hk (lv_sub hl [1, 2, 3, 0] rfl) hP hD hS
      intro H locs ls x1 x2 x3 σ hv hk hl hP hD hS
      rw [f_CL_joinAllBut_2] at hv
      rw [k_CL_joinAllBut_2] at hk
      refine lv_iload_n hx hb d_CL_joinAllBut_2 rfl (lv_at hl 3 rfl) ?_
      refine lv_aload_n hx hb d_CL_joinAllBut_3 rfl (lv_at hl 0 rfl) ?_
      refine va_get (v := .ref (h 31)) (C := R_CL) (T := T_CL) (N := 11) hx hb hg in_CL hown hK hP 0 rfl rfl 9 (by decide) (hg _ m_293) (fun _ h9 => h9) rfl d_CL_joinAllBut_4 ?_
      refine lv_iload_n hx hb d_CL_joinAllBut_7 rfl (lv_at hl 1 rfl) ?_
      obtain ⟨hk0, hk⟩ := hk
      refine zz_callV (va_runV (As := [.int x1]) (rest := [.int x3]) ⟨hx, hb, hml, hown, hg⟩ (c_St_sizeOf l D ty h px sa σ x1 hk0) ⟨callB_of 1 hg (gw_C m_376) rfl rfl rfl (hg _ m_12) (hg _ m_373) hd_St_sizeOf ⟨Nat.le_of_ble_eq_true rfl, Nat.le_of_ble_eq_true rfl⟩, hg _ m_374, hg _ m_375⟩ (zz_preV (hM.at hS) hN hK hP 31 rfl rfl) rfl rfl hl.1 rfl (lv_room (Nat.le_of_ble_eq_true rfl)) d_CL_joinAllBut_8 ⟨Nat.le_of_ble_eq_true rfl, Nat.le_of_ble_eq_true rfl⟩) ?_
      refine lv_icmp_ge (tgt := 49) hx hb d_CL_joinAllBut_11 (by decide) (fun hc => ?_) (fun hc => ?_)
      · have hv := hv.trans (if_pos hc)
        have hk := hk.1 hc
        exact W.vret hx hb hr (fun t ht hW => ⟨⟨_, rfl, hv.symm, by dsimp only; rw [ht]; exact hP⟩, hS.F ht⟩) hS.2.2 d_CL_joinAllBut_49
      · have hv := hv.trans (if_neg hc)
        have hk := hk.2 hc
        refine lv_aload_n hx hb d_CL_joinAllBut_14 rfl (lv_at hl 0 rfl) ?_
        refine va_get (v := .ref (h 31)) (C := R_CL) (T := T_CL) (N := 11) hx hb hg in_CL hown hK hP 0 rfl rfl 9 (by decide) (hg _ m_293) (fun _ h9 => h9) rfl d_CL_joinAllBut_15 ?_
        refine lv_iload_n hx hb d_CL_joinAllBut_18 rfl (lv_at hl 1 rfl) ?_
        refine lv_iload_n hx hb d_CL_joinAllBut_19 rfl (lv_at hl 3 rfl) ?_
        obtain ⟨hk0, hk⟩ := hk
        refine zz_callV (va_runV (As := [.int x1, .int x3]) (rest := []) ⟨hx, hb, hml, hown, hg⟩ (c_St_truthOf l D ty h px sa σ x1 x3 hk0) ⟨callB_of 2 hg (gw_C m_384) rfl rfl rfl (hg _ m_12) (hg _ m_381) hd_St_truthOf ⟨Nat.le_of_ble_eq_true rfl, Nat.le_of_ble_eq_true rfl⟩, hg _ m_382, hg _ m_383⟩ (zz_preV (hM.at hS) hN hK hP 31 rfl rfl) rfl rfl hl.1 rfl (lv_room (Nat.le_of_ble_eq_true rfl)) d_CL_joinAllBut_20 ⟨Nat.le_of_ble_eq_true rfl, Nat.le_of_ble_eq_true rfl⟩) ?_
        refine lv_iload_n hx hb d_CL_joinAllBut_23 rfl (lv_at hl 2 rfl) ?_
        refine lv_icmp_eq (tgt := 43) hx hb d_CL_joinAllBut_24 (by decide) (fun hc => ?_) (fun hc => ?_)
        · have hv := hv.trans (if_pos hc)
          have hk := hk.1 hc
          exact B43 _ _ _ x1 x2 x3 σ hv hk (lv_sub hl [0, 1, 2, 3] rfl) hP hD hS
        · have hv := hv.trans (if_neg hc)
          have hk := hk.2 hc
          refine lv_aload_n hx hb d_CL_joinAllBut_27 rfl (lv_at hl 0 rfl) ?_
          refine va_get (v := .ref (h 25)) (C := R_CL) (T := T_CL) (N := 11) hx hb hg in_CL hown hK hP 0 rfl rfl 7 (by decide) (hg _ m_291) (fun _ h9 => h9) rfl d_CL_joinAllBut_28 ?_
          refine lv_aload_n hx hb d_CL_joinAllBut_31 rfl (lv_at hl 0 rfl) ?_
          refine va_get (v := .ref (h 31)) (C := R_CL) (T := T_CL) (N := 11) hx hb hg in_CL hown hK hP 0 rfl rfl 9 (by decide) (hg _ m_293) (fun _ h9 => h9) rfl d_CL_joinAllBut_32 ?_
          refine lv_iload_n hx hb d_CL_joinAllBut_35 rfl (lv_at hl 1 rfl) ?_
          refine lv_iload_n hx hb d_CL_joinAllBut_36 rfl (lv_at hl 3 rfl) ?_
          obtain ⟨hk0, hk⟩ := hk
          refine zz_callV (va_runV (As := [.int x1, .int x3]) (rest := [.ref (h 25)]) ⟨hx, hb, hml, hown, hg⟩ (c_St_truthOf l D ty h px sa σ x1 x3 hk0) ⟨callB_of 2 hg (gw_C m_384) rfl rfl rfl (hg _ m_12) (hg _ m_381) hd_St_truthOf ⟨Nat.le_of_ble_eq_true rfl, Nat.le_of_ble_eq_true rfl⟩, hg _ m_382, hg _ m_383⟩ (zz_preV (hM.at hS) hN hK hP 31 rfl rfl) rfl rfl hl.1 rfl (lv_room (Nat.le_of_ble_eq_true rfl)) d_CL_joinAllBut_37 ⟨Nat.le_of_ble_eq_true rfl, Nat.le_of_ble_eq_true rfl⟩) ?_
          obtain ⟨hk0, hk⟩ := hk
          refine va_callv (va_runV (As := [.int (f_St_truthOf x1 x3 σ)]) (rest := []) ⟨hx, hb, hml, hown, hg⟩ (c_Ro_join l D ty h px sa σ H.size (f_St_truthOf x1 x3 σ) hk0) ⟨callB_of 1 hg (gw_C m_939) rfl rfl rfl (hg _ m_10) (hg _ m_936) hd_Ro_join ⟨Nat.le_of_ble_eq_true rfl, Nat.le_of_ble_eq_true rfl⟩, hg _ m_937, hg _ m_938⟩ (zz_preVW hM hS hA hN hK hP hD 25 rfl rfl) rfl rfl hl.1 rfl (lv_room (Nat.le_of_ble_eq_true rfl)) d_CL_joinAllBut_40 ⟨Nat.le_of_ble_eq_true rfl, Nat.le_of_ble_eq_true rfl⟩) hS (fun q _ h => zz_free hD hS hA q h) (zz_free hD hS hA) (fun u40 t H locs ht hvm hp hP1 hz hk1 hS => ?_)
          rw [ht] at hP1
          rw [← hp] at hv hk
          have hD : va_D A (Wc ty h u40 px) := zz_D hD rfl
          have hP := hP1
          exact B43 _ _ _ x1 x2 x3 u40 hv hk (lv_sub hl [0, 1, 2, 3] rfl) hP hD hS
  unfold f_CL_joinAllBut at hv
  unfold k_CL_joinAllBut at hk
  refine lv_iconst (v := 0) hx hb d_CL_joinAllBut_0 (by decide) ?_
  refine lv_istore_n (lv' := [(3, .int 0), (0, .ref (h 0)), (1, .int a1), (2, .int a2)]) hx hb d_CL_joinAllBut_1 rfl hl (by decide) rfl (fun ls hl => ?_)
  exact B2 1000 _ _ _ a1 a2 0 σ hv hk (lv_sub hl [1, 2, 3, 0] rfl) hP hD hS

-- ClauseLedger.cut(III)I
abbrev b_CL_cut : ByteArray := prog_1_method_8_code
def y_CL_cut : MethodName := ⟨"ClauseLedger", "cut", "(III)I"⟩
theorem hd_CL_cut : y_CL_cut.cls ≠ "java/lang/invoke/MethodHandle" ∧ y_CL_cut.cls ≠ "java/lang/invoke/VarHandle" ∧ (parseMethodDescriptor y_CL_cut.desc).map (fun d => d.parameters.length) = some 3 := by decide +kernel
theorem d_CL_cut_0 : decode b_CL_cut 0 = .ok (.aload_n 0, 1) := by decide +kernel
theorem d_CL_cut_1 : decode b_CL_cut 1 = .ok (.invokevirtual 102, 3) := by decide +kernel
theorem d_CL_cut_4 : decode b_CL_cut 4 = .ok (.ifCond .eq 5, 3) := by decide +kernel
theorem d_CL_cut_7 : decode b_CL_cut 7 = .ok (.iconst (-1), 1) := by decide +kernel
theorem d_CL_cut_8 : decode b_CL_cut 8 = .ok (.ireturn, 1) := by decide +kernel
theorem d_CL_cut_9 : decode b_CL_cut 9 = .ok (.aload_n 0, 1) := by decide +kernel
theorem d_CL_cut_10 : decode b_CL_cut 10 = .ok (.iload_n 1, 1) := by decide +kernel
theorem d_CL_cut_11 : decode b_CL_cut 11 = .ok (.invokevirtual 152, 3) := by decide +kernel
theorem d_CL_cut_14 : decode b_CL_cut 14 = .ok (.ifCond .eq 22, 3) := by decide +kernel
theorem d_CL_cut_17 : decode b_CL_cut 17 = .ok (.aload_n 0, 1) := by decide +kernel
theorem d_CL_cut_18 : decode b_CL_cut 18 = .ok (.getfield 19, 3) := by decide +kernel
theorem d_CL_cut_21 : decode b_CL_cut 21 = .ok (.iload_n 2, 1) := by decide +kernel
theorem d_CL_cut_22 : decode b_CL_cut 22 = .ok (.invokevirtual 130, 3) := by decide +kernel
theorem d_CL_cut_25 : decode b_CL_cut 25 = .ok (.ifCond .eq 11, 3) := by decide +kernel
theorem d_CL_cut_28 : decode b_CL_cut 28 = .ok (.aload_n 0, 1) := by decide +kernel
theorem d_CL_cut_29 : decode b_CL_cut 29 = .ok (.iload_n 3, 1) := by decide +kernel
theorem d_CL_cut_30 : decode b_CL_cut 30 = .ok (.invokevirtual 152, 3) := by decide +kernel
theorem d_CL_cut_33 : decode b_CL_cut 33 = .ok (.ifCond .ne 8, 3) := by decide +kernel
theorem d_CL_cut_36 : decode b_CL_cut 36 = .ok (.aload_n 0, 1) := by decide +kernel
theorem d_CL_cut_37 : decode b_CL_cut 37 = .ok (.invokevirtual 134, 3) := by decide +kernel
theorem d_CL_cut_40 : decode b_CL_cut 40 = .ok (.ireturn, 1) := by decide +kernel
theorem d_CL_cut_41 : decode b_CL_cut 41 = .ok (.aload_n 0, 1) := by decide +kernel
theorem d_CL_cut_42 : decode b_CL_cut 42 = .ok (.getfield 19, 3) := by decide +kernel
theorem d_CL_cut_45 : decode b_CL_cut 45 = .ok (.iload_n 2, 1) := by decide +kernel
theorem d_CL_cut_46 : decode b_CL_cut 46 = .ok (.invokevirtual 155, 3) := by decide +kernel
theorem d_CL_cut_49 : decode b_CL_cut 49 = .ok (.istore 4, 2) := by decide +kernel
theorem d_CL_cut_51 : decode b_CL_cut 51 = .ok (.iload 4, 2) := by decide +kernel
theorem d_CL_cut_53 : decode b_CL_cut 53 = .ok (.iconst (-1), 1) := by decide +kernel
theorem d_CL_cut_54 : decode b_CL_cut 54 = .ok (.if_icmp .eq 28, 3) := by decide +kernel
theorem d_CL_cut_57 : decode b_CL_cut 57 = .ok (.aload_n 0, 1) := by decide +kernel
theorem d_CL_cut_58 : decode b_CL_cut 58 = .ok (.getfield 79, 3) := by decide +kernel
theorem d_CL_cut_61 : decode b_CL_cut 61 = .ok (.iload_n 1, 1) := by decide +kernel
theorem d_CL_cut_62 : decode b_CL_cut 62 = .ok (.iload_n 2, 1) := by decide +kernel
theorem d_CL_cut_63 : decode b_CL_cut 63 = .ok (.invokevirtual 159, 3) := by decide +kernel
theorem d_CL_cut_66 : decode b_CL_cut 66 = .ok (.ifCond .eq 16, 3) := by decide +kernel
theorem d_CL_cut_69 : decode b_CL_cut 69 = .ok (.aload_n 0, 1) := by decide +kernel
theorem d_CL_cut_70 : decode b_CL_cut 70 = .ok (.getfield 79, 3) := by decide +kernel
theorem d_CL_cut_73 : decode b_CL_cut 73 = .ok (.iload_n 3, 1) := by decide +kernel
theorem d_CL_cut_74 : decode b_CL_cut 74 = .ok (.iload 4, 2) := by decide +kernel
theorem d_CL_cut_76 : decode b_CL_cut 76 = .ok (.invokevirtual 159, 3) := by decide +kernel
theorem d_CL_cut_79 : decode b_CL_cut 79 = .ok (.ifCond .ne 8, 3) := by decide +kernel
theorem d_CL_cut_82 : decode b_CL_cut 82 = .ok (.aload_n 0, 1) := by decide +kernel
theorem d_CL_cut_83 : decode b_CL_cut 83 = .ok (.invokevirtual 112, 3) := by decide +kernel
theorem d_CL_cut_86 : decode b_CL_cut 86 = .ok (.ireturn, 1) := by decide +kernel
theorem d_CL_cut_87 : decode b_CL_cut 87 = .ok (.aload_n 0, 1) := by decide +kernel
theorem d_CL_cut_88 : decode b_CL_cut 88 = .ok (.getfield 65, 3) := by decide +kernel
theorem d_CL_cut_91 : decode b_CL_cut 91 = .ok (.invokevirtual 140, 3) := by decide +kernel
theorem d_CL_cut_94 : decode b_CL_cut 94 = .ok (.aload_n 0, 1) := by decide +kernel
theorem d_CL_cut_95 : decode b_CL_cut 95 = .ok (.iload_n 1, 1) := by decide +kernel
theorem d_CL_cut_96 : decode b_CL_cut 96 = .ok (.iload_n 2, 1) := by decide +kernel
theorem d_CL_cut_97 : decode b_CL_cut 97 = .ok (.invokevirtual 162, 3) := by decide +kernel
theorem d_CL_cut_100 : decode b_CL_cut 100 = .ok (.aload_n 0, 1) := by decide +kernel
theorem d_CL_cut_101 : decode b_CL_cut 101 = .ok (.iload_n 3, 1) := by decide +kernel
theorem d_CL_cut_102 : decode b_CL_cut 102 = .ok (.iload 4, 2) := by decide +kernel
theorem d_CL_cut_104 : decode b_CL_cut 104 = .ok (.invokevirtual 162, 3) := by decide +kernel
theorem d_CL_cut_107 : decode b_CL_cut 107 = .ok (.aload_n 0, 1) := by decide +kernel
theorem d_CL_cut_108 : decode b_CL_cut 108 = .ok (.aload_n 0, 1) := by decide +kernel
theorem d_CL_cut_109 : decode b_CL_cut 109 = .ok (.getfield 72, 3) := by decide +kernel
theorem d_CL_cut_112 : decode b_CL_cut 112 = .ok (.invokevirtual 145, 3) := by decide +kernel
theorem d_CL_cut_115 : decode b_CL_cut 115 = .ok (.iconst 0, 1) := by decide +kernel
theorem d_CL_cut_116 : decode b_CL_cut 116 = .ok (.invokevirtual 148, 3) := by decide +kernel
theorem d_CL_cut_119 : decode b_CL_cut 119 = .ok (.ireturn, 1) := by decide +kernel
def f_CL_cut_40 (s0 : Int32) (σ : St) : XR := (.inl s0, σ)
def k_CL_cut_40 (s0 : Int32) (σ : St) : Prop := True
def f_CL_cut_36 (σ : St) : XR := xb (f_CL_throwMissing σ) (fun x u => f_CL_cut_40 x u)
def k_CL_cut_36 (σ : St) : Prop := (k_CL_throwMissing σ) ∧ (∀ x, (f_CL_throwMissing σ).1 = .inl x → (k_CL_cut_40 x ((f_CL_throwMissing σ).2)))
def f_CL_cut_86 (s0 : Int32) (σ : St) : XR := (.inl s0, σ)
def k_CL_cut_86 (s0 : Int32) (σ : St) : Prop := True
def f_CL_cut_82 (σ : St) : XR := xb (f_CL_throwWrong σ) (fun x u => f_CL_cut_86 x u)
def k_CL_cut_82 (σ : St) : Prop := (k_CL_throwWrong σ) ∧ (∀ x, (f_CL_throwWrong σ).1 = .inl x → (k_CL_cut_86 x ((f_CL_throwWrong σ).2)))
def f_CL_cut_119 (s0 : Int32) (σ : St) : XR := (.inl s0, σ)
def k_CL_cut_119 (s0 : Int32) (σ : St) : Prop := True
def f_CL_cut_107 (σ : St) : XR := xb (f_CL_enterRow (f_Sc_innermost σ) 0 σ) (fun x u => f_CL_cut_119 x u)
def k_CL_cut_107 (σ : St) : Prop := (k_Sc_innermost σ) ∧ ((k_CL_enterRow (f_Sc_innermost σ) 0 σ) ∧ (∀ x, (f_CL_enterRow (f_Sc_innermost σ) 0 σ).1 = .inl x → (k_CL_cut_119 x ((f_CL_enterRow (f_Sc_innermost σ) 0 σ).2))))
def f_CL_cut_100 (x3 : Int32) (x4 : Int32) (σ : St) : XR := f_CL_cut_107 (f_CL_joinAllBut x3 x4 σ)
def k_CL_cut_100 (x3 : Int32) (x4 : Int32) (σ : St) : Prop := (k_CL_joinAllBut x3 x4 σ) ∧ (k_CL_cut_107 (f_CL_joinAllBut x3 x4 σ))
def f_CL_cut_94 (x1 : Int32) (x2 : Int32) (x3 : Int32) (x4 : Int32) (σ : St) : XR := f_CL_cut_100 x3 x4 (f_CL_joinAllBut x1 x2 σ)
def k_CL_cut_94 (x1 : Int32) (x2 : Int32) (x3 : Int32) (x4 : Int32) (σ : St) : Prop := (k_CL_joinAllBut x1 x2 σ) ∧ (k_CL_cut_100 x3 x4 (f_CL_joinAllBut x1 x2 σ))
def f_CL_cut_51 (x1 : Int32) (x2 : Int32) (x3 : Int32) (x4 : Int32) (σ : St) : XR := if x4 = (-1) then (f_CL_cut_82 σ) else (if (f_St_holds x1 x2 σ) = 0 then (f_CL_cut_82 σ) else (if (f_St_holds x3 x4 σ) = 0 then (f_CL_cut_82 σ) else (f_CL_cut_94 x1 x2 x3 x4 (f_Ro_wipe σ))))
def k_CL_cut_51 (x1 : Int32) (x2 : Int32) (x3 : Int32) (x4 : Int32) (σ : St) : Prop := (x4 = (-1) → (k_CL_cut_82 σ)) ∧ (¬ x4 = (-1) → ((k_St_holds x1 x2 σ) ∧ (((f_St_holds x1 x2 σ) = 0 → (k_CL_cut_82 σ)) ∧ (¬ (f_St_holds x1 x2 σ) = 0 → ((k_St_holds x3 x4 σ) ∧ (((f_St_holds x3 x4 σ) = 0 → (k_CL_cut_82 σ)) ∧ (¬ (f_St_holds x3 x4 σ) = 0 → ((k_Ro_wipe σ) ∧ (k_CL_cut_94 x1 x2 x3 x4 (f_Ro_wipe σ))))))))))
def f_CL_cut (a1 : Int32) (a2 : Int32) (a3 : Int32) (σ : St) : XR := if (f_CL_isShut σ) = 0 then (if (f_CL_stands a1 σ) = 0 then (f_CL_cut_36 σ) else (if (f_Te_has a2 σ) = 0 then (f_CL_cut_36 σ) else (if (f_CL_stands a3 σ) = 0 then (f_CL_cut_36 σ) else (f_CL_cut_51 a1 a2 a3 (f_Te_findOpposite a2 σ) σ)))) else (.inl (-1), σ)
def k_CL_cut (a1 : Int32) (a2 : Int32) (a3 : Int32) (σ : St) : Prop := (k_CL_isShut σ) ∧ (((f_CL_isShut σ) = 0 → ((k_CL_stands a1 σ) ∧ (((f_CL_stands a1 σ) = 0 → (k_CL_cut_36 σ)) ∧ (¬ (f_CL_stands a1 σ) = 0 → ((k_Te_has a2 σ) ∧ (((f_Te_has a2 σ) = 0 → (k_CL_cut_36 σ)) ∧ (¬ (f_Te_has a2 σ) = 0 → ((k_CL_stands a3 σ) ∧ (((f_CL_stands a3 σ) = 0 → (k_CL_cut_36 σ)) ∧ (¬ (f_CL_stands a3 σ) = 0 → ((k_Te_findOpposite a2 σ) ∧ (k_CL_cut_51 a1 a2 a3 (f_Te_findOpposite a2 σ) σ)))))))))))) ∧ (¬ (f_CL_isShut σ) = 0 → True))
abbrev w_CL_cut : List Cond := Cond.code y_CL_cut b_CL_cut 5 (some .int) :: gw
abbrev rm_CL_cut : Room := { frames := 8, cells := 1, slots := 6, locals := 142 }
set_option maxHeartbeats 4000000 in
set_option maxRecDepth 100000 in
theorem c_CL_cut (l : Launch) (hlt : l.stackTraces = false) (D : va_G) (ty : Nat → ClassId) (h : Nat → Nat) (px : va_W) (sa : Nat → Nat) (σ : St) (sz : Nat) (a1 : Int32) (a2 : Int32) (a3 : Int32) (hk : k_CL_cut a1 a2 a3 σ) : xMet l y_CL_cut w_CL_cut rm_CL_cut (va_Pc [.ref (h 0), .int a1, .int a2, .int a3] (fun U => U.heap.size = sz ∧ va_P D classes (Wc ty h σ px) U.heap ∧ va_K D classes (Ta ty) U ∧ NW U ∧ XK sa (va_A (Wc ty h σ px) sz) U U.heap ∧ MK sa (va_A (Wc ty h σ px) sz) U U.heap ∧ va_D (fun _ => True) (Wc ty h σ px))) (Rx D classes (fun u => Wc ty h u px) (va_A (Wc ty h σ px) sz) (f_CL_cut a1 a2 a3 σ)) 1 6 (va_A (Wc ty h σ px) sz) := by
  refine xMet.ofW (cc := b_CL_cut) (maxL := 5) (ret := (some .int)) (by decide) rfl ?_
  intro p e s m args below meth c s₁ B hml htab hv
  obtain ⟨ha, hsz, hP, hK, hN, hX, hM, hD0⟩ := hv
  have hx := B.exec
  have hb := B.bytes
  have hr := B.returns
  have hg : ∀ w ∈ gw, w.before args s = true := fun w h9 => atoms_spec (ws := w_CL_cut) B.pre w (List.mem_cons_of_mem _ h9)
  have hown : s.vm.findClass "ClauseLedger" = some m.cls := findClass_of_methodNamed B.named
  have hlocks := B.notSynchronized
  subst hsz
  have hD := hD0.self (sz := s.heap.size)
  generalize hAe : va_A (Wc ty h σ px) s.heap.size = A at hD hM hX ⊢
  have hA : ∀ q : Nat, s.heap.size ≤ q → A q := fun q h9 => by rw [← hAe]; exact Or.inr h9
  have hS : va_S A s.heap s.heap [] := va_S.rf
  have he : entryFrame m args 5 = entryFrame m ([.ref (h 0), .int a1, .int a2, .int a3] : List Value).toArray 5 := by rw [ha]
  rw [he, lg_entry_eq]
  have hl := lv_entry ([.ref (h 0), .int a1, .int a2, .int a3]) (n := 5) (Nat.le_of_ble_eq_true rfl)
  generalize (lg_sl ([.ref (h 0), .int a1, .int a2, .int a3]) ++ List.replicate (5 - (lg_sl ([.ref (h 0), .int a1, .int a2, .int a3])).length) Slot.unset).toArray = ls at hl ⊢
  have hl : lv_has ls 5 [(0, .ref (h 0)), (1, .int a1), (2, .int a2), (3, .int a3)] := hl
  generalize hv : f_CL_cut a1 a2 a3 σ = v
  replace hv := hv.symm
  have B40 : ∀ (H : Heap) (locs : List Loc) (ls : Array Slot) (s0 : Int32) (σ : St), v = f_CL_cut_40 s0 σ → k_CL_cut_40 s0 σ → lv_has ls 5 [] → va_P D classes (Wc ty h σ px) H → va_D A (Wc ty h σ px) → va_S A s.heap H locs → W p l e (headSpec w_CL_cut rm_CL_cut).room s m args below meth c H locs 1 6 (xMQ below (Rx D classes (fun u => Wc ty h u px) A v) args s 1 6 A) (F0 m 40 ls [.int s0]) := by
    intro H locs ls s0 σ hv hk hl hP hD hS
    unfold f_CL_cut_40 at hv
    unfold k_CL_cut_40 at hk
    exact x_ret (fun o t hq => by obtain ⟨rfl, ht⟩ := hq; exact ⟨hS.F ht, by rw [ht, hv]; exact hP, _, rfl, by rw [hv]⟩) (Nat.le_of_ble_eq_true rfl) (Nat.le_of_ble_eq_true rfl) (W.iret (Qc := fun _ _ o t => o = .returned (some (.int s0)) ∧ t.heap = H) hx hb hr (fun t ht hW => ⟨rfl, ht⟩) hS.2.2 d_CL_cut_40)
  have B36 : ∀ (H : Heap) (locs : List Loc) (ls : Array Slot) (σ : St), v = f_CL_cut_36 σ → k_CL_cut_36 σ → lv_has ls 5 [(0, .ref (h 0))] → va_P D classes (Wc ty h σ px) H → va_D A (Wc ty h σ px) → va_S A s.heap H locs → W p l e (headSpec w_CL_cut rm_CL_cut).room s m args below meth c H locs 0 0 (xMQ below (Rx D classes (fun u => Wc ty h u px) A v) args s 1 6 A) (F0 m 36 ls []) := by
    intro H locs ls σ hv hk hl hP hD hS
    unfold f_CL_cut_36 at hv
    unfold k_CL_cut_36 at hk
    refine lv_aload_n hx hb d_CL_cut_36 rfl (lv_at hl 0 rfl) ?_
    obtain ⟨hk0, hk⟩ := hk
    refine x_callV (As := []) (rest := []) ⟨hx, hb, hml, hown, hg⟩ (c_CL_throwMissing l hlt D ty h px sa σ H.size  hk0) ⟨callB_of 0 hg (gw_C m_914) rfl rfl rfl (hg _ m_1) (hg _ m_911) hd_CL_throwMissing ⟨Nat.le_of_ble_eq_true rfl, Nat.le_of_ble_eq_true rfl⟩, hg _ m_913, hg _ ms_29⟩ (zz_preX hM hN hX hS hA hK hP hD 0 rfl rfl) rfl hl.1 rfl (Nat.le_of_ble_eq_true rfl) d_CL_cut_37 ⟨Nat.le_of_ble_eq_true rfl, Nat.le_of_ble_eq_true rfl⟩ (fun r9 st9 t9 L9 h09 hal9 hR9 hL9 => ?_) (fun q9 st9 t9 L9 h09 h19 hal9 hR9 hL9 => ?_)
    · obtain ⟨hF9, hP9, x, rfl, hz9⟩ := hR9
      have hv := hv.trans (xb_l hz9)
      have hk := hk _ hz9
      have hS := zz_xS hS h09 hF9 (zz_free hD hS hA) hL9
      have hD : va_D A (Wc ty h (f_CL_throwMissing σ).2 px) := zz_D hD rfl
      exact B40 _ _ _ x (f_CL_throwMissing σ).2 hv hk (lv_sub hl [] rfl) hP9 hD hS
    · obtain ⟨hF9, hP9, E9, ce9, hz9, hq9, hn9, hc9⟩ := hR9
      have hv := hv.trans (xb_r hz9)
      have hS := zz_xS hS h09 hF9 (zz_free hD hS hA) hL9
      exact x_out htab hlocks (fun t ht hal => ⟨hS.F ht, by rw [ht, hv]; exact hP9, E9, ce9, by rw [hv], by rw [ht]; exact hq9, hn9, by rw [h19.findClass]; exact hc9⟩) hS.2.2 (Nat.le_of_ble_eq_true rfl) (Nat.le_of_ble_eq_true rfl)
  have B86 : ∀ (H : Heap) (locs : List Loc) (ls : Array Slot) (s0 : Int32) (σ : St), v = f_CL_cut_86 s0 σ → k_CL_cut_86 s0 σ → lv_has ls 5 [] → va_P D classes (Wc ty h σ px) H → va_D A (Wc ty h σ px) → va_S A s.heap H locs → W p l e (headSpec w_CL_cut rm_CL_cut).room s m args below meth c H locs 1 6 (xMQ below (Rx D classes (fun u => Wc ty h u px) A v) args s 1 6 A) (F0 m 86 ls [.int s0]) := by
    intro H locs ls s0 σ hv hk hl hP hD hS
    unfold f_CL_cut_86 at hv
    unfold k_CL_cut_86 at hk
    exact x_ret (fun o t hq => by obtain ⟨rfl, ht⟩ := hq; exact ⟨hS.F ht, by rw [ht, hv]; exact hP, _, rfl, by rw [hv]⟩) (Nat.le_of_ble_eq_true rfl) (Nat.le_of_ble_eq_true rfl) (W.iret (Qc := fun _ _ o t => o = .returned (some (.int s0)) ∧ t.heap = H) hx hb hr (fun t ht hW => ⟨rfl, ht⟩) hS.2.2 d_CL_cut_86)
  have B82 : ∀ (H : Heap) (locs : List Loc) (ls : Array Slot) (σ : St), v = f_CL_cut_82 σ → k_CL_cut_82 σ → lv_has ls 5 [(0, .ref (h 0))] → va_P D classes (Wc ty h σ px) H → va_D A (Wc ty h σ px) → va_S A s.heap H locs → W p l e (headSpec w_CL_cut rm_CL_cut).room s m args below meth c H locs 0 0 (xMQ below (Rx D classes (fun u => Wc ty h u px) A v) args s 1 6 A) (F0 m 82 ls []) := by
    intro H locs ls σ hv hk hl hP hD hS
    unfold f_CL_cut_82 at hv
    unfold k_CL_cut_82 at hk
    refine lv_aload_n hx hb d_CL_cut_82 rfl (lv_at hl 0 rfl) ?_
    obtain ⟨hk0, hk⟩ := hk
    refine x_callV (As := []) (rest := []) ⟨hx, hb, hml, hown, hg⟩ (c_CL_throwWrong l hlt D ty h px sa σ H.size  hk0) ⟨callB_of 0 hg (gw_C m_774) rfl rfl rfl (hg _ m_1) (hg _ m_771) hd_CL_throwWrong ⟨Nat.le_of_ble_eq_true rfl, Nat.le_of_ble_eq_true rfl⟩, hg _ m_773, hg _ ms_24⟩ (zz_preX hM hN hX hS hA hK hP hD 0 rfl rfl) rfl hl.1 rfl (Nat.le_of_ble_eq_true rfl) d_CL_cut_83 ⟨Nat.le_of_ble_eq_true rfl, Nat.le_of_ble_eq_true rfl⟩ (fun r9 st9 t9 L9 h09 hal9 hR9 hL9 => ?_) (fun q9 st9 t9 L9 h09 h19 hal9 hR9 hL9 => ?_)
    · obtain ⟨hF9, hP9, x, rfl, hz9⟩ := hR9
      have hv := hv.trans (xb_l hz9)
      have hk := hk _ hz9
      have hS := zz_xS hS h09 hF9 (zz_free hD hS hA) hL9
      have hD : va_D A (Wc ty h (f_CL_throwWrong σ).2 px) := zz_D hD rfl
      exact B86 _ _ _ x (f_CL_throwWrong σ).2 hv hk (lv_sub hl [] rfl) hP9 hD hS
    · obtain ⟨hF9, hP9, E9, ce9, hz9, hq9, hn9, hc9⟩ := hR9
      have hv := hv.trans (xb_r hz9)
      have hS := zz_xS hS h09 hF9 (zz_free hD hS hA) hL9
      exact x_out htab hlocks (fun t ht hal => ⟨hS.F ht, by rw [ht, hv]; exact hP9, E9, ce9, by rw [hv], by rw [ht]; exact hq9, hn9, by rw [h19.findClass]; exact hc9⟩) hS.2.2 (Nat.le_of_ble_eq_true rfl) (Nat.le_of_ble_eq_true rfl)
  have B119 : ∀ (H : Heap) (locs : List Loc) (ls : Array Slot) (s0 : Int32) (σ : St), v = f_CL_cut_119 s0 σ → k_CL_cut_119 s0 σ → lv_has ls 5 [] → va_P D classes (Wc ty h σ px) H → va_D A (Wc ty h σ px) → va_S A s.heap H locs → W p l e (headSpec w_CL_cut rm_CL_cut).room s m args below meth c H locs 1 6 (xMQ below (Rx D classes (fun u => Wc ty h u px) A v) args s 1 6 A) (F0 m 119 ls [.int s0]) := by
    intro H locs ls s0 σ hv hk hl hP hD hS
    unfold f_CL_cut_119 at hv
    unfold k_CL_cut_119 at hk
    exact x_ret (fun o t hq => by obtain ⟨rfl, ht⟩ := hq; exact ⟨hS.F ht, by rw [ht, hv]; exact hP, _, rfl, by rw [hv]⟩) (Nat.le_of_ble_eq_true rfl) (Nat.le_of_ble_eq_true rfl) (W.iret (Qc := fun _ _ o t => o = .returned (some (.int s0)) ∧ t.heap = H) hx hb hr (fun t ht hW => ⟨rfl, ht⟩) hS.2.2 d_CL_cut_119)
  have B107 : ∀ (H : Heap) (locs : List Loc) (ls : Array Slot) (σ : St), v = f_CL_cut_107 σ → k_CL_cut_107 σ → lv_has ls 5 [(0, .ref (h 0))] → va_P D classes (Wc ty h σ px) H → va_D A (Wc ty h σ px) → va_S A s.heap H locs → W p l e (headSpec w_CL_cut rm_CL_cut).room s m args below meth c H locs 0 0 (xMQ below (Rx D classes (fun u => Wc ty h u px) A v) args s 1 6 A) (F0 m 107 ls []) := by
    intro H locs ls σ hv hk hl hP hD hS
    unfold f_CL_cut_107 at hv
    unfold k_CL_cut_107 at hk
    refine lv_aload_n hx hb d_CL_cut_107 rfl (lv_at hl 0 rfl) ?_
    refine lv_aload_n hx hb d_CL_cut_108 rfl (lv_at hl 0 rfl) ?_
    refine va_get (v := .ref (h 27)) (C := R_CL) (T := T_CL) (N := 11) hx hb hg in_CL hown hK hP 0 rfl rfl 8 (by decide) (hg _ m_292) (fun _ h9 => h9) rfl d_CL_cut_109 ?_
    obtain ⟨hk0, hk⟩ := hk
    refine zz_callV (va_runV (As := []) (rest := [.ref (h 0)]) ⟨hx, hb, hml, hown, hg⟩ (c_Sc_innermost l D ty h px sa σ  hk0) ⟨callB_of 0 hg (gw_C m_943) rfl rfl rfl (hg _ m_11) (hg _ m_940) hd_Sc_innermost ⟨Nat.le_of_ble_eq_true rfl, Nat.le_of_ble_eq_true rfl⟩, hg _ m_941, hg _ m_942⟩ (zz_preV (hM.at hS) hN hK hP 27 rfl rfl) rfl rfl hl.1 rfl (lv_room (Nat.le_of_ble_eq_true rfl)) d_CL_cut_112 ⟨Nat.le_of_ble_eq_true rfl, Nat.le_of_ble_eq_true rfl⟩) ?_
    refine lv_iconst (v := 0) hx hb d_CL_cut_115 (by decide) ?_
    obtain ⟨hk0, hk⟩ := hk
    refine x_callV (As := [.int (f_Sc_innermost σ), .int 0]) (rest := []) ⟨hx, hb, hml, hown, hg⟩ (c_CL_enterRow l hlt D ty h px sa σ H.size (f_Sc_innermost σ) 0 hk0) ⟨callB_of 2 hg (gw_C m_947) rfl rfl rfl (hg _ m_1) (hg _ m_944) hd_CL_enterRow ⟨Nat.le_of_ble_eq_true rfl, Nat.le_of_ble_eq_true rfl⟩, hg _ m_946, hg _ ms_30⟩ (zz_preX hM hN hX hS hA hK hP hD 0 rfl rfl) rfl hl.1 rfl (Nat.le_of_ble_eq_true rfl) d_CL_cut_116 ⟨Nat.le_of_ble_eq_true rfl, Nat.le_of_ble_eq_true rfl⟩ (fun r9 st9 t9 L9 h09 hal9 hR9 hL9 => ?_) (fun q9 st9 t9 L9 h09 h19 hal9 hR9 hL9 => ?_)
    · obtain ⟨hF9, hP9, x, rfl, hz9⟩ := hR9
      have hv := hv.trans (xb_l hz9)
      have hk := hk _ hz9
      have hS := zz_xS hS h09 hF9 (zz_free hD hS hA) hL9
      have hD : va_D A (Wc ty h (f_CL_enterRow (f_Sc_innermost σ) 0 σ).2 px) := zz_D hD rfl
      exact B119 _ _ _ x (f_CL_enterRow (f_Sc_innermost σ) 0 σ).2 hv hk (lv_sub hl [] rfl) hP9 hD hS
    · obtain ⟨hF9, hP9, E9, ce9, hz9, hq9, hn9, hc9⟩ := hR9
      have hv := hv.trans (xb_r hz9)
      have hS := zz_xS hS h09 hF9 (zz_free hD hS hA) hL9
      exact x_out htab hlocks (fun t ht hal => ⟨hS.F ht, by rw [ht, hv]; exact hP9, E9, ce9, by rw [hv], by rw [ht]; exact hq9, hn9, by rw [h19.findClass]; exact hc9⟩) hS.2.2 (Nat.le_of_ble_eq_true rfl) (Nat.le_of_ble_eq_true rfl)
  have B100 : ∀ (H : Heap) (locs : List Loc) (ls : Array Slot) (x3 : Int32) (x4 : Int32) (σ : St), v = f_CL_cut_100 x3 x4 σ → k_CL_cut_100 x3 x4 σ → lv_has ls 5 [(0, .ref (h 0)), (3, .int x3), (4, .int x4)] → va_P D classes (Wc ty h σ px) H → va_D A (Wc ty h σ px) → va_S A s.heap H locs → W p l e (headSpec w_CL_cut rm_CL_cut).room s m args below meth c H locs 0 0 (xMQ below (Rx D classes (fun u => Wc ty h u px) A v) args s 1 6 A) (F0 m 100 ls []) := by
    intro H locs ls x3 x4 σ hv hk hl hP hD hS
    unfold f_CL_cut_100 at hv
    unfold k_CL_cut_100 at hk
    refine lv_aload_n hx hb d_CL_cut_100 rfl (lv_at hl 0 rfl) ?_
    refine lv_iload_n hx hb d_CL_cut_101 rfl (lv_at hl 1 rfl) ?_
    refine lv_iload hx hb d_CL_cut_102 (lv_at hl 2 rfl) ?_
    obtain ⟨hk0, hk⟩ := hk
    refine va_callv (va_runV (As := [.int x3, .int x4]) (rest := []) ⟨hx, hb, hml, hown, hg⟩ (c_CL_joinAllBut l D ty h px sa σ H.size x3 x4 hk0) ⟨callB_of 2 hg (gw_C m_988) rfl rfl rfl (hg _ m_1) (hg _ m_985) hd_CL_joinAllBut ⟨Nat.le_of_ble_eq_true rfl, Nat.le_of_ble_eq_true rfl⟩, hg _ m_987, hg _ ms_31⟩ (zz_preVW hM hS hA hN hK hP hD 0 rfl rfl) rfl rfl hl.1 rfl (lv_room (Nat.le_of_ble_eq_true rfl)) d_CL_cut_104 ⟨Nat.le_of_ble_eq_true rfl, Nat.le_of_ble_eq_true rfl⟩) hS (fun q _ h => zz_free hD hS hA q h) (zz_free hD hS hA) (fun u104 t H locs ht hvm hp hP1 hz hk1 hS => ?_)
    rw [ht] at hP1
    rw [← hp] at hv hk
    have hD : va_D A (Wc ty h u104 px) := zz_D hD rfl
    have hP := hP1
    exact B107 _ _ _  u104 hv hk (lv_sub hl [0] rfl) hP hD hS
  have B94 : ∀ (H : Heap) (locs : List Loc) (ls : Array Slot) (x1 : Int32) (x2 : Int32) (x3 : Int32) (x4 : Int32) (σ : St), v = f_CL_cut_94 x1 x2 x3 x4 σ → k_CL_cut_94 x1 x2 x3 x4 σ → lv_has ls 5 [(0, .ref (h 0)), (1, .int x1), (2, .int x2), (3, .int x3), (4, .int x4)] → va_P D classes (Wc ty h σ px) H → va_D A (Wc ty h σ px) → va_S A s.heap H locs → W p l e (headSpec w_CL_cut rm_CL_cut).room s m args below meth c H locs 0 0 (xMQ below (Rx D classes (fun u => Wc ty h u px) A v) args s 1 6 A) (F0 m 94 ls []) := by
    intro H locs ls x1 x2 x3 x4 σ hv hk hl hP hD hS
    unfold f_CL_cut_94 at hv
    unfold k_CL_cut_94 at hk
    refine lv_aload_n hx hb d_CL_cut_94 rfl (lv_at hl 0 rfl) ?_
    refine lv_iload_n hx hb d_CL_cut_95 rfl (lv_at hl 1 rfl) ?_
    refine lv_iload_n hx hb d_CL_cut_96 rfl (lv_at hl 2 rfl) ?_
    obtain ⟨hk0, hk⟩ := hk
    refine va_callv (va_runV (As := [.int x1, .int x2]) (rest := []) ⟨hx, hb, hml, hown, hg⟩ (c_CL_joinAllBut l D ty h px sa σ H.size x1 x2 hk0) ⟨callB_of 2 hg (gw_C m_988) rfl rfl rfl (hg _ m_1) (hg _ m_985) hd_CL_joinAllBut ⟨Nat.le_of_ble_eq_true rfl, Nat.le_of_ble_eq_true rfl⟩, hg _ m_987, hg _ ms_31⟩ (zz_preVW hM hS hA hN hK hP hD 0 rfl rfl) rfl rfl hl.1 rfl (lv_room (Nat.le_of_ble_eq_true rfl)) d_CL_cut_97 ⟨Nat.le_of_ble_eq_true rfl, Nat.le_of_ble_eq_true rfl⟩) hS (fun q _ h => zz_free hD hS hA q h) (zz_free hD hS hA) (fun u97 t H locs ht hvm hp hP1 hz hk1 hS => ?_)
    rw [ht] at hP1
    rw [← hp] at hv hk
    have hD : va_D A (Wc ty h u97 px) := zz_D hD rfl
    have hP := hP1
    exact B100 _ _ _ x3 x4 u97 hv hk (lv_sub hl [0, 3, 4] rfl) hP hD hS
  have B51 : ∀ (H : Heap) (locs : List Loc) (ls : Array Slot) (x1 : Int32) (x2 : Int32) (x3 : Int32) (x4 : Int32) (σ : St), v = f_CL_cut_51 x1 x2 x3 x4 σ → k_CL_cut_51 x1 x2 x3 x4 σ → lv_has ls 5 [(0, .ref (h 0)), (1, .int x1), (2, .int x2), (3, .int x3), (4, .int x4)] → va_P D classes (Wc ty h σ px) H → va_D A (Wc ty h σ px) → va_S A s.heap H locs → W p l e (headSpec w_CL_cut rm_CL_cut).room s m args below meth c H locs 0 0 (xMQ below (Rx D classes (fun u => Wc ty h u px) A v) args s 1 6 A) (F0 m 51 ls []) := by
    intro H locs ls x1 x2 x3 x4 σ hv hk hl hP hD hS
    unfold f_CL_cut_51 at hv
    unfold k_CL_cut_51 at hk
    refine lv_iload hx hb d_CL_cut_51 (lv_at hl 4 rfl) ?_
    refine lv_iconst (v := -1) hx hb d_CL_cut_53 (by decide) ?_
    refine lv_icmp_eq (tgt := 82) hx hb d_CL_cut_54 (by decide) (fun hc => ?_) (fun hc => ?_)
    · have hv := hv.trans (if_pos hc)
      have hk := hk.1 hc
      exact B82 _ _ _  σ hv hk (lv_sub hl [0] rfl) hP hD hS
    · have hv := hv.trans (if_neg hc)
      have hk := hk.2 hc
      refine lv_aload_n hx hb d_CL_cut_57 rfl (lv_at hl 0 rfl) ?_
      refine va_get (v := .ref (h 31)) (C := R_CL) (T := T_CL) (N := 11) hx hb hg in_CL hown hK hP 0 rfl rfl 9 (by decide) (hg _ m_293) (fun _ h9 => h9) rfl d_CL_cut_58 ?_
      refine lv_iload_n hx hb d_CL_cut_61 rfl (lv_at hl 1 rfl) ?_
      refine lv_iload_n hx hb d_CL_cut_62 rfl (lv_at hl 2 rfl) ?_
      obtain ⟨hk0, hk⟩ := hk
      refine zz_callV (va_runV (As := [.int x1, .int x2]) (rest := []) ⟨hx, hb, hml, hown, hg⟩ (c_St_holds l D ty h px sa σ x1 x2 hk0) ⟨callB_of 2 hg (gw_C m_983) rfl rfl rfl (hg _ m_12) (hg _ m_980) hd_St_holds ⟨Nat.le_of_ble_eq_true rfl, Nat.le_of_ble_eq_true rfl⟩, hg _ m_981, hg _ m_982⟩ (zz_preV (hM.at hS) hN hK hP 31 rfl rfl) rfl rfl hl.1 rfl (lv_room (Nat.le_of_ble_eq_true rfl)) d_CL_cut_63 ⟨Nat.le_of_ble_eq_true rfl, Nat.le_of_ble_eq_true rfl⟩) ?_
      refine lv_if_eq (tgt := 82) hx hb d_CL_cut_66 (by decide) (fun hc => ?_) (fun hc => ?_)
      · have hv := hv.trans (if_pos hc)
        have hk := hk.1 hc
        exact B82 _ _ _  σ hv hk (lv_sub hl [0] rfl) hP hD hS
      · have hv := hv.trans (if_neg hc)
        have hk := hk.2 hc
        refine lv_aload_n hx hb d_CL_cut_69 rfl (lv_at hl 0 rfl) ?_
        refine va_get (v := .ref (h 31)) (C := R_CL) (T := T_CL) (N := 11) hx hb hg in_CL hown hK hP 0 rfl rfl 9 (by decide) (hg _ m_293) (fun _ h9 => h9) rfl d_CL_cut_70 ?_
        refine lv_iload_n hx hb d_CL_cut_73 rfl (lv_at hl 3 rfl) ?_
        refine lv_iload hx hb d_CL_cut_74 (lv_at hl 4 rfl) ?_
        obtain ⟨hk0, hk⟩ := hk
        refine zz_callV (va_runV (As := [.int x3, .int x4]) (rest := []) ⟨hx, hb, hml, hown, hg⟩ (c_St_holds l D ty h px sa σ x3 x4 hk0) ⟨callB_of 2 hg (gw_C m_983) rfl rfl rfl (hg _ m_12) (hg _ m_980) hd_St_holds ⟨Nat.le_of_ble_eq_true rfl, Nat.le_of_ble_eq_true rfl⟩, hg _ m_981, hg _ m_982⟩ (zz_preV (hM.at hS) hN hK hP 31 rfl rfl) rfl rfl hl.1 rfl (lv_room (Nat.le_of_ble_eq_true rfl)) d_CL_cut_76 ⟨Nat.le_of_ble_eq_true rfl, Nat.le_of_ble_eq_true rfl⟩) ?_
        refine lv_if_ne (tgt := 87) hx hb d_CL_cut_79 (by decide) (fun hc => ?_) (fun hc => ?_)
        · have hv := hv.trans (if_neg hc)
          have hk := hk.2 hc
          refine lv_aload_n hx hb d_CL_cut_87 rfl (lv_at hl 0 rfl) ?_
          refine va_get (v := .ref (h 25)) (C := R_CL) (T := T_CL) (N := 11) hx hb hg in_CL hown hK hP 0 rfl rfl 7 (by decide) (hg _ m_291) (fun _ h9 => h9) rfl d_CL_cut_88 ?_
          obtain ⟨hk0, hk⟩ := hk
          refine va_callv (va_runV (As := []) (rest := []) ⟨hx, hb, hml, hown, hg⟩ (c_Ro_wipe l D ty h px sa σ H.size  hk0) ⟨callB_of 0 hg (gw_C m_935) rfl rfl rfl (hg _ m_10) (hg _ m_932) hd_Ro_wipe ⟨Nat.le_of_ble_eq_true rfl, Nat.le_of_ble_eq_true rfl⟩, hg _ m_933, hg _ m_934⟩ (zz_preVW hM hS hA hN hK hP hD 25 rfl rfl) rfl rfl hl.1 rfl (lv_room (Nat.le_of_ble_eq_true rfl)) d_CL_cut_91 ⟨Nat.le_of_ble_eq_true rfl, Nat.le_of_ble_eq_true rfl⟩) hS (fun q _ h => zz_free hD hS hA q h) (zz_free hD hS hA) (fun u91 t H locs ht hvm hp hP1 hz hk1 hS => ?_)
          rw [ht] at hP1
          rw [← hp] at hv hk
          have hD : va_D A (Wc ty h u91 px) := zz_D hD rfl
          have hP := hP1
          exact B94 _ _ _ x1 x2 x3 x4 u91 hv hk (lv_sub hl [0, 1, 2, 3, 4] rfl) hP hD hS
        · have hv := hv.trans (if_pos hc)
          have hk := hk.1 hc
          exact B82 _ _ _  σ hv hk (lv_sub hl [0] rfl) hP hD hS
  unfold f_CL_cut at hv
  unfold k_CL_cut at hk
  refine lv_aload_n hx hb d_CL_cut_0 rfl (lv_at hl 0 rfl) ?_
  obtain ⟨hk0, hk⟩ := hk
  refine zz_callV (va_runV (As := []) (rest := []) ⟨hx, hb, hml, hown, hg⟩ (c_CL_isShut l D ty h px sa σ  hk0) ⟨callB_of 0 hg (gw_C m_571) rfl rfl rfl (hg _ m_1) (hg _ m_568) hd_CL_isShut ⟨Nat.le_of_ble_eq_true rfl, Nat.le_of_ble_eq_true rfl⟩, hg _ m_570, hg _ ms_8⟩ (zz_preV (hM.at hS) hN hK hP 0 rfl rfl) rfl rfl hl.1 rfl (lv_room (Nat.le_of_ble_eq_true rfl)) d_CL_cut_1 ⟨Nat.le_of_ble_eq_true rfl, Nat.le_of_ble_eq_true rfl⟩) ?_
  refine lv_if_eq (tgt := 9) hx hb d_CL_cut_4 (by decide) (fun hc => ?_) (fun hc => ?_)
  · have hv := hv.trans (if_pos hc)
    have hk := hk.1 hc
    refine lv_aload_n hx hb d_CL_cut_9 rfl (lv_at hl 0 rfl) ?_
    refine lv_iload_n hx hb d_CL_cut_10 rfl (lv_at hl 1 rfl) ?_
    obtain ⟨hk0, hk⟩ := hk
    refine zz_callV (va_runV (As := [.int a1]) (rest := []) ⟨hx, hb, hml, hown, hg⟩ (c_CL_stands l D ty h px sa σ a1 hk0) ⟨callB_of 1 hg (gw_C m_406) rfl rfl rfl (hg _ m_1) (hg _ m_403) hd_CL_stands ⟨Nat.le_of_ble_eq_true rfl, Nat.le_of_ble_eq_true rfl⟩, hg _ m_405, hg _ ms_3⟩ (zz_preV (hM.at hS) hN hK hP 0 rfl rfl) rfl rfl hl.1 rfl (lv_room (Nat.le_of_ble_eq_true rfl)) d_CL_cut_11 ⟨Nat.le_of_ble_eq_true rfl, Nat.le_of_ble_eq_true rfl⟩) ?_
    refine lv_if_eq (tgt := 36) hx hb d_CL_cut_14 (by decide) (fun hc => ?_) (fun hc => ?_)
    · have hv := hv.trans (if_pos hc)
      have hk := hk.1 hc
      exact B36 _ _ _  σ hv hk (lv_sub hl [0] rfl) hP hD hS
    · have hv := hv.trans (if_neg hc)
      have hk := hk.2 hc
      refine lv_aload_n hx hb d_CL_cut_17 rfl (lv_at hl 0 rfl) ?_
      refine va_get (v := .ref (h 6)) (C := R_CL) (T := T_CL) (N := 11) hx hb hg in_CL hown hK hP 0 rfl rfl 1 (by decide) (hg _ m_285) (fun _ h9 => h9) rfl d_CL_cut_18 ?_
      refine lv_iload_n hx hb d_CL_cut_21 rfl (lv_at hl 2 rfl) ?_
      obtain ⟨hk0, hk⟩ := hk
      refine zz_callV (va_runV (As := [.int a2]) (rest := []) ⟨hx, hb, hml, hown, hg⟩ (c_Te_has l D ty h px sa σ a2 hk0) ⟨callB_of 1 hg (gw_C m_430) rfl rfl rfl (hg _ m_3) (hg _ m_427) hd_Te_has ⟨Nat.le_of_ble_eq_true rfl, Nat.le_of_ble_eq_true rfl⟩, hg _ m_428, hg _ m_429⟩ (zz_preV (hM.at hS) hN hK hP 6 rfl rfl) rfl rfl hl.1 rfl (lv_room (Nat.le_of_ble_eq_true rfl)) d_CL_cut_22 ⟨Nat.le_of_ble_eq_true rfl, Nat.le_of_ble_eq_true rfl⟩) ?_
      refine lv_if_eq (tgt := 36) hx hb d_CL_cut_25 (by decide) (fun hc => ?_) (fun hc => ?_)
      · have hv := hv.trans (if_pos hc)
        have hk := hk.1 hc
        exact B36 _ _ _  σ hv hk (lv_sub hl [0] rfl) hP hD hS
      · have hv := hv.trans (if_neg hc)
        have hk := hk.2 hc
        refine lv_aload_n hx hb d_CL_cut_28 rfl (lv_at hl 0 rfl) ?_
        refine lv_iload_n hx hb d_CL_cut_29 rfl (lv_at hl 3 rfl) ?_
        obtain ⟨hk0, hk⟩ := hk
        refine zz_callV (va_runV (As := [.int a3]) (rest := []) ⟨hx, hb, hml, hown, hg⟩ (c_CL_stands l D ty h px sa σ a3 hk0) ⟨callB_of 1 hg (gw_C m_406) rfl rfl rfl (hg _ m_1) (hg _ m_403) hd_CL_stands ⟨Nat.le_of_ble_eq_true rfl, Nat.le_of_ble_eq_true rfl⟩, hg _ m_405, hg _ ms_3⟩ (zz_preV (hM.at hS) hN hK hP 0 rfl rfl) rfl rfl hl.1 rfl (lv_room (Nat.le_of_ble_eq_true rfl)) d_CL_cut_30 ⟨Nat.le_of_ble_eq_true rfl, Nat.le_of_ble_eq_true rfl⟩) ?_
        refine lv_if_ne (tgt := 41) hx hb d_CL_cut_33 (by decide) (fun hc => ?_) (fun hc => ?_)
        · have hv := hv.trans (if_neg hc)
          have hk := hk.2 hc
          refine lv_aload_n hx hb d_CL_cut_41 rfl (lv_at hl 0 rfl) ?_
          refine va_get (v := .ref (h 6)) (C := R_CL) (T := T_CL) (N := 11) hx hb hg in_CL hown hK hP 0 rfl rfl 1 (by decide) (hg _ m_285) (fun _ h9 => h9) rfl d_CL_cut_42 ?_
          refine lv_iload_n hx hb d_CL_cut_45 rfl (lv_at hl 2 rfl) ?_
          obtain ⟨hk0, hk⟩ := hk
          refine zz_callV (va_runV (As := [.int a2]) (rest := []) ⟨hx, hb, hml, hown, hg⟩ (c_Te_findOpposite l D ty h px sa σ a2 hk0) ⟨callB_of 1 hg (gw_C m_977) rfl rfl rfl (hg _ m_3) (hg _ m_974) hd_Te_findOpposite ⟨Nat.le_of_ble_eq_true rfl, Nat.le_of_ble_eq_true rfl⟩, hg _ m_975, hg _ m_976⟩ (zz_preV (hM.at hS) hN hK hP 6 rfl rfl) rfl rfl hl.1 rfl (lv_room (Nat.le_of_ble_eq_true rfl)) d_CL_cut_46 ⟨Nat.le_of_ble_eq_true rfl, Nat.le_of_ble_eq_true rfl⟩) ?_
          refine lv_istore (lv' := [(4, .int (f_Te_findOpposite a2 σ)), (0, .ref (h 0)), (1, .int a1), (2, .int a2), (3, .int a3)]) hx hb d_CL_cut_49 hl (by decide) rfl (fun ls hl => ?_)
          exact B51 _ _ _ a1 a2 a3 (f_Te_findOpposite a2 σ) σ hv hk (lv_sub hl [1, 2, 3, 4, 0] rfl) hP hD hS
        · have hv := hv.trans (if_pos hc)
          have hk := hk.1 hc
          exact B36 _ _ _  σ hv hk (lv_sub hl [0] rfl) hP hD hS
  · have hv := hv.trans (if_neg hc)
    have hk := hk.2 hc
    refine lv_iconst (v := -1) hx hb d_CL_cut_7 (by decide) ?_
    exact x_ret (fun o t hq => by obtain ⟨rfl, ht⟩ := hq; exact ⟨hS.F ht, by rw [ht, hv]; exact hP, _, rfl, by rw [hv]⟩) (Nat.le_of_ble_eq_true rfl) (Nat.le_of_ble_eq_true rfl) (W.iret (Qc := fun _ _ o t => o = .returned (some (.int (-1))) ∧ t.heap = s.heap) hx hb hr (fun t ht hW => ⟨rfl, ht⟩) hS.2.2 d_CL_cut_8)

-- ClauseLedger.widen(II)I
abbrev b_CL_widen : ByteArray := prog_1_method_9_code
def y_CL_widen : MethodName := ⟨"ClauseLedger", "widen", "(II)I"⟩
theorem hd_CL_widen : y_CL_widen.cls ≠ "java/lang/invoke/MethodHandle" ∧ y_CL_widen.cls ≠ "java/lang/invoke/VarHandle" ∧ (parseMethodDescriptor y_CL_widen.desc).map (fun d => d.parameters.length) = some 2 := by decide +kernel
theorem d_CL_widen_0 : decode b_CL_widen 0 = .ok (.aload_n 0, 1) := by decide +kernel
theorem d_CL_widen_1 : decode b_CL_widen 1 = .ok (.invokevirtual 102, 3) := by decide +kernel
theorem d_CL_widen_4 : decode b_CL_widen 4 = .ok (.ifCond .eq 5, 3) := by decide +kernel
theorem d_CL_widen_7 : decode b_CL_widen 7 = .ok (.iconst (-1), 1) := by decide +kernel
theorem d_CL_widen_8 : decode b_CL_widen 8 = .ok (.ireturn, 1) := by decide +kernel
theorem d_CL_widen_9 : decode b_CL_widen 9 = .ok (.aload_n 0, 1) := by decide +kernel
theorem d_CL_widen_10 : decode b_CL_widen 10 = .ok (.iload_n 1, 1) := by decide +kernel
theorem d_CL_widen_11 : decode b_CL_widen 11 = .ok (.invokevirtual 152, 3) := by decide +kernel
theorem d_CL_widen_14 : decode b_CL_widen 14 = .ok (.ifCond .eq 14, 3) := by decide +kernel
theorem d_CL_widen_17 : decode b_CL_widen 17 = .ok (.aload_n 0, 1) := by decide +kernel
theorem d_CL_widen_18 : decode b_CL_widen 18 = .ok (.getfield 19, 3) := by decide +kernel
theorem d_CL_widen_21 : decode b_CL_widen 21 = .ok (.iload_n 2, 1) := by decide +kernel
theorem d_CL_widen_22 : decode b_CL_widen 22 = .ok (.invokevirtual 130, 3) := by decide +kernel
theorem d_CL_widen_25 : decode b_CL_widen 25 = .ok (.ifCond .ne 8, 3) := by decide +kernel
theorem d_CL_widen_28 : decode b_CL_widen 28 = .ok (.aload_n 0, 1) := by decide +kernel
theorem d_CL_widen_29 : decode b_CL_widen 29 = .ok (.invokevirtual 134, 3) := by decide +kernel
theorem d_CL_widen_32 : decode b_CL_widen 32 = .ok (.ireturn, 1) := by decide +kernel
theorem d_CL_widen_33 : decode b_CL_widen 33 = .ok (.aload_n 0, 1) := by decide +kernel
theorem d_CL_widen_34 : decode b_CL_widen 34 = .ok (.getfield 19, 3) := by decide +kernel
theorem d_CL_widen_37 : decode b_CL_widen 37 = .ok (.iload_n 2, 1) := by decide +kernel
theorem d_CL_widen_38 : decode b_CL_widen 38 = .ok (.invokevirtual 137, 3) := by decide +kernel
theorem d_CL_widen_41 : decode b_CL_widen 41 = .ok (.ifCond .ne 8, 3) := by decide +kernel
theorem d_CL_widen_44 : decode b_CL_widen 44 = .ok (.aload_n 0, 1) := by decide +kernel
theorem d_CL_widen_45 : decode b_CL_widen 45 = .ok (.invokevirtual 112, 3) := by decide +kernel
theorem d_CL_widen_48 : decode b_CL_widen 48 = .ok (.ireturn, 1) := by decide +kernel
theorem d_CL_widen_49 : decode b_CL_widen 49 = .ok (.aload_n 0, 1) := by decide +kernel
theorem d_CL_widen_50 : decode b_CL_widen 50 = .ok (.getfield 65, 3) := by decide +kernel
theorem d_CL_widen_53 : decode b_CL_widen 53 = .ok (.invokevirtual 140, 3) := by decide +kernel
theorem d_CL_widen_56 : decode b_CL_widen 56 = .ok (.aload_n 0, 1) := by decide +kernel
theorem d_CL_widen_57 : decode b_CL_widen 57 = .ok (.iload_n 1, 1) := by decide +kernel
theorem d_CL_widen_58 : decode b_CL_widen 58 = .ok (.iconst (-1), 1) := by decide +kernel
theorem d_CL_widen_59 : decode b_CL_widen 59 = .ok (.invokevirtual 162, 3) := by decide +kernel
theorem d_CL_widen_62 : decode b_CL_widen 62 = .ok (.aload_n 0, 1) := by decide +kernel
theorem d_CL_widen_63 : decode b_CL_widen 63 = .ok (.getfield 65, 3) := by decide +kernel
theorem d_CL_widen_66 : decode b_CL_widen 66 = .ok (.iload_n 2, 1) := by decide +kernel
theorem d_CL_widen_67 : decode b_CL_widen 67 = .ok (.invokevirtual 141, 3) := by decide +kernel
theorem d_CL_widen_70 : decode b_CL_widen 70 = .ok (.aload_n 0, 1) := by decide +kernel
theorem d_CL_widen_71 : decode b_CL_widen 71 = .ok (.aload_n 0, 1) := by decide +kernel
theorem d_CL_widen_72 : decode b_CL_widen 72 = .ok (.getfield 72, 3) := by decide +kernel
theorem d_CL_widen_75 : decode b_CL_widen 75 = .ok (.invokevirtual 145, 3) := by decide +kernel
theorem d_CL_widen_78 : decode b_CL_widen 78 = .ok (.iconst 0, 1) := by decide +kernel
theorem d_CL_widen_79 : decode b_CL_widen 79 = .ok (.invokevirtual 148, 3) := by decide +kernel
theorem d_CL_widen_82 : decode b_CL_widen 82 = .ok (.ireturn, 1) := by decide +kernel
def f_CL_widen_32 (s0 : Int32) (σ : St) : XR := (.inl s0, σ)
def k_CL_widen_32 (s0 : Int32) (σ : St) : Prop := True
def f_CL_widen_28 (σ : St) : XR := xb (f_CL_throwMissing σ) (fun x u => f_CL_widen_32 x u)
def k_CL_widen_28 (σ : St) : Prop := (k_CL_throwMissing σ) ∧ (∀ x, (f_CL_throwMissing σ).1 = .inl x → (k_CL_widen_32 x ((f_CL_throwMissing σ).2)))
def f_CL_widen_48 (s0 : Int32) (σ : St) : XR := (.inl s0, σ)
def k_CL_widen_48 (s0 : Int32) (σ : St) : Prop := True
def f_CL_widen_82 (s0 : Int32) (σ : St) : XR := (.inl s0, σ)
def k_CL_widen_82 (s0 : Int32) (σ : St) : Prop := True
def f_CL_widen_70 (σ : St) : XR := xb (f_CL_enterRow (f_Sc_innermost σ) 0 σ) (fun x u => f_CL_widen_82 x u)
def k_CL_widen_70 (σ : St) : Prop := (k_Sc_innermost σ) ∧ ((k_CL_enterRow (f_Sc_innermost σ) 0 σ) ∧ (∀ x, (f_CL_enterRow (f_Sc_innermost σ) 0 σ).1 = .inl x → (k_CL_widen_82 x ((f_CL_enterRow (f_Sc_innermost σ) 0 σ).2))))
def f_CL_widen_62 (x2 : Int32) (σ : St) : XR := f_CL_widen_70 (f_Ro_join x2 σ)
def k_CL_widen_62 (x2 : Int32) (σ : St) : Prop := (k_Ro_join x2 σ) ∧ (k_CL_widen_70 (f_Ro_join x2 σ))
def f_CL_widen_56 (x1 : Int32) (x2 : Int32) (σ : St) : XR := f_CL_widen_62 x2 (f_CL_joinAllBut x1 (-1) σ)
def k_CL_widen_56 (x1 : Int32) (x2 : Int32) (σ : St) : Prop := (k_CL_joinAllBut x1 (-1) σ) ∧ (k_CL_widen_62 x2 (f_CL_joinAllBut x1 (-1) σ))
def f_CL_widen (a1 : Int32) (a2 : Int32) (σ : St) : XR := if (f_CL_isShut σ) = 0 then (if (f_CL_stands a1 σ) = 0 then (f_CL_widen_28 σ) else (if (f_Te_has a2 σ) = 0 then (f_CL_widen_28 σ) else (if (f_Te_isTruth a2 σ) = 0 then (xb (f_CL_throwWrong σ) (fun x u => f_CL_widen_48 x u)) else (f_CL_widen_56 a1 a2 (f_Ro_wipe σ))))) else (.inl (-1), σ)
def k_CL_widen (a1 : Int32) (a2 : Int32) (σ : St) : Prop := (k_CL_isShut σ) ∧ (((f_CL_isShut σ) = 0 → ((k_CL_stands a1 σ) ∧ (((f_CL_stands a1 σ) = 0 → (k_CL_widen_28 σ)) ∧ (¬ (f_CL_stands a1 σ) = 0 → ((k_Te_has a2 σ) ∧ (((f_Te_has a2 σ) = 0 → (k_CL_widen_28 σ)) ∧ (¬ (f_Te_has a2 σ) = 0 → ((k_Te_isTruth a2 σ) ∧ (((f_Te_isTruth a2 σ) = 0 → ((k_CL_throwWrong σ) ∧ (∀ x, (f_CL_throwWrong σ).1 = .inl x → (k_CL_widen_48 x ((f_CL_throwWrong σ).2))))) ∧ (¬ (f_Te_isTruth a2 σ) = 0 → ((k_Ro_wipe σ) ∧ (k_CL_widen_56 a1 a2 (f_Ro_wipe σ))))))))))))) ∧ (¬ (f_CL_isShut σ) = 0 → True))
abbrev w_CL_widen : List Cond := Cond.code y_CL_widen b_CL_widen 3 (some .int) :: gw
abbrev rm_CL_widen : Room := { frames := 8, cells := 1, slots := 6, locals := 142 }
set_option maxHeartbeats 4000000 in
set_option maxRecDepth 100000 in
theorem c_CL_widen (l : Launch) (hlt : l.stackTraces = false) (D : va_G) (ty : Nat → ClassId) (h : Nat → Nat) (px : va_W) (sa : Nat → Nat) (σ : St) (sz : Nat) (a1 : Int32) (a2 : Int32) (hk : k_CL_widen a1 a2 σ) : xMet l y_CL_widen w_CL_widen rm_CL_widen (va_Pc [.ref (h 0), .int a1, .int a2] (fun U => U.heap.size = sz ∧ va_P D classes (Wc ty h σ px) U.heap ∧ va_K D classes (Ta ty) U ∧ NW U ∧ XK sa (va_A (Wc ty h σ px) sz) U U.heap ∧ MK sa (va_A (Wc ty h σ px) sz) U U.heap ∧ va_D (fun _ => True) (Wc ty h σ px))) (Rx D classes (fun u => Wc ty h u px) (va_A (Wc ty h σ px) sz) (f_CL_widen a1 a2 σ)) 1 6 (va_A (Wc ty h σ px) sz) := by
  refine xMet.ofW (cc := b_CL_widen) (maxL := 3) (ret := (some .int)) (by decide) rfl ?_
  intro p e s m args below meth c s₁ B hml htab hv
  obtain ⟨ha, hsz, hP, hK, hN, hX, hM, hD0⟩ := hv
  have hx := B.exec
  have hb := B.bytes
  have hr := B.returns
  have hg : ∀ w ∈ gw, w.before args s = true := fun w h9 => atoms_spec (ws := w_CL_widen) B.pre w (List.mem_cons_of_mem _ h9)
  have hown : s.vm.findClass "ClauseLedger" = some m.cls := findClass_of_methodNamed B.named
  have hlocks := B.notSynchronized
  subst hsz
  have hD := hD0.self (sz := s.heap.size)
  generalize hAe : va_A (Wc ty h σ px) s.heap.size = A at hD hM hX ⊢
  have hA : ∀ q : Nat, s.heap.size ≤ q → A q := fun q h9 => by rw [← hAe]; exact Or.inr h9
  have hS : va_S A s.heap s.heap [] := va_S.rf
  have he : entryFrame m args 3 = entryFrame m ([.ref (h 0), .int a1, .int a2] : List Value).toArray 3 := by rw [ha]
  rw [he, lg_entry_eq]
  have hl := lv_entry ([.ref (h 0), .int a1, .int a2]) (n := 3) (Nat.le_of_ble_eq_true rfl)
  generalize (lg_sl ([.ref (h 0), .int a1, .int a2]) ++ List.replicate (3 - (lg_sl ([.ref (h 0), .int a1, .int a2])).length) Slot.unset).toArray = ls at hl ⊢
  have hl : lv_has ls 3 [(0, .ref (h 0)), (1, .int a1), (2, .int a2)] := hl
  generalize hv : f_CL_widen a1 a2 σ = v
  replace hv := hv.symm
  have B32 : ∀ (H : Heap) (locs : List Loc) (ls : Array Slot) (s0 : Int32) (σ : St), v = f_CL_widen_32 s0 σ → k_CL_widen_32 s0 σ → lv_has ls 3 [] → va_P D classes (Wc ty h σ px) H → va_D A (Wc ty h σ px) → va_S A s.heap H locs → W p l e (headSpec w_CL_widen rm_CL_widen).room s m args below meth c H locs 1 6 (xMQ below (Rx D classes (fun u => Wc ty h u px) A v) args s 1 6 A) (F0 m 32 ls [.int s0]) := by
    intro H locs ls s0 σ hv hk hl hP hD hS
    unfold f_CL_widen_32 at hv
    unfold k_CL_widen_32 at hk
    exact x_ret (fun o t hq => by obtain ⟨rfl, ht⟩ := hq; exact ⟨hS.F ht, by rw [ht, hv]; exact hP, _, rfl, by rw [hv]⟩) (Nat.le_of_ble_eq_true rfl) (Nat.le_of_ble_eq_true rfl) (W.iret (Qc := fun _ _ o t => o = .returned (some (.int s0)) ∧ t.heap = H) hx hb hr (fun t ht hW => ⟨rfl, ht⟩) hS.2.2 d_CL_widen_32)
  have B28 : ∀ (H : Heap) (locs : List Loc) (ls : Array Slot) (σ : St), v = f_CL_widen_28 σ → k_CL_widen_28 σ → lv_has ls 3 [(0, .ref (h 0))] → va_P D classes (Wc ty h σ px) H → va_D A (Wc ty h σ px) → va_S A s.heap H locs → W p l e (headSpec w_CL_widen rm_CL_widen).room s m args below meth c H locs 0 0 (xMQ below (Rx D classes (fun u => Wc ty h u px) A v) args s 1 6 A) (F0 m 28 ls []) := by
    intro H locs ls σ hv hk hl hP hD hS
    unfold f_CL_widen_28 at hv
    unfold k_CL_widen_28 at hk
    refine lv_aload_n hx hb d_CL_widen_28 rfl (lv_at hl 0 rfl) ?_
    obtain ⟨hk0, hk⟩ := hk
    refine x_callV (As := []) (rest := []) ⟨hx, hb, hml, hown, hg⟩ (c_CL_throwMissing l hlt D ty h px sa σ H.size  hk0) ⟨callB_of 0 hg (gw_C m_914) rfl rfl rfl (hg _ m_1) (hg _ m_911) hd_CL_throwMissing ⟨Nat.le_of_ble_eq_true rfl, Nat.le_of_ble_eq_true rfl⟩, hg _ m_913, hg _ ms_29⟩ (zz_preX hM hN hX hS hA hK hP hD 0 rfl rfl) rfl hl.1 rfl (Nat.le_of_ble_eq_true rfl) d_CL_widen_29 ⟨Nat.le_of_ble_eq_true rfl, Nat.le_of_ble_eq_true rfl⟩ (fun r9 st9 t9 L9 h09 hal9 hR9 hL9 => ?_) (fun q9 st9 t9 L9 h09 h19 hal9 hR9 hL9 => ?_)
    · obtain ⟨hF9, hP9, x, rfl, hz9⟩ := hR9
      have hv := hv.trans (xb_l hz9)
      have hk := hk _ hz9
      have hS := zz_xS hS h09 hF9 (zz_free hD hS hA) hL9
      have hD : va_D A (Wc ty h (f_CL_throwMissing σ).2 px) := zz_D hD rfl
      exact B32 _ _ _ x (f_CL_throwMissing σ).2 hv hk (lv_sub hl [] rfl) hP9 hD hS
    · obtain ⟨hF9, hP9, E9, ce9, hz9, hq9, hn9, hc9⟩ := hR9
      have hv := hv.trans (xb_r hz9)
      have hS := zz_xS hS h09 hF9 (zz_free hD hS hA) hL9
      exact x_out htab hlocks (fun t ht hal => ⟨hS.F ht, by rw [ht, hv]; exact hP9, E9, ce9, by rw [hv], by rw [ht]; exact hq9, hn9, by rw [h19.findClass]; exact hc9⟩) hS.2.2 (Nat.le_of_ble_eq_true rfl) (Nat.le_of_ble_eq_true rfl)
  have B48 : ∀ (H : Heap) (locs : List Loc) (ls : Array Slot) (s0 : Int32) (σ : St), v = f_CL_widen_48 s0 σ → k_CL_widen_48 s0 σ → lv_has ls 3 [] → va_P D classes (Wc ty h σ px) H → va_D A (Wc ty h σ px) → va_S A s.heap H locs → W p l e (headSpec w_CL_widen rm_CL_widen).room s m args below meth c H locs 1 6 (xMQ below (Rx D classes (fun u => Wc ty h u px) A v) args s 1 6 A) (F0 m 48 ls [.int s0]) := by
    intro H locs ls s0 σ hv hk hl hP hD hS
    unfold f_CL_widen_48 at hv
    unfold k_CL_widen_48 at hk
    exact x_ret (fun o t hq => by obtain ⟨rfl, ht⟩ := hq; exact ⟨hS.F ht, by rw [ht, hv]; exact hP, _, rfl, by rw [hv]⟩) (Nat.le_of_ble_eq_true rfl) (Nat.le_of_ble_eq_true rfl) (W.iret (Qc := fun _ _ o t => o = .returned (some (.int s0)) ∧ t.heap = H) hx hb hr (fun t ht hW => ⟨rfl, ht⟩) hS.2.2 d_CL_widen_48)
  have B82 : ∀ (H : Heap) (locs : List Loc) (ls : Array Slot) (s0 : Int32) (σ : St), v = f_CL_widen_82 s0 σ → k_CL_widen_82 s0 σ → lv_has ls 3 [] → va_P D classes (Wc ty h σ px) H → va_D A (Wc ty h σ px) → va_S A s.heap H locs → W p l e (headSpec w_CL_widen rm_CL_widen).room s m args below meth c H locs 1 6 (xMQ below (Rx D classes (fun u => Wc ty h u px) A v) args s 1 6 A) (F0 m 82 ls [.int s0]) := by
    intro H locs ls s0 σ hv hk hl hP hD hS
    unfold f_CL_widen_82 at hv
    unfold k_CL_widen_82 at hk
    exact x_ret (fun o t hq => by obtain ⟨rfl, ht⟩ := hq; exact ⟨hS.F ht, by rw [ht, hv]; exact hP, _, rfl, by rw [hv]⟩) (Nat.le_of_ble_eq_true rfl) (Nat.le_of_ble_eq_true rfl) (W.iret (Qc := fun _ _ o t => o = .returned (some (.int s0)) ∧ t.heap = H) hx hb hr (fun t ht hW => ⟨rfl, ht⟩) hS.2.2 d_CL_widen_82)
  have B70 : ∀ (H : Heap) (locs : List Loc) (ls : Array Slot) (σ : St), v = f_CL_widen_70 σ → k_CL_widen_70 σ → lv_has ls 3 [(0, .ref (h 0))] → va_P D classes (Wc ty h σ px) H → va_D A (Wc ty h σ px) → va_S A s.heap H locs → W p l e (headSpec w_CL_widen rm_CL_widen).room s m args below meth c H locs 0 0 (xMQ below (Rx D classes (fun u => Wc ty h u px) A v) args s 1 6 A) (F0 m 70 ls []) := by
    intro H locs ls σ hv hk hl hP hD hS
    unfold f_CL_widen_70 at hv
    unfold k_CL_widen_70 at hk
    refine lv_aload_n hx hb d_CL_widen_70 rfl (lv_at hl 0 rfl) ?_
    refine lv_aload_n hx hb d_CL_widen_71 rfl (lv_at hl 0 rfl) ?_
    refine va_get (v := .ref (h 27)) (C := R_CL) (T := T_CL) (N := 11) hx hb hg in_CL hown hK hP 0 rfl rfl 8 (by decide) (hg _ m_292) (fun _ h9 => h9) rfl d_CL_widen_72 ?_
    obtain ⟨hk0, hk⟩ := hk
    refine zz_callV (va_runV (As := []) (rest := [.ref (h 0)]) ⟨hx, hb, hml, hown, hg⟩ (c_Sc_innermost l D ty h px sa σ  hk0) ⟨callB_of 0 hg (gw_C m_943) rfl rfl rfl (hg _ m_11) (hg _ m_940) hd_Sc_innermost ⟨Nat.le_of_ble_eq_true rfl, Nat.le_of_ble_eq_true rfl⟩, hg _ m_941, hg _ m_942⟩ (zz_preV (hM.at hS) hN hK hP 27 rfl rfl) rfl rfl hl.1 rfl (lv_room (Nat.le_of_ble_eq_true rfl)) d_CL_widen_75 ⟨Nat.le_of_ble_eq_true rfl, Nat.le_of_ble_eq_true rfl⟩) ?_
    refine lv_iconst (v := 0) hx hb d_CL_widen_78 (by decide) ?_
    obtain ⟨hk0, hk⟩ := hk
    refine x_callV (As := [.int (f_Sc_innermost σ), .int 0]) (rest := []) ⟨hx, hb, hml, hown, hg⟩ (c_CL_enterRow l hlt D ty h px sa σ H.size (f_Sc_innermost σ) 0 hk0) ⟨callB_of 2 hg (gw_C m_947) rfl rfl rfl (hg _ m_1) (hg _ m_944) hd_CL_enterRow ⟨Nat.le_of_ble_eq_true rfl, Nat.le_of_ble_eq_true rfl⟩, hg _ m_946, hg _ ms_30⟩ (zz_preX hM hN hX hS hA hK hP hD 0 rfl rfl) rfl hl.1 rfl (Nat.le_of_ble_eq_true rfl) d_CL_widen_79 ⟨Nat.le_of_ble_eq_true rfl, Nat.le_of_ble_eq_true rfl⟩ (fun r9 st9 t9 L9 h09 hal9 hR9 hL9 => ?_) (fun q9 st9 t9 L9 h09 h19 hal9 hR9 hL9 => ?_)
    · obtain ⟨hF9, hP9, x, rfl, hz9⟩ := hR9
      have hv := hv.trans (xb_l hz9)
      have hk := hk _ hz9
      have hS := zz_xS hS h09 hF9 (zz_free hD hS hA) hL9
      have hD : va_D A (Wc ty h (f_CL_enterRow (f_Sc_innermost σ) 0 σ).2 px) := zz_D hD rfl
      exact B82 _ _ _ x (f_CL_enterRow (f_Sc_innermost σ) 0 σ).2 hv hk (lv_sub hl [] rfl) hP9 hD hS
    · obtain ⟨hF9, hP9, E9, ce9, hz9, hq9, hn9, hc9⟩ := hR9
      have hv := hv.trans (xb_r hz9)
      have hS := zz_xS hS h09 hF9 (zz_free hD hS hA) hL9
      exact x_out htab hlocks (fun t ht hal => ⟨hS.F ht, by rw [ht, hv]; exact hP9, E9, ce9, by rw [hv], by rw [ht]; exact hq9, hn9, by rw [h19.findClass]; exact hc9⟩) hS.2.2 (Nat.le_of_ble_eq_true rfl) (Nat.le_of_ble_eq_true rfl)
  have B62 : ∀ (H : Heap) (locs : List Loc) (ls : Array Slot) (x2 : Int32) (σ : St), v = f_CL_widen_62 x2 σ → k_CL_widen_62 x2 σ → lv_has ls 3 [(0, .ref (h 0)), (2, .int x2)] → va_P D classes (Wc ty h σ px) H → va_D A (Wc ty h σ px) → va_S A s.heap H locs → W p l e (headSpec w_CL_widen rm_CL_widen).room s m args below meth c H locs 0 0 (xMQ below (Rx D classes (fun u => Wc ty h u px) A v) args s 1 6 A) (F0 m 62 ls []) := by
    intro H locs ls x2 σ hv hk hl hP hD hS
    unfold f_CL_widen_62 at hv
    unfold k_CL_widen_62 at hk
    refine lv_aload_n hx hb d_CL_widen_62 rfl (lv_at hl 0 rfl) ?_
    refine va_get (v := .ref (h 25)) (C := R_CL) (T := T_CL) (N := 11) hx hb hg in_CL hown hK hP 0 rfl rfl 7 (by decide) (hg _ m_291) (fun _ h9 => h9) rfl d_CL_widen_63 ?_
    refine lv_iload_n hx hb d_CL_widen_66 rfl (lv_at hl 1 rfl) ?_
    obtain ⟨hk0, hk⟩ := hk
    refine va_callv (va_runV (As := [.int x2]) (rest := []) ⟨hx, hb, hml, hown, hg⟩ (c_Ro_join l D ty h px sa σ H.size x2 hk0) ⟨callB_of 1 hg (gw_C m_939) rfl rfl rfl (hg _ m_10) (hg _ m_936) hd_Ro_join ⟨Nat.le_of_ble_eq_true rfl, Nat.le_of_ble_eq_true rfl⟩, hg _ m_937, hg _ m_938⟩ (zz_preVW hM hS hA hN hK hP hD 25 rfl rfl) rfl rfl hl.1 rfl (lv_room (Nat.le_of_ble_eq_true rfl)) d_CL_widen_67 ⟨Nat.le_of_ble_eq_true rfl, Nat.le_of_ble_eq_true rfl⟩) hS (fun q _ h => zz_free hD hS hA q h) (zz_free hD hS hA) (fun u67 t H locs ht hvm hp hP1 hz hk1 hS => ?_)
    rw [ht] at hP1
    rw [← hp] at hv hk
    have hD : va_D A (Wc ty h u67 px) := zz_D hD rfl
    have hP := hP1
    exact B70 _ _ _  u67 hv hk (lv_sub hl [0] rfl) hP hD hS
  have B56 : ∀ (H : Heap) (locs : List Loc) (ls : Array Slot) (x1 : Int32) (x2 : Int32) (σ : St), v = f_CL_widen_56 x1 x2 σ → k_CL_widen_56 x1 x2 σ → lv_has ls 3 [(0, .ref (h 0)), (1, .int x1), (2, .int x2)] → va_P D classes (Wc ty h σ px) H → va_D A (Wc ty h σ px) → va_S A s.heap H locs → W p l e (headSpec w_CL_widen rm_CL_widen).room s m args below meth c H locs 0 0 (xMQ below (Rx D classes (fun u => Wc ty h u px) A v) args s 1 6 A) (F0 m 56 ls []) := by
    intro H locs ls x1 x2 σ hv hk hl hP hD hS
    unfold f_CL_widen_56 at hv
    unfold k_CL_widen_56 at hk
    refine lv_aload_n hx hb d_CL_widen_56 rfl (lv_at hl 0 rfl) ?_
    refine lv_iload_n hx hb d_CL_widen_57 rfl (lv_at hl 1 rfl) ?_
    refine lv_iconst (v := -1) hx hb d_CL_widen_58 (by decide) ?_
    obtain ⟨hk0, hk⟩ := hk
    refine va_callv (va_runV (As := [.int x1, .int (-1)]) (rest := []) ⟨hx, hb, hml, hown, hg⟩ (c_CL_joinAllBut l D ty h px sa σ H.size x1 (-1) hk0) ⟨callB_of 2 hg (gw_C m_988) rfl rfl rfl (hg _ m_1) (hg _ m_985) hd_CL_joinAllBut ⟨Nat.le_of_ble_eq_true rfl, Nat.le_of_ble_eq_true rfl⟩, hg _ m_987, hg _ ms_31⟩ (zz_preVW hM hS hA hN hK hP hD 0 rfl rfl) rfl rfl hl.1 rfl (lv_room (Nat.le_of_ble_eq_true rfl)) d_CL_widen_59 ⟨Nat.le_of_ble_eq_true rfl, Nat.le_of_ble_eq_true rfl⟩) hS (fun q _ h => zz_free hD hS hA q h) (zz_free hD hS hA) (fun u59 t H locs ht hvm hp hP1 hz hk1 hS => ?_)
    rw [ht] at hP1
    rw [← hp] at hv hk
    have hD : va_D A (Wc ty h u59 px) := zz_D hD rfl
    have hP := hP1
    exact B62 _ _ _ x2 u59 hv hk (lv_sub hl [0, 2] rfl) hP hD hS
  unfold f_CL_widen at hv
  unfold k_CL_widen at hk
  refine lv_aload_n hx hb d_CL_widen_0 rfl (lv_at hl 0 rfl) ?_
  obtain ⟨hk0, hk⟩ := hk
  refine zz_callV (va_runV (As := []) (rest := []) ⟨hx, hb, hml, hown, hg⟩ (c_CL_isShut l D ty h px sa σ  hk0) ⟨callB_of 0 hg (gw_C m_571) rfl rfl rfl (hg _ m_1) (hg _ m_568) hd_CL_isShut ⟨Nat.le_of_ble_eq_true rfl, Nat.le_of_ble_eq_true rfl⟩, hg _ m_570, hg _ ms_8⟩ (zz_preV (hM.at hS) hN hK hP 0 rfl rfl) rfl rfl hl.1 rfl (lv_room (Nat.le_of_ble_eq_true rfl)) d_CL_widen_1 ⟨Nat.le_of_ble_eq_true rfl, Nat.le_of_ble_eq_true rfl⟩) ?_
  refine lv_if_eq (tgt := 9) hx hb d_CL_widen_4 (by decide) (fun hc => ?_) (fun hc => ?_)
  · have hv := hv.trans (if_pos hc)
    have hk := hk.1 hc
    refine lv_aload_n hx hb d_CL_widen_9 rfl (lv_at hl 0 rfl) ?_
    refine lv_iload_n hx hb d_CL_widen_10 rfl (lv_at hl 1 rfl) ?_
    obtain ⟨hk0, hk⟩ := hk
    refine zz_callV (va_runV (As := [.int a1]) (rest := []) ⟨hx, hb, hml, hown, hg⟩ (c_CL_stands l D ty h px sa σ a1 hk0) ⟨callB_of 1 hg (gw_C m_406) rfl rfl rfl (hg _ m_1) (hg _ m_403) hd_CL_stands ⟨Nat.le_of_ble_eq_true rfl, Nat.le_of_ble_eq_true rfl⟩, hg _ m_405, hg _ ms_3⟩ (zz_preV (hM.at hS) hN hK hP 0 rfl rfl) rfl rfl hl.1 rfl (lv_room (Nat.le_of_ble_eq_true rfl)) d_CL_widen_11 ⟨Nat.le_of_ble_eq_true rfl, Nat.le_of_ble_eq_true rfl⟩) ?_
    refine lv_if_eq (tgt := 28) hx hb d_CL_widen_14 (by decide) (fun hc => ?_) (fun hc => ?_)
    · have hv := hv.trans (if_pos hc)
      have hk := hk.1 hc
      exact B28 _ _ _  σ hv hk (lv_sub hl [0] rfl) hP hD hS
    · have hv := hv.trans (if_neg hc)
      have hk := hk.2 hc
      refine lv_aload_n hx hb d_CL_widen_17 rfl (lv_at hl 0 rfl) ?_
      refine va_get (v := .ref (h 6)) (C := R_CL) (T := T_CL) (N := 11) hx hb hg in_CL hown hK hP 0 rfl rfl 1 (by decide) (hg _ m_285) (fun _ h9 => h9) rfl d_CL_widen_18 ?_
      refine lv_iload_n hx hb d_CL_widen_21 rfl (lv_at hl 2 rfl) ?_
      obtain ⟨hk0, hk⟩ := hk
      refine zz_callV (va_runV (As := [.int a2]) (rest := []) ⟨hx, hb, hml, hown, hg⟩ (c_Te_has l D ty h px sa σ a2 hk0) ⟨callB_of 1 hg (gw_C m_430) rfl rfl rfl (hg _ m_3) (hg _ m_427) hd_Te_has ⟨Nat.le_of_ble_eq_true rfl, Nat.le_of_ble_eq_true rfl⟩, hg _ m_428, hg _ m_429⟩ (zz_preV (hM.at hS) hN hK hP 6 rfl rfl) rfl rfl hl.1 rfl (lv_room (Nat.le_of_ble_eq_true rfl)) d_CL_widen_22 ⟨Nat.le_of_ble_eq_true rfl, Nat.le_of_ble_eq_true rfl⟩) ?_
      refine lv_if_ne (tgt := 33) hx hb d_CL_widen_25 (by decide) (fun hc => ?_) (fun hc => ?_)
      · have hv := hv.trans (if_neg hc)
        have hk := hk.2 hc
        refine lv_aload_n hx hb d_CL_widen_33 rfl (lv_at hl 0 rfl) ?_
        refine va_get (v := .ref (h 6)) (C := R_CL) (T := T_CL) (N := 11) hx hb hg in_CL hown hK hP 0 rfl rfl 1 (by decide) (hg _ m_285) (fun _ h9 => h9) rfl d_CL_widen_34 ?_
        refine lv_iload_n hx hb d_CL_widen_37 rfl (lv_at hl 2 rfl) ?_
        obtain ⟨hk0, hk⟩ := hk
        refine zz_callV (va_runV (As := [.int a2]) (rest := []) ⟨hx, hb, hml, hown, hg⟩ (c_Te_isTruth l D ty h px sa σ a2 hk0) ⟨callB_of 1 hg (gw_C m_661) rfl rfl rfl (hg _ m_3) (hg _ m_931) hd_Te_isTruth ⟨Nat.le_of_ble_eq_true rfl, Nat.le_of_ble_eq_true rfl⟩, hg _ m_659, hg _ m_660⟩ (zz_preV (hM.at hS) hN hK hP 6 rfl rfl) rfl rfl hl.1 rfl (lv_room (Nat.le_of_ble_eq_true rfl)) d_CL_widen_38 ⟨Nat.le_of_ble_eq_true rfl, Nat.le_of_ble_eq_true rfl⟩) ?_
        refine lv_if_ne (tgt := 49) hx hb d_CL_widen_41 (by decide) (fun hc => ?_) (fun hc => ?_)
        · have hv := hv.trans (if_neg hc)
          have hk := hk.2 hc
          refine lv_aload_n hx hb d_CL_widen_49 rfl (lv_at hl 0 rfl) ?_
          refine va_get (v := .ref (h 25)) (C := R_CL) (T := T_CL) (N := 11) hx hb hg in_CL hown hK hP 0 rfl rfl 7 (by decide) (hg _ m_291) (fun _ h9 => h9) rfl d_CL_widen_50 ?_
          obtain ⟨hk0, hk⟩ := hk
          refine va_callv (va_runV (As := []) (rest := []) ⟨hx, hb, hml, hown, hg⟩ (c_Ro_wipe l D ty h px sa σ s.heap.size  hk0) ⟨callB_of 0 hg (gw_C m_935) rfl rfl rfl (hg _ m_10) (hg _ m_932) hd_Ro_wipe ⟨Nat.le_of_ble_eq_true rfl, Nat.le_of_ble_eq_true rfl⟩, hg _ m_933, hg _ m_934⟩ (zz_preVW hM hS hA hN hK hP hD 25 rfl rfl) rfl rfl hl.1 rfl (lv_room (Nat.le_of_ble_eq_true rfl)) d_CL_widen_53 ⟨Nat.le_of_ble_eq_true rfl, Nat.le_of_ble_eq_true rfl⟩) hS (fun q _ h => zz_free hD hS hA q h) (zz_free hD hS hA) (fun u53 t H locs ht hvm hp hP1 hz hk1 hS => ?_)
          rw [ht] at hP1
          rw [← hp] at hv hk
          have hD : va_D A (Wc ty h u53 px) := zz_D hD rfl
          have hP := hP1
          exact B56 _ _ _ a1 a2 u53 hv hk (lv_sub hl [0, 1, 2] rfl) hP hD hS
        · have hv := hv.trans (if_pos hc)
          have hk := hk.1 hc
          refine lv_aload_n hx hb d_CL_widen_44 rfl (lv_at hl 0 rfl) ?_
          obtain ⟨hk0, hk⟩ := hk
          refine x_callV (As := []) (rest := []) ⟨hx, hb, hml, hown, hg⟩ (c_CL_throwWrong l hlt D ty h px sa σ s.heap.size  hk0) ⟨callB_of 0 hg (gw_C m_774) rfl rfl rfl (hg _ m_1) (hg _ m_771) hd_CL_throwWrong ⟨Nat.le_of_ble_eq_true rfl, Nat.le_of_ble_eq_true rfl⟩, hg _ m_773, hg _ ms_24⟩ (zz_preX hM hN hX hS hA hK hP hD 0 rfl rfl) rfl hl.1 rfl (Nat.le_of_ble_eq_true rfl) d_CL_widen_45 ⟨Nat.le_of_ble_eq_true rfl, Nat.le_of_ble_eq_true rfl⟩ (fun r9 st9 t9 L9 h09 hal9 hR9 hL9 => ?_) (fun q9 st9 t9 L9 h09 h19 hal9 hR9 hL9 => ?_)
          · obtain ⟨hF9, hP9, x, rfl, hz9⟩ := hR9
            have hv := hv.trans (xb_l hz9)
            have hk := hk _ hz9
            have hS := zz_xS hS h09 hF9 (zz_free hD hS hA) hL9
            have hD : va_D A (Wc ty h (f_CL_throwWrong σ).2 px) := zz_D hD rfl
            exact B48 _ _ _ x (f_CL_throwWrong σ).2 hv hk (lv_sub hl [] rfl) hP9 hD hS
          · obtain ⟨hF9, hP9, E9, ce9, hz9, hq9, hn9, hc9⟩ := hR9
            have hv := hv.trans (xb_r hz9)
            have hS := zz_xS hS h09 hF9 (zz_free hD hS hA) hL9
            exact x_out htab hlocks (fun t ht hal => ⟨hS.F ht, by rw [ht, hv]; exact hP9, E9, ce9, by rw [hv], by rw [ht]; exact hq9, hn9, by rw [h19.findClass]; exact hc9⟩) hS.2.2 (Nat.le_of_ble_eq_true rfl) (Nat.le_of_ble_eq_true rfl)
      · have hv := hv.trans (if_pos hc)
        have hk := hk.1 hc
        exact B28 _ _ _  σ hv hk (lv_sub hl [0] rfl) hP hD hS
  · have hv := hv.trans (if_neg hc)
    have hk := hk.2 hc
    refine lv_iconst (v := -1) hx hb d_CL_widen_7 (by decide) ?_
    exact x_ret (fun o t hq => by obtain ⟨rfl, ht⟩ := hq; exact ⟨hS.F ht, by rw [ht, hv]; exact hP, _, rfl, by rw [hv]⟩) (Nat.le_of_ble_eq_true rfl) (Nat.le_of_ble_eq_true rfl) (W.iret (Qc := fun _ _ o t => o = .returned (some (.int (-1))) ∧ t.heap = s.heap) hx hb hr (fun t ht hW => ⟨rfl, ht⟩) hS.2.2 d_CL_widen_8)

-- ClauseLedger$Terms.secondOf(I)I
abbrev b_Te_secondOf : ByteArray := prog_11_method_9_code
def y_Te_secondOf : MethodName := ⟨"ClauseLedger$Terms", "secondOf", "(I)I"⟩
theorem hd_Te_secondOf : y_Te_secondOf.cls ≠ "java/lang/invoke/MethodHandle" ∧ y_Te_secondOf.cls ≠ "java/lang/invoke/VarHandle" ∧ (parseMethodDescriptor y_Te_secondOf.desc).map (fun d => d.parameters.length) = some 1 := by decide +kernel
theorem d_Te_secondOf_0 : decode b_Te_secondOf 0 = .ok (.aload_n 0, 1) := by decide +kernel
theorem d_Te_secondOf_1 : decode b_Te_secondOf 1 = .ok (.iload_n 1, 1) := by decide +kernel
theorem d_Te_secondOf_2 : decode b_Te_secondOf 2 = .ok (.invokevirtual 57, 3) := by decide +kernel
theorem d_Te_secondOf_5 : decode b_Te_secondOf 5 = .ok (.ifCond .eq 12, 3) := by decide +kernel
theorem d_Te_secondOf_8 : decode b_Te_secondOf 8 = .ok (.aload_n 0, 1) := by decide +kernel
theorem d_Te_secondOf_9 : decode b_Te_secondOf 9 = .ok (.getfield 24, 3) := by decide +kernel
theorem d_Te_secondOf_12 : decode b_Te_secondOf 12 = .ok (.iload_n 1, 1) := by decide +kernel
theorem d_Te_secondOf_13 : decode b_Te_secondOf 13 = .ok (.iaload, 1) := by decide +kernel
theorem d_Te_secondOf_14 : decode b_Te_secondOf 14 = .ok (.goto 4, 3) := by decide +kernel
theorem d_Te_secondOf_17 : decode b_Te_secondOf 17 = .ok (.iconst (-1), 1) := by decide +kernel
theorem d_Te_secondOf_18 : decode b_Te_secondOf 18 = .ok (.ireturn, 1) := by decide +kernel
def f_Te_secondOf_18 (s0 : Int32) (σ : St) : Int32 := s0
def k_Te_secondOf_18 (s0 : Int32) (σ : St) : Prop := True
def f_Te_secondOf (a1 : Int32) (σ : St) : Int32 := if (f_Te_has a1 σ) = 0 then (f_Te_secondOf_18 (-1) σ) else (f_Te_secondOf_18 (σ.1 11 a1.toNatClampNeg) σ)
def k_Te_secondOf (a1 : Int32) (σ : St) : Prop := (k_Te_has a1 σ) ∧ (((f_Te_has a1 σ) = 0 → (k_Te_secondOf_18 (-1) σ)) ∧ (¬ (f_Te_has a1 σ) = 0 → (vp_in a1 208 ∧ (k_Te_secondOf_18 (σ.1 11 a1.toNatClampNeg) σ))))
abbrev w_Te_secondOf : List Cond := Cond.code y_Te_secondOf b_Te_secondOf 2 (some .int) :: gw
abbrev rm_Te_secondOf : Room := { frames := 1, cells := 0, slots := 0, locals := 21 }
set_option maxHeartbeats 4000000 in
set_option maxRecDepth 100000 in
theorem c_Te_secondOf (l : Launch) (D : va_G) (ty : Nat → ClassId) (h : Nat → Nat) (px : va_W) (sa : Nat → Nat) (σ : St) (a1 : Int32) (hk : k_Te_secondOf a1 σ) : Met l y_Te_secondOf w_Te_secondOf rm_Te_secondOf (va_Pc [.ref (h 6), .int a1] (fun U => va_P D classes (Wc ty h σ px) U.heap ∧ va_K D classes (Ta ty) U ∧ NW U ∧ MK sa (fun _ => False) U U.heap)) (k2_QcV (.int (f_Te_secondOf a1 σ))) 0 0 (fun _ => False) := by
  refine Met.ofW (cc := b_Te_secondOf) (maxL := 2) (ret := (some .int)) (by decide) rfl ?_
  intro p e s m args below meth c s₁ B hml hv
  obtain ⟨ha, hP, hK, hN, hM⟩ := hv
  have hx := B.exec
  have hb := B.bytes
  have hr := B.returns
  have hg : ∀ w ∈ gw, w.before args s = true := fun w h9 => atoms_spec (ws := w_Te_secondOf) B.pre w (List.mem_cons_of_mem _ h9)
  have hown : s.vm.findClass "ClauseLedger$Terms" = some m.cls := findClass_of_methodNamed B.named
  have hlocks := B.notSynchronized
  have he : entryFrame m args 2 = entryFrame m ([.ref (h 6), .int a1] : List Value).toArray 2 := by rw [ha]
  rw [he, lg_entry_eq]
  have hl := lv_entry ([.ref (h 6), .int a1]) (n := 2) (Nat.le_of_ble_eq_true rfl)
  generalize (lg_sl ([.ref (h 6), .int a1]) ++ List.replicate (2 - (lg_sl ([.ref (h 6), .int a1])).length) Slot.unset).toArray = ls at hl ⊢
  have hl : lv_has ls 2 [(0, .ref (h 6)), (1, .int a1)] := hl
  generalize hv : f_Te_secondOf a1 σ = v
  replace hv := hv.symm
  have B18 : ∀ (ls : Array Slot) (s0 : Int32), v = f_Te_secondOf_18 s0 σ → k_Te_secondOf_18 s0 σ → lv_has ls 2 [] → W p l e (headSpec w_Te_secondOf rm_Te_secondOf).room s m args below meth c s.heap [] 0 0 (MQ below (k2_QcV (.int v)) args s 0 0 (fun _ => False)) (F0 m 18 ls [.int s0]) := by
    intro ls s0 hv hk hl
    unfold f_Te_secondOf_18 at hv
    unfold k_Te_secondOf_18 at hk
    exact W.iret hx hb hr (fun t ht hW => ⟨by rw [hv], ht⟩) (fun q h => nomatch h) d_Te_secondOf_18
  unfold f_Te_secondOf at hv
  unfold k_Te_secondOf at hk
  refine lv_aload_n hx hb d_Te_secondOf_0 rfl (lv_at hl 0 rfl) ?_
  refine lv_iload_n hx hb d_Te_secondOf_1 rfl (lv_at hl 1 rfl) ?_
  obtain ⟨hk0, hk⟩ := hk
  refine zz_callV (va_runV (As := [.int a1]) (rest := []) ⟨hx, hb, hml, hown, hg⟩ (c_Te_has l D ty h px sa σ a1 hk0) ⟨callB_of 1 hg (gw_C m_430) rfl rfl rfl (hg _ m_3) (hg _ m_435) hd_Te_has ⟨Nat.le_of_ble_eq_true rfl, Nat.le_of_ble_eq_true rfl⟩, hg _ m_428, hg _ m_429⟩ (zz_preV hM hN hK hP 6 rfl rfl) rfl rfl hl.1 rfl (lv_room (Nat.le_of_ble_eq_true rfl)) d_Te_secondOf_2 ⟨Nat.le_of_ble_eq_true rfl, Nat.le_of_ble_eq_true rfl⟩) ?_
  refine lv_if_eq (tgt := 17) hx hb d_Te_secondOf_5 (by decide) (fun hc => ?_) (fun hc => ?_)
  · have hv := hv.trans (if_pos hc)
    have hk := hk.1 hc
    refine lv_iconst (v := -1) hx hb d_Te_secondOf_17 (by decide) ?_
    exact B18 _ (-1) hv hk (lv_sub hl [] rfl)
  · have hv := hv.trans (if_neg hc)
    have hk := hk.2 hc
    refine lv_aload_n hx hb d_Te_secondOf_8 rfl (lv_at hl 0 rfl) ?_
    refine va_get (v := .ref (h 11)) (C := R_Te) (T := T_Te) (N := 14) hx hb hg in_Te hown hK hP 6 rfl rfl 4 (by decide) (hg _ m_73) (fun _ h9 => h9) rfl d_Te_secondOf_9 ?_
    refine lv_iload_n hx hb d_Te_secondOf_12 rfl (lv_at hl 1 rfl) ?_
    obtain ⟨hk0, hk⟩ := hk
    refine va_iald hx hb hK hP 11 0 rfl rfl hk0 d_Te_secondOf_13 ?_
    refine lv_goto (tgt := 18) hx hb d_Te_secondOf_14 (by decide) ?_
    exact B18 _ (σ.1 11 a1.toNatClampNeg) hv hk (lv_sub hl [] rfl)

-- ClauseLedger$Terms.opposite(I)I
abbrev b_Te_opposite : ByteArray := prog_11_method_22_code
def y_Te_opposite : MethodName := ⟨"ClauseLedger$Terms", "opposite", "(I)I"⟩
theorem hd_Te_opposite : y_Te_opposite.cls ≠ "java/lang/invoke/MethodHandle" ∧ y_Te_opposite.cls ≠ "java/lang/invoke/VarHandle" ∧ (parseMethodDescriptor y_Te_opposite.desc).map (fun d => d.parameters.length) = some 1 := by decide +kernel
theorem d_Te_opposite_0 : decode b_Te_opposite 0 = .ok (.aload_n 0, 1) := by decide +kernel
theorem d_Te_opposite_1 : decode b_Te_opposite 1 = .ok (.iload_n 1, 1) := by decide +kernel
theorem d_Te_opposite_2 : decode b_Te_opposite 2 = .ok (.invokevirtual 109, 3) := by decide +kernel
theorem d_Te_opposite_5 : decode b_Te_opposite 5 = .ok (.bipush 7, 2) := by decide +kernel
theorem d_Te_opposite_7 : decode b_Te_opposite 7 = .ok (.if_icmp .ne 11, 3) := by decide +kernel
theorem d_Te_opposite_10 : decode b_Te_opposite 10 = .ok (.aload_n 0, 1) := by decide +kernel
theorem d_Te_opposite_11 : decode b_Te_opposite 11 = .ok (.iload_n 1, 1) := by decide +kernel
theorem d_Te_opposite_12 : decode b_Te_opposite 12 = .ok (.invokevirtual 112, 3) := by decide +kernel
theorem d_Te_opposite_15 : decode b_Te_opposite 15 = .ok (.goto 13, 3) := by decide +kernel
theorem d_Te_opposite_18 : decode b_Te_opposite 18 = .ok (.aload_n 0, 1) := by decide +kernel
theorem d_Te_opposite_19 : decode b_Te_opposite 19 = .ok (.bipush 7, 2) := by decide +kernel
theorem d_Te_opposite_21 : decode b_Te_opposite 21 = .ok (.iconst 0, 1) := by decide +kernel
theorem d_Te_opposite_22 : decode b_Te_opposite 22 = .ok (.iconst (-1), 1) := by decide +kernel
theorem d_Te_opposite_23 : decode b_Te_opposite 23 = .ok (.iload_n 1, 1) := by decide +kernel
theorem d_Te_opposite_24 : decode b_Te_opposite 24 = .ok (.iconst (-1), 1) := by decide +kernel
theorem d_Te_opposite_25 : decode b_Te_opposite 25 = .ok (.invokevirtual 105, 3) := by decide +kernel
theorem d_Te_opposite_28 : decode b_Te_opposite 28 = .ok (.ireturn, 1) := by decide +kernel
def f_Te_opposite_28 (s0 : Int32) (σ : St) : Int32 × St := (s0, σ)
def k_Te_opposite_28 (s0 : Int32) (σ : St) : Prop := True
def f_Te_opposite (a1 : Int32) (σ : St) : Int32 × St := if (f_Te_kindOf a1 σ) = 7 then (f_Te_opposite_28 (f_Te_firstOf a1 σ) σ) else (f_Te_opposite_28 ((f_Te_make 7 0 (-1) a1 (-1) σ).1) ((f_Te_make 7 0 (-1) a1 (-1) σ).2))
def k_Te_opposite (a1 : Int32) (σ : St) : Prop := (k_Te_kindOf a1 σ) ∧ (((f_Te_kindOf a1 σ) = 7 → ((k_Te_firstOf a1 σ) ∧ (k_Te_opposite_28 (f_Te_firstOf a1 σ) σ))) ∧ (¬ (f_Te_kindOf a1 σ) = 7 → ((k_Te_make 7 0 (-1) a1 (-1) σ) ∧ (k_Te_opposite_28 ((f_Te_make 7 0 (-1) a1 (-1) σ).1) ((f_Te_make 7 0 (-1) a1 (-1) σ).2)))))
abbrev w_Te_opposite : List Cond := Cond.code y_Te_opposite b_Te_opposite 2 (some .int) :: gw
abbrev rm_Te_opposite : Room := { frames := 3, cells := 0, slots := 0, locals := 76 }
set_option maxHeartbeats 4000000 in
set_option maxRecDepth 100000 in
theorem c_Te_opposite (l : Launch) (D : va_G) (ty : Nat → ClassId) (h : Nat → Nat) (px : va_W) (sa : Nat → Nat) (σ : St) (sz : Nat) (a1 : Int32) (hk : k_Te_opposite a1 σ) : Met l y_Te_opposite w_Te_opposite rm_Te_opposite (va_Pc [.ref (h 6), .int a1] (fun U => U.heap.size = sz ∧ va_P D classes (Wc ty h σ px) U.heap ∧ va_K D classes (Ta ty) U ∧ NW U ∧ MK sa (va_A (Wc ty h σ px) sz) U U.heap ∧ va_D (fun _ => True) (Wc ty h σ px))) (va_Qi (fun r (u : St) => (r, u) = f_Te_opposite a1 σ) (fun u t => va_P D classes (Wc ty h u px) t.heap) (va_A (Wc ty h σ px) sz)) 0 0 (va_A (Wc ty h σ px) sz) := by
  refine Met.ofW (cc := b_Te_opposite) (maxL := 2) (ret := (some .int)) (by decide) rfl ?_
  intro p e s m args below meth c s₁ B hml hv
  obtain ⟨ha, hsz, hP, hK, hN, hM, hD0⟩ := hv
  have hx := B.exec
  have hb := B.bytes
  have hr := B.returns
  have hg : ∀ w ∈ gw, w.before args s = true := fun w h9 => atoms_spec (ws := w_Te_opposite) B.pre w (List.mem_cons_of_mem _ h9)
  have hown : s.vm.findClass "ClauseLedger$Terms" = some m.cls := findClass_of_methodNamed B.named
  have hlocks := B.notSynchronized
  subst hsz
  have hD := hD0.self (sz := s.heap.size)
  generalize hAe : va_A (Wc ty h σ px) s.heap.size = A at hD hM ⊢
  have hA : ∀ q : Nat, s.heap.size ≤ q → A q := fun q h9 => by rw [← hAe]; exact Or.inr h9
  have hS : va_S A s.heap s.heap [] := va_S.rf
  have he : entryFrame m args 2 = entryFrame m ([.ref (h 6), .int a1] : List Value).toArray 2 := by rw [ha]
  rw [he, lg_entry_eq]
  have hl := lv_entry ([.ref (h 6), .int a1]) (n := 2) (Nat.le_of_ble_eq_true rfl)
  generalize (lg_sl ([.ref (h 6), .int a1]) ++ List.replicate (2 - (lg_sl ([.ref (h 6), .int a1])).length) Slot.unset).toArray = ls at hl ⊢
  have hl : lv_has ls 2 [(0, .ref (h 6)), (1, .int a1)] := hl
  generalize hv : f_Te_opposite a1 σ = v
  replace hv := hv.symm
  have B28 : ∀ (H : Heap) (locs : List Loc) (ls : Array Slot) (s0 : Int32) (σ : St), v = f_Te_opposite_28 s0 σ → k_Te_opposite_28 s0 σ → lv_has ls 2 [] → va_P D classes (Wc ty h σ px) H → va_D A (Wc ty h σ px) → va_S A s.heap H locs → W p l e (headSpec w_Te_opposite rm_Te_opposite).room s m args below meth c H locs 0 0 (MQ below (va_Qi (fun r (u : St) => (r, u) = v) (fun u t => va_P D classes (Wc ty h u px) t.heap) A) args s 0 0 A) (F0 m 28 ls [.int s0]) := by
    intro H locs ls s0 σ hv hk hl hP hD hS
    unfold f_Te_opposite_28 at hv
    unfold k_Te_opposite_28 at hk
    exact W.iret hx hb hr (fun t ht hW => ⟨⟨_, _, rfl, hv.symm, by dsimp only; rw [ht]; exact hP⟩, hS.F ht⟩) hS.2.2 d_Te_opposite_28
  unfold f_Te_opposite at hv
  unfold k_Te_opposite at hk
  refine lv_aload_n hx hb d_Te_opposite_0 rfl (lv_at hl 0 rfl) ?_
  refine lv_iload_n hx hb d_Te_opposite_1 rfl (lv_at hl 1 rfl) ?_
  obtain ⟨hk0, hk⟩ := hk
  refine zz_callV (va_runV (As := [.int a1]) (rest := []) ⟨hx, hb, hml, hown, hg⟩ (c_Te_kindOf l D ty h px sa σ a1 hk0) ⟨callB_of 1 hg (gw_C m_434) rfl rfl rfl (hg _ m_3) (hg _ m_978) hd_Te_kindOf ⟨Nat.le_of_ble_eq_true rfl, Nat.le_of_ble_eq_true rfl⟩, hg _ m_432, hg _ m_433⟩ (zz_preV (hM.at hS) hN hK hP 6 rfl rfl) rfl rfl hl.1 rfl (lv_room (Nat.le_of_ble_eq_true rfl)) d_Te_opposite_2 ⟨Nat.le_of_ble_eq_true rfl, Nat.le_of_ble_eq_true rfl⟩) ?_
  refine lv_bipush (v := 7) hx hb d_Te_opposite_5 (by decide) ?_
  refine lv_icmp_ne (tgt := 18) hx hb d_Te_opposite_7 (by decide) (fun hc => ?_) (fun hc => ?_)
  · have hv := hv.trans (if_neg hc)
    have hk := hk.2 hc
    refine lv_aload_n hx hb d_Te_opposite_18 rfl (lv_at hl 0 rfl) ?_
    refine lv_bipush (v := 7) hx hb d_Te_opposite_19 (by decide) ?_
    refine lv_iconst (v := 0) hx hb d_Te_opposite_21 (by decide) ?_
    refine lv_iconst (v := -1) hx hb d_Te_opposite_22 (by decide) ?_
    refine lv_iload_n hx hb d_Te_opposite_23 rfl (lv_at hl 1 rfl) ?_
    refine lv_iconst (v := -1) hx hb d_Te_opposite_24 (by decide) ?_
    obtain ⟨hk0, hk⟩ := hk
    refine va_calli (va_runV (As := [.int 7, .int 0, .int (-1), .int a1, .int (-1)]) (rest := []) ⟨hx, hb, hml, hown, hg⟩ (c_Te_make l D ty h px sa σ s.heap.size 7 0 (-1) a1 (-1) hk0) ⟨callB_of 5 hg (gw_C m_620) rfl rfl rfl (hg _ m_3) (hg _ m_1015) hd_Te_make ⟨Nat.le_of_ble_eq_true rfl, Nat.le_of_ble_eq_true rfl⟩, hg _ m_618, hg _ m_619⟩ (zz_preVW hM hS hA hN hK hP hD 6 rfl rfl) rfl rfl hl.1 rfl (lv_room (Nat.le_of_ble_eq_true rfl)) d_Te_opposite_25 ⟨Nat.le_of_ble_eq_true rfl, Nat.le_of_ble_eq_true rfl⟩) hS (fun q _ h => zz_free hD hS hA q h) (zz_free hD hS hA) (fun r25 u25 t H locs ht hvm hp hP1 hz hk1 hS => ?_)
    rw [ht] at hP1
    rw [← hp] at hv hk
    have hD : va_D A (Wc ty h u25 px) := zz_D hD rfl
    have hP := hP1
    exact B28 _ _ _ r25 u25 hv hk (lv_sub hl [] rfl) hP hD hS
  · have hv := hv.trans (if_pos hc)
    have hk := hk.1 hc
    refine lv_aload_n hx hb d_Te_opposite_10 rfl (lv_at hl 0 rfl) ?_
    refine lv_iload_n hx hb d_Te_opposite_11 rfl (lv_at hl 1 rfl) ?_
    obtain ⟨hk0, hk⟩ := hk
    refine zz_callV (va_runV (As := [.int a1]) (rest := []) ⟨hx, hb, hml, hown, hg⟩ (c_Te_firstOf l D ty h px sa σ a1 hk0) ⟨callB_of 1 hg (gw_C m_447) rfl rfl rfl (hg _ m_3) (hg _ m_979) hd_Te_firstOf ⟨Nat.le_of_ble_eq_true rfl, Nat.le_of_ble_eq_true rfl⟩, hg _ m_445, hg _ m_446⟩ (zz_preV (hM.at hS) hN hK hP 6 rfl rfl) rfl rfl hl.1 rfl (lv_room (Nat.le_of_ble_eq_true rfl)) d_Te_opposite_12 ⟨Nat.le_of_ble_eq_true rfl, Nat.le_of_ble_eq_true rfl⟩) ?_
    refine lv_goto (tgt := 28) hx hb d_Te_opposite_15 (by decide) ?_
    exact B28 _ _ _ (f_Te_firstOf a1 σ) σ hv hk (lv_sub hl [] rfl) hP hD hS

-- ClauseLedger.joinThree(III)Z
abbrev b_CL_joinThree : ByteArray := prog_1_method_32_code
def y_CL_joinThree : MethodName := ⟨"ClauseLedger", "joinThree", "(III)Z"⟩
theorem hd_CL_joinThree : y_CL_joinThree.cls ≠ "java/lang/invoke/MethodHandle" ∧ y_CL_joinThree.cls ≠ "java/lang/invoke/VarHandle" ∧ (parseMethodDescriptor y_CL_joinThree.desc).map (fun d => d.parameters.length) = some 3 := by decide +kernel
theorem d_CL_joinThree_0 : decode b_CL_joinThree 0 = .ok (.aload_n 0, 1) := by decide +kernel
theorem d_CL_joinThree_1 : decode b_CL_joinThree 1 = .ok (.getfield 65, 3) := by decide +kernel
theorem d_CL_joinThree_4 : decode b_CL_joinThree 4 = .ok (.iload_n 1, 1) := by decide +kernel
theorem d_CL_joinThree_5 : decode b_CL_joinThree 5 = .ok (.invokevirtual 141, 3) := by decide +kernel
theorem d_CL_joinThree_8 : decode b_CL_joinThree 8 = .ok (.aload_n 0, 1) := by decide +kernel
theorem d_CL_joinThree_9 : decode b_CL_joinThree 9 = .ok (.getfield 65, 3) := by decide +kernel
theorem d_CL_joinThree_12 : decode b_CL_joinThree 12 = .ok (.iload_n 2, 1) := by decide +kernel
theorem d_CL_joinThree_13 : decode b_CL_joinThree 13 = .ok (.invokevirtual 141, 3) := by decide +kernel
theorem d_CL_joinThree_16 : decode b_CL_joinThree 16 = .ok (.aload_n 0, 1) := by decide +kernel
theorem d_CL_joinThree_17 : decode b_CL_joinThree 17 = .ok (.getfield 65, 3) := by decide +kernel
theorem d_CL_joinThree_20 : decode b_CL_joinThree 20 = .ok (.iload_n 3, 1) := by decide +kernel
theorem d_CL_joinThree_21 : decode b_CL_joinThree 21 = .ok (.invokevirtual 141, 3) := by decide +kernel
theorem d_CL_joinThree_24 : decode b_CL_joinThree 24 = .ok (.iconst 1, 1) := by decide +kernel
theorem d_CL_joinThree_25 : decode b_CL_joinThree 25 = .ok (.ireturn, 1) := by decide +kernel
def f_CL_joinThree_24 (σ : St) : Int32 × St := (1, σ)
def k_CL_joinThree_24 (σ : St) : Prop := True
def f_CL_joinThree_16 (x3 : Int32) (σ : St) : Int32 × St := f_CL_joinThree_24 (f_Ro_join x3 σ)
def k_CL_joinThree_16 (x3 : Int32) (σ : St) : Prop := (k_Ro_join x3 σ) ∧ (k_CL_joinThree_24 (f_Ro_join x3 σ))
def f_CL_joinThree_8 (x2 : Int32) (x3 : Int32) (σ : St) : Int32 × St := f_CL_joinThree_16 x3 (f_Ro_join x2 σ)
def k_CL_joinThree_8 (x2 : Int32) (x3 : Int32) (σ : St) : Prop := (k_Ro_join x2 σ) ∧ (k_CL_joinThree_16 x3 (f_Ro_join x2 σ))
def f_CL_joinThree (a1 : Int32) (a2 : Int32) (a3 : Int32) (σ : St) : Int32 × St := f_CL_joinThree_8 a2 a3 (f_Ro_join a1 σ)
def k_CL_joinThree (a1 : Int32) (a2 : Int32) (a3 : Int32) (σ : St) : Prop := (k_Ro_join a1 σ) ∧ (k_CL_joinThree_8 a2 a3 (f_Ro_join a1 σ))
abbrev w_CL_joinThree : List Cond := Cond.code y_CL_joinThree b_CL_joinThree 4 (some .boolean) :: gw
abbrev rm_CL_joinThree : Room := { frames := 1, cells := 0, slots := 0, locals := 22 }
set_option maxHeartbeats 4000000 in
set_option maxRecDepth 100000 in
theorem c_CL_joinThree (l : Launch) (D : va_G) (ty : Nat → ClassId) (h : Nat → Nat) (px : va_W) (sa : Nat → Nat) (σ : St) (sz : Nat) (a1 : Int32) (a2 : Int32) (a3 : Int32) (hk : k_CL_joinThree a1 a2 a3 σ) : Met l y_CL_joinThree w_CL_joinThree rm_CL_joinThree (va_Pc [.ref (h 0), .int a1, .int a2, .int a3] (fun U => U.heap.size = sz ∧ va_P D classes (Wc ty h σ px) U.heap ∧ va_K D classes (Ta ty) U ∧ NW U ∧ MK sa (va_A (Wc ty h σ px) sz) U U.heap ∧ va_D (fun _ => True) (Wc ty h σ px))) (va_Qi (fun r (u : St) => (r, u) = f_CL_joinThree a1 a2 a3 σ) (fun u t => va_P D classes (Wc ty h u px) t.heap) (va_A (Wc ty h σ px) sz)) 0 0 (va_A (Wc ty h σ px) sz) := by
  refine Met.ofW (cc := b_CL_joinThree) (maxL := 4) (ret := (some .boolean)) (by decide) rfl ?_
  intro p e s m args below meth c s₁ B hml hv
  obtain ⟨ha, hsz, hP, hK, hN, hM, hD0⟩ := hv
  have hx := B.exec
  have hb := B.bytes
  have hr := B.returns
  have hg : ∀ w ∈ gw, w.before args s = true := fun w h9 => atoms_spec (ws := w_CL_joinThree) B.pre w (List.mem_cons_of_mem _ h9)
  have hown : s.vm.findClass "ClauseLedger" = some m.cls := findClass_of_methodNamed B.named
  have hlocks := B.notSynchronized
  subst hsz
  have hD := hD0.self (sz := s.heap.size)
  generalize hAe : va_A (Wc ty h σ px) s.heap.size = A at hD hM ⊢
  have hA : ∀ q : Nat, s.heap.size ≤ q → A q := fun q h9 => by rw [← hAe]; exact Or.inr h9
  have hS : va_S A s.heap s.heap [] := va_S.rf
  have he : entryFrame m args 4 = entryFrame m ([.ref (h 0), .int a1, .int a2, .int a3] : List Value).toArray 4 := by rw [ha]
  rw [he, lg_entry_eq]
  have hl := lv_entry ([.ref (h 0), .int a1, .int a2, .int a3]) (n := 4) (Nat.le_of_ble_eq_true rfl)
  generalize (lg_sl ([.ref (h 0), .int a1, .int a2, .int a3]) ++ List.replicate (4 - (lg_sl ([.ref (h 0), .int a1, .int a2, .int a3])).length) Slot.unset).toArray = ls at hl ⊢
  have hl : lv_has ls 4 [(0, .ref (h 0)), (1, .int a1), (2, .int a2), (3, .int a3)] := hl
  generalize hv : f_CL_joinThree a1 a2 a3 σ = v
  replace hv := hv.symm
  have B24 : ∀ (H : Heap) (locs : List Loc) (ls : Array Slot) (σ : St), v = f_CL_joinThree_24 σ → k_CL_joinThree_24 σ → lv_has ls 4 [] → va_P D classes (Wc ty h σ px) H → va_D A (Wc ty h σ px) → va_S A s.heap H locs → W p l e (headSpec w_CL_joinThree rm_CL_joinThree).room s m args below meth c H locs 0 0 (MQ below (va_Qi (fun r (u : St) => (r, u) = v) (fun u t => va_P D classes (Wc ty h u px) t.heap) A) args s 0 0 A) (F0 m 24 ls []) := by
    intro H locs ls σ hv hk hl hP hD hS
    unfold f_CL_joinThree_24 at hv
    unfold k_CL_joinThree_24 at hk
    refine lv_iconst (v := 1) hx hb d_CL_joinThree_24 (by decide) ?_
    exact W.zret hx hb hr rfl (fun t ht hW => ⟨⟨_, _, rfl, hv.symm, by dsimp only; rw [ht]; exact hP⟩, hS.F ht⟩) hS.2.2 d_CL_joinThree_25
  have B16 : ∀ (H : Heap) (locs : List Loc) (ls : Array Slot) (x3 : Int32) (σ : St), v = f_CL_joinThree_16 x3 σ → k_CL_joinThree_16 x3 σ → lv_has ls 4 [(0, .ref (h 0)), (3, .int x3)] → va_P D classes (Wc ty h σ px) H → va_D A (Wc ty h σ px) → va_S A s.heap H locs → W p l e (headSpec w_CL_joinThree rm_CL_joinThree).room s m args below meth c H locs 0 0 (MQ below (va_Qi (fun r (u : St) => (r, u) = v) (fun u t => va_P D classes (Wc ty h u px) t.heap) A) args s 0 0 A) (F0 m 16 ls []) := by
    intro H locs ls x3 σ hv hk hl hP hD hS
    unfold f_CL_joinThree_16 at hv
    unfold k_CL_joinThree_16 at hk
    refine lv_aload_n hx hb d_CL_joinThree_16 rfl (lv_at hl 0 rfl) ?_
    refine va_get (v := .ref (h 25)) (C := R_CL) (T := T_CL) (N := 11) hx hb hg in_CL hown hK hP 0 rfl rfl 7 (by decide) (hg _ m_291) (fun _ h9 => h9) rfl d_CL_joinThree_17 ?_
    refine lv_iload_n hx hb d_CL_joinThree_20 rfl (lv_at hl 1 rfl) ?_
    obtain ⟨hk0, hk⟩ := hk
    refine va_callv (va_runV (As := [.int x3]) (rest := []) ⟨hx, hb, hml, hown, hg⟩ (c_Ro_join l D ty h px sa σ H.size x3 hk0) ⟨callB_of 1 hg (gw_C m_939) rfl rfl rfl (hg _ m_10) (hg _ m_936) hd_Ro_join ⟨Nat.le_of_ble_eq_true rfl, Nat.le_of_ble_eq_true rfl⟩, hg _ m_937, hg _ m_938⟩ (zz_preVW hM hS hA hN hK hP hD 25 rfl rfl) rfl rfl hl.1 rfl (lv_room (Nat.le_of_ble_eq_true rfl)) d_CL_joinThree_21 ⟨Nat.le_of_ble_eq_true rfl, Nat.le_of_ble_eq_true rfl⟩) hS (fun q _ h => zz_free hD hS hA q h) (zz_free hD hS hA) (fun u21 t H locs ht hvm hp hP1 hz hk1 hS => ?_)
    rw [ht] at hP1
    rw [← hp] at hv hk
    have hD : va_D A (Wc ty h u21 px) := zz_D hD rfl
    have hP := hP1
    exact B24 _ _ _  u21 hv hk (lv_sub hl [] rfl) hP hD hS
  have B8 : ∀ (H : Heap) (locs : List Loc) (ls : Array Slot) (x2 : Int32) (x3 : Int32) (σ : St), v = f_CL_joinThree_8 x2 x3 σ → k_CL_joinThree_8 x2 x3 σ → lv_has ls 4 [(0, .ref (h 0)), (2, .int x2), (3, .int x3)] → va_P D classes (Wc ty h σ px) H → va_D A (Wc ty h σ px) → va_S A s.heap H locs → W p l e (headSpec w_CL_joinThree rm_CL_joinThree).room s m args below meth c H locs 0 0 (MQ below (va_Qi (fun r (u : St) => (r, u) = v) (fun u t => va_P D classes (Wc ty h u px) t.heap) A) args s 0 0 A) (F0 m 8 ls []) := by
    intro H locs ls x2 x3 σ hv hk hl hP hD hS
    unfold f_CL_joinThree_8 at hv
    unfold k_CL_joinThree_8 at hk
    refine lv_aload_n hx hb d_CL_joinThree_8 rfl (lv_at hl 0 rfl) ?_
    refine va_get (v := .ref (h 25)) (C := R_CL) (T := T_CL) (N := 11) hx hb hg in_CL hown hK hP 0 rfl rfl 7 (by decide) (hg _ m_291) (fun _ h9 => h9) rfl d_CL_joinThree_9 ?_
    refine lv_iload_n hx hb d_CL_joinThree_12 rfl (lv_at hl 1 rfl) ?_
    obtain ⟨hk0, hk⟩ := hk
    refine va_callv (va_runV (As := [.int x2]) (rest := []) ⟨hx, hb, hml, hown, hg⟩ (c_Ro_join l D ty h px sa σ H.size x2 hk0) ⟨callB_of 1 hg (gw_C m_939) rfl rfl rfl (hg _ m_10) (hg _ m_936) hd_Ro_join ⟨Nat.le_of_ble_eq_true rfl, Nat.le_of_ble_eq_true rfl⟩, hg _ m_937, hg _ m_938⟩ (zz_preVW hM hS hA hN hK hP hD 25 rfl rfl) rfl rfl hl.1 rfl (lv_room (Nat.le_of_ble_eq_true rfl)) d_CL_joinThree_13 ⟨Nat.le_of_ble_eq_true rfl, Nat.le_of_ble_eq_true rfl⟩) hS (fun q _ h => zz_free hD hS hA q h) (zz_free hD hS hA) (fun u13 t H locs ht hvm hp hP1 hz hk1 hS => ?_)
    rw [ht] at hP1
    rw [← hp] at hv hk
    have hD : va_D A (Wc ty h u13 px) := zz_D hD rfl
    have hP := hP1
    exact B16 _ _ _ x3 u13 hv hk (lv_sub hl [0, 2] rfl) hP hD hS
  unfold f_CL_joinThree at hv
  unfold k_CL_joinThree at hk
  refine lv_aload_n hx hb d_CL_joinThree_0 rfl (lv_at hl 0 rfl) ?_
  refine va_get (v := .ref (h 25)) (C := R_CL) (T := T_CL) (N := 11) hx hb hg in_CL hown hK hP 0 rfl rfl 7 (by decide) (hg _ m_291) (fun _ h9 => h9) rfl d_CL_joinThree_1 ?_
  refine lv_iload_n hx hb d_CL_joinThree_4 rfl (lv_at hl 1 rfl) ?_
  obtain ⟨hk0, hk⟩ := hk
  refine va_callv (va_runV (As := [.int a1]) (rest := []) ⟨hx, hb, hml, hown, hg⟩ (c_Ro_join l D ty h px sa σ s.heap.size a1 hk0) ⟨callB_of 1 hg (gw_C m_939) rfl rfl rfl (hg _ m_10) (hg _ m_936) hd_Ro_join ⟨Nat.le_of_ble_eq_true rfl, Nat.le_of_ble_eq_true rfl⟩, hg _ m_937, hg _ m_938⟩ (zz_preVW hM hS hA hN hK hP hD 25 rfl rfl) rfl rfl hl.1 rfl (lv_room (Nat.le_of_ble_eq_true rfl)) d_CL_joinThree_5 ⟨Nat.le_of_ble_eq_true rfl, Nat.le_of_ble_eq_true rfl⟩) hS (fun q _ h => zz_free hD hS hA q h) (zz_free hD hS hA) (fun u5 t H locs ht hvm hp hP1 hz hk1 hS => ?_)
  rw [ht] at hP1
  rw [← hp] at hv hk
  have hD : va_D A (Wc ty h u5 px) := zz_D hD rfl
  have hP := hP1
  exact B8 _ _ _ a2 a3 u5 hv hk (lv_sub hl [0, 2, 3] rfl) hP hD hS

-- ClauseLedger.joinMeaningOfAnd(IIII)Z
abbrev b_CL_joinMeaningOfAnd : ByteArray := prog_1_method_29_code
def y_CL_joinMeaningOfAnd : MethodName := ⟨"ClauseLedger", "joinMeaningOfAnd", "(IIII)Z"⟩
theorem hd_CL_joinMeaningOfAnd : y_CL_joinMeaningOfAnd.cls ≠ "java/lang/invoke/MethodHandle" ∧ y_CL_joinMeaningOfAnd.cls ≠ "java/lang/invoke/VarHandle" ∧ (parseMethodDescriptor y_CL_joinMeaningOfAnd.desc).map (fun d => d.parameters.length) = some 4 := by decide +kernel
theorem d_CL_joinMeaningOfAnd_0 : decode b_CL_joinMeaningOfAnd 0 = .ok (.iload 4, 2) := by decide +kernel
theorem d_CL_joinMeaningOfAnd_2 : decode b_CL_joinMeaningOfAnd 2 = .ok (.tableswitch 78 0 2 #[26, 41, 56], 26) := by decide +kernel
theorem d_CL_joinMeaningOfAnd_28 : decode b_CL_joinMeaningOfAnd 28 = .ok (.aload_n 0, 1) := by decide +kernel
theorem d_CL_joinMeaningOfAnd_29 : decode b_CL_joinMeaningOfAnd 29 = .ok (.aload_n 0, 1) := by decide +kernel
theorem d_CL_joinMeaningOfAnd_30 : decode b_CL_joinMeaningOfAnd 30 = .ok (.getfield 19, 3) := by decide +kernel
theorem d_CL_joinMeaningOfAnd_33 : decode b_CL_joinMeaningOfAnd 33 = .ok (.iload_n 1, 1) := by decide +kernel
theorem d_CL_joinMeaningOfAnd_34 : decode b_CL_joinMeaningOfAnd 34 = .ok (.invokevirtual 182, 3) := by decide +kernel
theorem d_CL_joinMeaningOfAnd_37 : decode b_CL_joinMeaningOfAnd 37 = .ok (.iload_n 2, 1) := by decide +kernel
theorem d_CL_joinMeaningOfAnd_38 : decode b_CL_joinMeaningOfAnd 38 = .ok (.iconst (-1), 1) := by decide +kernel
theorem d_CL_joinMeaningOfAnd_39 : decode b_CL_joinMeaningOfAnd 39 = .ok (.invokevirtual 284, 3) := by decide +kernel
theorem d_CL_joinMeaningOfAnd_42 : decode b_CL_joinMeaningOfAnd 42 = .ok (.ireturn, 1) := by decide +kernel
theorem d_CL_joinMeaningOfAnd_43 : decode b_CL_joinMeaningOfAnd 43 = .ok (.aload_n 0, 1) := by decide +kernel
theorem d_CL_joinMeaningOfAnd_44 : decode b_CL_joinMeaningOfAnd 44 = .ok (.aload_n 0, 1) := by decide +kernel
theorem d_CL_joinMeaningOfAnd_45 : decode b_CL_joinMeaningOfAnd 45 = .ok (.getfield 19, 3) := by decide +kernel
theorem d_CL_joinMeaningOfAnd_48 : decode b_CL_joinMeaningOfAnd 48 = .ok (.iload_n 1, 1) := by decide +kernel
theorem d_CL_joinMeaningOfAnd_49 : decode b_CL_joinMeaningOfAnd 49 = .ok (.invokevirtual 182, 3) := by decide +kernel
theorem d_CL_joinMeaningOfAnd_52 : decode b_CL_joinMeaningOfAnd 52 = .ok (.iload_n 3, 1) := by decide +kernel
theorem d_CL_joinMeaningOfAnd_53 : decode b_CL_joinMeaningOfAnd 53 = .ok (.iconst (-1), 1) := by decide +kernel
theorem d_CL_joinMeaningOfAnd_54 : decode b_CL_joinMeaningOfAnd 54 = .ok (.invokevirtual 284, 3) := by decide +kernel
theorem d_CL_joinMeaningOfAnd_57 : decode b_CL_joinMeaningOfAnd 57 = .ok (.ireturn, 1) := by decide +kernel
theorem d_CL_joinMeaningOfAnd_58 : decode b_CL_joinMeaningOfAnd 58 = .ok (.aload_n 0, 1) := by decide +kernel
theorem d_CL_joinMeaningOfAnd_59 : decode b_CL_joinMeaningOfAnd 59 = .ok (.iload_n 1, 1) := by decide +kernel
theorem d_CL_joinMeaningOfAnd_60 : decode b_CL_joinMeaningOfAnd 60 = .ok (.aload_n 0, 1) := by decide +kernel
theorem d_CL_joinMeaningOfAnd_61 : decode b_CL_joinMeaningOfAnd 61 = .ok (.getfield 19, 3) := by decide +kernel
theorem d_CL_joinMeaningOfAnd_64 : decode b_CL_joinMeaningOfAnd 64 = .ok (.iload_n 2, 1) := by decide +kernel
theorem d_CL_joinMeaningOfAnd_65 : decode b_CL_joinMeaningOfAnd 65 = .ok (.invokevirtual 182, 3) := by decide +kernel
theorem d_CL_joinMeaningOfAnd_68 : decode b_CL_joinMeaningOfAnd 68 = .ok (.aload_n 0, 1) := by decide +kernel
theorem d_CL_joinMeaningOfAnd_69 : decode b_CL_joinMeaningOfAnd 69 = .ok (.getfield 19, 3) := by decide +kernel
theorem d_CL_joinMeaningOfAnd_72 : decode b_CL_joinMeaningOfAnd 72 = .ok (.iload_n 3, 1) := by decide +kernel
theorem d_CL_joinMeaningOfAnd_73 : decode b_CL_joinMeaningOfAnd 73 = .ok (.invokevirtual 182, 3) := by decide +kernel
theorem d_CL_joinMeaningOfAnd_76 : decode b_CL_joinMeaningOfAnd 76 = .ok (.invokevirtual 284, 3) := by decide +kernel
theorem d_CL_joinMeaningOfAnd_79 : decode b_CL_joinMeaningOfAnd 79 = .ok (.ireturn, 1) := by decide +kernel
theorem d_CL_joinMeaningOfAnd_80 : decode b_CL_joinMeaningOfAnd 80 = .ok (.iconst 0, 1) := by decide +kernel
theorem d_CL_joinMeaningOfAnd_81 : decode b_CL_joinMeaningOfAnd 81 = .ok (.ireturn, 1) := by decide +kernel
def f_CL_joinMeaningOfAnd_42 (s0 : Int32) (σ : St) : Int32 × St := (s0, σ)
def k_CL_joinMeaningOfAnd_42 (s0 : Int32) (σ : St) : Prop := (narrow .boolean (.int s0) = .int s0) ∧ True
def f_CL_joinMeaningOfAnd_37 (x2 : Int32) (s0 : Int32) (σ : St) : Int32 × St := f_CL_joinMeaningOfAnd_42 ((f_CL_joinThree s0 x2 (-1) σ).1) ((f_CL_joinThree s0 x2 (-1) σ).2)
def k_CL_joinMeaningOfAnd_37 (x2 : Int32) (s0 : Int32) (σ : St) : Prop := (k_CL_joinThree s0 x2 (-1) σ) ∧ (k_CL_joinMeaningOfAnd_42 ((f_CL_joinThree s0 x2 (-1) σ).1) ((f_CL_joinThree s0 x2 (-1) σ).2))
def f_CL_joinMeaningOfAnd_57 (s0 : Int32) (σ : St) : Int32 × St := (s0, σ)
def k_CL_joinMeaningOfAnd_57 (s0 : Int32) (σ : St) : Prop := (narrow .boolean (.int s0) = .int s0) ∧ True
def f_CL_joinMeaningOfAnd_52 (x3 : Int32) (s0 : Int32) (σ : St) : Int32 × St := f_CL_joinMeaningOfAnd_57 ((f_CL_joinThree s0 x3 (-1) σ).1) ((f_CL_joinThree s0 x3 (-1) σ).2)
def k_CL_joinMeaningOfAnd_52 (x3 : Int32) (s0 : Int32) (σ : St) : Prop := (k_CL_joinThree s0 x3 (-1) σ) ∧ (k_CL_joinMeaningOfAnd_57 ((f_CL_joinThree s0 x3 (-1) σ).1) ((f_CL_joinThree s0 x3 (-1) σ).2))
def f_CL_joinMeaningOfAnd_79 (s0 : Int32) (σ : St) : Int32 × St := (s0, σ)
def k_CL_joinMeaningOfAnd_79 (s0 : Int32) (σ : St) : Prop := (narrow .boolean (.int s0) = .int s0) ∧ True
def f_CL_joinMeaningOfAnd_76 (s0 : Int32) (s1 : Int32) (s2 : Int32) (σ : St) : Int32 × St := f_CL_joinMeaningOfAnd_79 ((f_CL_joinThree s2 s1 s0 σ).1) ((f_CL_joinThree s2 s1 s0 σ).2)
def k_CL_joinMeaningOfAnd_76 (s0 : Int32) (s1 : Int32) (s2 : Int32) (σ : St) : Prop := (k_CL_joinThree s2 s1 s0 σ) ∧ (k_CL_joinMeaningOfAnd_79 ((f_CL_joinThree s2 s1 s0 σ).1) ((f_CL_joinThree s2 s1 s0 σ).2))
def f_CL_joinMeaningOfAnd_68 (x3 : Int32) (s0 : Int32) (s1 : Int32) (σ : St) : Int32 × St := f_CL_joinMeaningOfAnd_76 ((f_Te_opposite x3 σ).1) s0 s1 ((f_Te_opposite x3 σ).2)
def k_CL_joinMeaningOfAnd_68 (x3 : Int32) (s0 : Int32) (s1 : Int32) (σ : St) : Prop := (k_Te_opposite x3 σ) ∧ (k_CL_joinMeaningOfAnd_76 ((f_Te_opposite x3 σ).1) s0 s1 ((f_Te_opposite x3 σ).2))
def f_CL_joinMeaningOfAnd (a1 : Int32) (a2 : Int32) (a3 : Int32) (a4 : Int32) (σ : St) : Int32 × St := if a4 = 0 then (f_CL_joinMeaningOfAnd_37 a2 ((f_Te_opposite a1 σ).1) ((f_Te_opposite a1 σ).2)) else (if a4 = 1 then (f_CL_joinMeaningOfAnd_52 a3 ((f_Te_opposite a1 σ).1) ((f_Te_opposite a1 σ).2)) else (if a4 = 2 then (f_CL_joinMeaningOfAnd_68 a3 ((f_Te_opposite a2 σ).1) a1 ((f_Te_opposite a2 σ).2)) else (0, σ)))
def k_CL_joinMeaningOfAnd (a1 : Int32) (a2 : Int32) (a3 : Int32) (a4 : Int32) (σ : St) : Prop := (a4 = 0 → ((k_Te_opposite a1 σ) ∧ (k_CL_joinMeaningOfAnd_37 a2 ((f_Te_opposite a1 σ).1) ((f_Te_opposite a1 σ).2)))) ∧ (¬ a4 = 0 → ((a4 = 1 → ((k_Te_opposite a1 σ) ∧ (k_CL_joinMeaningOfAnd_52 a3 ((f_Te_opposite a1 σ).1) ((f_Te_opposite a1 σ).2)))) ∧ (¬ a4 = 1 → ((a4 = 2 → ((k_Te_opposite a2 σ) ∧ (k_CL_joinMeaningOfAnd_68 a3 ((f_Te_opposite a2 σ).1) a1 ((f_Te_opposite a2 σ).2)))) ∧ (¬ a4 = 2 → True)))))
abbrev w_CL_joinMeaningOfAnd : List Cond := Cond.code y_CL_joinMeaningOfAnd b_CL_joinMeaningOfAnd 5 (some .boolean) :: gw
abbrev rm_CL_joinMeaningOfAnd : Room := { frames := 4, cells := 0, slots := 0, locals := 97 }
set_option maxHeartbeats 4000000 in
set_option maxRecDepth 100000 in
theorem c_CL_joinMeaningOfAnd (l : Launch) (D : va_G) (ty : Nat → ClassId) (h : Nat → Nat) (px : va_W) (sa : Nat → Nat) (σ : St) (sz : Nat) (a1 : Int32) (a2 : Int32) (a3 : Int32) (a4 : Int32) (hk : k_CL_joinMeaningOfAnd a1 a2 a3 a4 σ) : Met l y_CL_joinMeaningOfAnd w_CL_joinMeaningOfAnd rm_CL_joinMeaningOfAnd (va_Pc [.ref (h 0), .int a1, .int a2, .int a3, .int a4] (fun U => U.heap.size = sz ∧ va_P D classes (Wc ty h σ px) U.heap ∧ va_K D classes (Ta ty) U ∧ NW U ∧ MK sa (va_A (Wc ty h σ px) sz) U U.heap ∧ va_D (fun _ => True) (Wc ty h σ px))) (va_Qi (fun r (u : St) => (r, u) = f_CL_joinMeaningOfAnd a1 a2 a3 a4 σ) (fun u t => va_P D classes (Wc ty h u px) t.heap) (va_A (Wc ty h σ px) sz)) 0 0 (va_A (Wc ty h σ px) sz) := by
  refine Met.ofW (cc := b_CL_joinMeaningOfAnd) (maxL := 5) (ret := (some .boolean)) (by decide) rfl ?_
  intro p e s m args below meth c s₁ B hml hv
  obtain ⟨ha, hsz, hP, hK, hN, hM, hD0⟩ := hv
  have hx := B.exec
  have hb := B.bytes
  have hr := B.returns
  have hg : ∀ w ∈ gw, w.before args s = true := fun w h9 => atoms_spec (ws := w_CL_joinMeaningOfAnd) B.pre w (List.mem_cons_of_mem _ h9)
  have hown : s.vm.findClass "ClauseLedger" = some m.cls := findClass_of_methodNamed B.named
  have hlocks := B.notSynchronized
  subst hsz
  have hD := hD0.self (sz := s.heap.size)
  generalize hAe : va_A (Wc ty h σ px) s.heap.size = A at hD hM ⊢
  have hA : ∀ q : Nat, s.heap.size ≤ q → A q := fun q h9 => by rw [← hAe]; exact Or.inr h9
  have hS : va_S A s.heap s.heap [] := va_S.rf
  have he : entryFrame m args 5 = entryFrame m ([.ref (h 0), .int a1, .int a2, .int a3, .int a4] : List Value).toArray 5 := by rw [ha]
  rw [he, lg_entry_eq]
  have hl := lv_entry ([.ref (h 0), .int a1, .int a2, .int a3, .int a4]) (n := 5) (Nat.le_of_ble_eq_true rfl)
  generalize (lg_sl ([.ref (h 0), .int a1, .int a2, .int a3, .int a4]) ++ List.replicate (5 - (lg_sl ([.ref (h 0), .int a1, .int a2, .int a3, .int a4])).length) Slot.unset).toArray = ls at hl ⊢
  have hl : lv_has ls 5 [(0, .ref (h 0)), (1, .int a1), (2, .int a2), (3, .int a3), (4, .int a4)] := hl
  generalize hv : f_CL_joinMeaningOfAnd a1 a2 a3 a4 σ = v
  replace hv := hv.symm
  have B42 : ∀ (H : Heap) (locs : List Loc) (ls : Array Slot) (s0 : Int32) (σ : St), v = f_CL_joinMeaningOfAnd_42 s0 σ → k_CL_joinMeaningOfAnd_42 s0 σ → lv_has ls 5 [] → va_P D classes (Wc ty h σ px) H → va_D A (Wc ty h σ px) → va_S A s.heap H locs → W p l e (headSpec w_CL_joinMeaningOfAnd rm_CL_joinMeaningOfAnd).room s m args below meth c H locs 0 0 (MQ below (va_Qi (fun r (u : St) => (r, u) = v) (fun u t => va_P D classes (Wc ty h u px) t.heap) A) args s 0 0 A) (F0 m 42 ls [.int s0]) := by
    intro H locs ls s0 σ hv hk hl hP hD hS
    unfold f_CL_joinMeaningOfAnd_42 at hv
    unfold k_CL_joinMeaningOfAnd_42 at hk
    obtain ⟨hk0, hk⟩ := hk
    exact W.zret hx hb hr hk0 (fun t ht hW => ⟨⟨_, _, rfl, hv.symm, by dsimp only; rw [ht]; exact hP⟩, hS.F ht⟩) hS.2.2 d_CL_joinMeaningOfAnd_42
  have B37 : ∀ (H : Heap) (locs : List Loc) (ls : Array Slot) (x2 : Int32) (s0 : Int32) (σ : St), v = f_CL_joinMeaningOfAnd_37 x2 s0 σ → k_CL_joinMeaningOfAnd_37 x2 s0 σ → lv_has ls 5 [(2, .int x2)] → va_P D classes (Wc ty h σ px) H → va_D A (Wc ty h σ px) → va_S A s.heap H locs → W p l e (headSpec w_CL_joinMeaningOfAnd rm_CL_joinMeaningOfAnd).room s m args below meth c H locs 0 0 (MQ below (va_Qi (fun r (u : St) => (r, u) = v) (fun u t => va_P D classes (Wc ty h u px) t.heap) A) args s 0 0 A) (F0 m 37 ls [.int s0, .ref (h 0)]) := by
    intro H locs ls x2 s0 σ hv hk hl hP hD hS
    unfold f_CL_joinMeaningOfAnd_37 at hv
    unfold k_CL_joinMeaningOfAnd_37 at hk
    refine lv_iload_n hx hb d_CL_joinMeaningOfAnd_37 rfl (lv_at hl 0 rfl) ?_
    refine lv_iconst (v := -1) hx hb d_CL_joinMeaningOfAnd_38 (by decide) ?_
    obtain ⟨hk0, hk⟩ := hk
    refine va_calli (va_runV (As := [.int s0, .int x2, .int (-1)]) (rest := []) ⟨hx, hb, hml, hown, hg⟩ (c_CL_joinThree l D ty h px sa σ H.size s0 x2 (-1) hk0) ⟨callB_of 3 hg (gw_C m_1019) rfl rfl rfl (hg _ m_1) (hg _ m_1016) hd_CL_joinThree ⟨Nat.le_of_ble_eq_true rfl, Nat.le_of_ble_eq_true rfl⟩, hg _ m_1018, hg _ ms_34⟩ (zz_preVW hM hS hA hN hK hP hD 0 rfl rfl) rfl rfl hl.1 rfl (lv_room (Nat.le_of_ble_eq_true rfl)) d_CL_joinMeaningOfAnd_39 ⟨Nat.le_of_ble_eq_true rfl, Nat.le_of_ble_eq_true rfl⟩) hS (fun q _ h => zz_free hD hS hA q h) (zz_free hD hS hA) (fun r39 u39 t H locs ht hvm hp hP1 hz hk1 hS => ?_)
    rw [ht] at hP1
    rw [← hp] at hv hk
    have hD : va_D A (Wc ty h u39 px) := zz_D hD rfl
    have hP := hP1
    exact B42 _ _ _ r39 u39 hv hk (lv_sub hl [] rfl) hP hD hS
  have B57 : ∀ (H : Heap) (locs : List Loc) (ls : Array Slot) (s0 : Int32) (σ : St), v = f_CL_joinMeaningOfAnd_57 s0 σ → k_CL_joinMeaningOfAnd_57 s0 σ → lv_has ls 5 [] → va_P D classes (Wc ty h σ px) H → va_D A (Wc ty h σ px) → va_S A s.heap H locs → W p l e (headSpec w_CL_joinMeaningOfAnd rm_CL_joinMeaningOfAnd).room s m args below meth c H locs 0 0 (MQ below (va_Qi (fun r (u : St) => (r, u) = v) (fun u t => va_P D classes (Wc ty h u px) t.heap) A) args s 0 0 A) (F0 m 57 ls [.int s0]) := by
    intro H locs ls s0 σ hv hk hl hP hD hS
    unfold f_CL_joinMeaningOfAnd_57 at hv
    unfold k_CL_joinMeaningOfAnd_57 at hk
    obtain ⟨hk0, hk⟩ := hk
    exact W.zret hx hb hr hk0 (fun t ht hW => ⟨⟨_, _, rfl, hv.symm, by dsimp only; rw [ht]; exact hP⟩, hS.F ht⟩) hS.2.2 d_CL_joinMeaningOfAnd_57
  have B52 : ∀ (H : Heap) (locs : List Loc) (ls : Array Slot) (x3 : Int32) (s0 : Int32) (σ : St), v = f_CL_joinMeaningOfAnd_52 x3 s0 σ → k_CL_joinMeaningOfAnd_52 x3 s0 σ → lv_has ls 5 [(3, .int x3)] → va_P D classes (Wc ty h σ px) H → va_D A (Wc ty h σ px) → va_S A s.heap H locs → W p l e (headSpec w_CL_joinMeaningOfAnd rm_CL_joinMeaningOfAnd).room s m args below meth c H locs 0 0 (MQ below (va_Qi (fun r (u : St) => (r, u) = v) (fun u t => va_P D classes (Wc ty h u px) t.heap) A) args s 0 0 A) (F0 m 52 ls [.int s0, .ref (h 0)]) := by
    intro H locs ls x3 s0 σ hv hk hl hP hD hS
    unfold f_CL_joinMeaningOfAnd_52 at hv
    unfold k_CL_joinMeaningOfAnd_52 at hk
    refine lv_iload_n hx hb d_CL_joinMeaningOfAnd_52 rfl (lv_at hl 0 rfl) ?_
    refine lv_iconst (v := -1) hx hb d_CL_joinMeaningOfAnd_53 (by decide) ?_
    obtain ⟨hk0, hk⟩ := hk
    refine va_calli (va_runV (As := [.int s0, .int x3, .int (-1)]) (rest := []) ⟨hx, hb, hml, hown, hg⟩ (c_CL_joinThree l D ty h px sa σ H.size s0 x3 (-1) hk0) ⟨callB_of 3 hg (gw_C m_1019) rfl rfl rfl (hg _ m_1) (hg _ m_1016) hd_CL_joinThree ⟨Nat.le_of_ble_eq_true rfl, Nat.le_of_ble_eq_true rfl⟩, hg _ m_1018, hg _ ms_34⟩ (zz_preVW hM hS hA hN hK hP hD 0 rfl rfl) rfl rfl hl.1 rfl (lv_room (Nat.le_of_ble_eq_true rfl)) d_CL_joinMeaningOfAnd_54 ⟨Nat.le_of_ble_eq_true rfl, Nat.le_of_ble_eq_true rfl⟩) hS (fun q _ h => zz_free hD hS hA q h) (zz_free hD hS hA) (fun r54 u54 t H locs ht hvm hp hP1 hz hk1 hS => ?_)
    rw [ht] at hP1
    rw [← hp] at hv hk
    have hD : va_D A (Wc ty h u54 px) := zz_D hD rfl
    have hP := hP1
    exact B57 _ _ _ r54 u54 hv hk (lv_sub hl [] rfl) hP hD hS
  have B79 : ∀ (H : Heap) (locs : List Loc) (ls : Array Slot) (s0 : Int32) (σ : St), v = f_CL_joinMeaningOfAnd_79 s0 σ → k_CL_joinMeaningOfAnd_79 s0 σ → lv_has ls 5 [] → va_P D classes (Wc ty h σ px) H → va_D A (Wc ty h σ px) → va_S A s.heap H locs → W p l e (headSpec w_CL_joinMeaningOfAnd rm_CL_joinMeaningOfAnd).room s m args below meth c H locs 0 0 (MQ below (va_Qi (fun r (u : St) => (r, u) = v) (fun u t => va_P D classes (Wc ty h u px) t.heap) A) args s 0 0 A) (F0 m 79 ls [.int s0]) := by
    intro H locs ls s0 σ hv hk hl hP hD hS
    unfold f_CL_joinMeaningOfAnd_79 at hv
    unfold k_CL_joinMeaningOfAnd_79 at hk
    obtain ⟨hk0, hk⟩ := hk
    exact W.zret hx hb hr hk0 (fun t ht hW => ⟨⟨_, _, rfl, hv.symm, by dsimp only; rw [ht]; exact hP⟩, hS.F ht⟩) hS.2.2 d_CL_joinMeaningOfAnd_79
  have B76 : ∀ (H : Heap) (locs : List Loc) (ls : Array Slot) (s0 : Int32) (s1 : Int32) (s2 : Int32) (σ : St), v = f_CL_joinMeaningOfAnd_76 s0 s1 s2 σ → k_CL_joinMeaningOfAnd_76 s0 s1 s2 σ → lv_has ls 5 [] → va_P D classes (Wc ty h σ px) H → va_D A (Wc ty h σ px) → va_S A s.heap H locs → W p l e (headSpec w_CL_joinMeaningOfAnd rm_CL_joinMeaningOfAnd).room s m args below meth c H locs 0 0 (MQ below (va_Qi (fun r (u : St) => (r, u) = v) (fun u t => va_P D classes (Wc ty h u px) t.heap) A) args s 0 0 A) (F0 m 76 ls [.int s0, .int s1, .int s2, .ref (h 0)]) := by
    intro H locs ls s0 s1 s2 σ hv hk hl hP hD hS
    unfold f_CL_joinMeaningOfAnd_76 at hv
    unfold k_CL_joinMeaningOfAnd_76 at hk
    obtain ⟨hk0, hk⟩ := hk
    refine va_calli (va_runV (As := [.int s2, .int s1, .int s0]) (rest := []) ⟨hx, hb, hml, hown, hg⟩ (c_CL_joinThree l D ty h px sa σ H.size s2 s1 s0 hk0) ⟨callB_of 3 hg (gw_C m_1019) rfl rfl rfl (hg _ m_1) (hg _ m_1016) hd_CL_joinThree ⟨Nat.le_of_ble_eq_true rfl, Nat.le_of_ble_eq_true rfl⟩, hg _ m_1018, hg _ ms_34⟩ (zz_preVW hM hS hA hN hK hP hD 0 rfl rfl) rfl rfl hl.1 rfl (lv_room (Nat.le_of_ble_eq_true rfl)) d_CL_joinMeaningOfAnd_76 ⟨Nat.le_of_ble_eq_true rfl, Nat.le_of_ble_eq_true rfl⟩) hS (fun q _ h => zz_free hD hS hA q h) (zz_free hD hS hA) (fun r76 u76 t H locs ht hvm hp hP1 hz hk1 hS => ?_)
    rw [ht] at hP1
    rw [← hp] at hv hk
    have hD : va_D A (Wc ty h u76 px) := zz_D hD rfl
    have hP := hP1
    exact B79 _ _ _ r76 u76 hv hk (lv_sub hl [] rfl) hP hD hS
  have B68 : ∀ (H : Heap) (locs : List Loc) (ls : Array Slot) (x3 : Int32) (s0 : Int32) (s1 : Int32) (σ : St), v = f_CL_joinMeaningOfAnd_68 x3 s0 s1 σ → k_CL_joinMeaningOfAnd_68 x3 s0 s1 σ → lv_has ls 5 [(0, .ref (h 0)), (3, .int x3)] → va_P D classes (Wc ty h σ px) H → va_D A (Wc ty h σ px) → va_S A s.heap H locs → W p l e (headSpec w_CL_joinMeaningOfAnd rm_CL_joinMeaningOfAnd).room s m args below meth c H locs 0 0 (MQ below (va_Qi (fun r (u : St) => (r, u) = v) (fun u t => va_P D classes (Wc ty h u px) t.heap) A) args s 0 0 A) (F0 m 68 ls [.int s0, .int s1, .ref (h 0)]) := by
    intro H locs ls x3 s0 s1 σ hv hk hl hP hD hS
    unfold f_CL_joinMeaningOfAnd_68 at hv
    unfold k_CL_joinMeaningOfAnd_68 at hk
    refine lv_aload_n hx hb d_CL_joinMeaningOfAnd_68 rfl (lv_at hl 0 rfl) ?_
    refine va_get (v := .ref (h 6)) (C := R_CL) (T := T_CL) (N := 11) hx hb hg in_CL hown hK hP 0 rfl rfl 1 (by decide) (hg _ m_285) (fun _ h9 => h9) rfl d_CL_joinMeaningOfAnd_69 ?_
    refine lv_iload_n hx hb d_CL_joinMeaningOfAnd_72 rfl (lv_at hl 1 rfl) ?_
    obtain ⟨hk0, hk⟩ := hk
    refine va_calli (va_runV (As := [.int x3]) (rest := [.int s0, .int s1, .ref (h 0)]) ⟨hx, hb, hml, hown, hg⟩ (c_Te_opposite l D ty h px sa σ H.size x3 hk0) ⟨callB_of 1 hg (gw_C m_1014) rfl rfl rfl (hg _ m_3) (hg _ m_1011) hd_Te_opposite ⟨Nat.le_of_ble_eq_true rfl, Nat.le_of_ble_eq_true rfl⟩, hg _ m_1012, hg _ m_1013⟩ (zz_preVW hM hS hA hN hK hP hD 6 rfl rfl) rfl rfl hl.1 rfl (lv_room (Nat.le_of_ble_eq_true rfl)) d_CL_joinMeaningOfAnd_73 ⟨Nat.le_of_ble_eq_true rfl, Nat.le_of_ble_eq_true rfl⟩) hS (fun q _ h => zz_free hD hS hA q h) (zz_free hD hS hA) (fun r73 u73 t H locs ht hvm hp hP1 hz hk1 hS => ?_)
    rw [ht] at hP1
    rw [← hp] at hv hk
    have hD : va_D A (Wc ty h u73 px) := zz_D hD rfl
    have hP := hP1
    exact B76 _ _ _ r73 s0 s1 u73 hv hk (lv_sub hl [] rfl) hP hD hS
  unfold f_CL_joinMeaningOfAnd at hv
  unfold k_CL_joinMeaningOfAnd at hk
  refine lv_iload hx hb d_CL_joinMeaningOfAnd_0 (lv_at hl 4 rfl) ?_
  by_cases hc0 : a4 = 0
  · have hv := hv.trans (if_pos hc0)
    have hk := hk.1 hc0
    refine lv_tableIn (tgt := 28) hx hb d_CL_joinMeaningOfAnd_2 (by rw [hc0]; decide) (by rw [hc0]; decide) (by rw [hc0]; rfl) (by decide) ?_
    refine lv_aload_n hx hb d_CL_joinMeaningOfAnd_28 rfl (lv_at hl 0 rfl) ?_
    refine lv_aload_n hx hb d_CL_joinMeaningOfAnd_29 rfl (lv_at hl 0 rfl) ?_
    refine va_get (v := .ref (h 6)) (C := R_CL) (T := T_CL) (N := 11) hx hb hg in_CL hown hK hP 0 rfl rfl 1 (by decide) (hg _ m_285) (fun _ h9 => h9) rfl d_CL_joinMeaningOfAnd_30 ?_
    refine lv_iload_n hx hb d_CL_joinMeaningOfAnd_33 rfl (lv_at hl 1 rfl) ?_
    obtain ⟨hk0, hk⟩ := hk
    refine va_calli (va_runV (As := [.int a1]) (rest := [.ref (h 0)]) ⟨hx, hb, hml, hown, hg⟩ (c_Te_opposite l D ty h px sa σ s.heap.size a1 hk0) ⟨callB_of 1 hg (gw_C m_1014) rfl rfl rfl (hg _ m_3) (hg _ m_1011) hd_Te_opposite ⟨Nat.le_of_ble_eq_true rfl, Nat.le_of_ble_eq_true rfl⟩, hg _ m_1012, hg _ m_1013⟩ (zz_preVW hM hS hA hN hK hP hD 6 rfl rfl) rfl rfl hl.1 rfl (lv_room (Nat.le_of_ble_eq_true rfl)) d_CL_joinMeaningOfAnd_34 ⟨Nat.le_of_ble_eq_true rfl, Nat.le_of_ble_eq_true rfl⟩) hS (fun q _ h => zz_free hD hS hA q h) (zz_free hD hS hA) (fun r34 u34 t H locs ht hvm hp hP1 hz hk1 hS => ?_)
    rw [ht] at hP1
    rw [← hp] at hv hk
    have hD : va_D A (Wc ty h u34 px) := zz_D hD rfl
    have hP := hP1
    exact B37 _ _ _ a2 r34 u34 hv hk (lv_sub hl [2] rfl) hP hD hS
  · have hv := hv.trans (if_neg hc0)
    have hk := hk.2 hc0
    by_cases hc1 : a4 = 1
    · have hv := hv.trans (if_pos hc1)
      have hk := hk.1 hc1
      refine lv_tableIn (tgt := 43) hx hb d_CL_joinMeaningOfAnd_2 (by rw [hc1]; decide) (by rw [hc1]; decide) (by rw [hc1]; rfl) (by decide) ?_
      refine lv_aload_n hx hb d_CL_joinMeaningOfAnd_43 rfl (lv_at hl 0 rfl) ?_
      refine lv_aload_n hx hb d_CL_joinMeaningOfAnd_44 rfl (lv_at hl 0 rfl) ?_
      refine va_get (v := .ref (h 6)) (C := R_CL) (T := T_CL) (N := 11) hx hb hg in_CL hown hK hP 0 rfl rfl 1 (by decide) (hg _ m_285) (fun _ h9 => h9) rfl d_CL_joinMeaningOfAnd_45 ?_
      refine lv_iload_n hx hb d_CL_joinMeaningOfAnd_48 rfl (lv_at hl 1 rfl) ?_
      obtain ⟨hk0, hk⟩ := hk
      refine va_calli (va_runV (As := [.int a1]) (rest := [.ref (h 0)]) ⟨hx, hb, hml, hown, hg⟩ (c_Te_opposite l D ty h px sa σ s.heap.size a1 hk0) ⟨callB_of 1 hg (gw_C m_1014) rfl rfl rfl (hg _ m_3) (hg _ m_1011) hd_Te_opposite ⟨Nat.le_of_ble_eq_true rfl, Nat.le_of_ble_eq_true rfl⟩, hg _ m_1012, hg _ m_1013⟩ (zz_preVW hM hS hA hN hK hP hD 6 rfl rfl) rfl rfl hl.1 rfl (lv_room (Nat.le_of_ble_eq_true rfl)) d_CL_joinMeaningOfAnd_49 ⟨Nat.le_of_ble_eq_true rfl, Nat.le_of_ble_eq_true rfl⟩) hS (fun q _ h => zz_free hD hS hA q h) (zz_free hD hS hA) (fun r49 u49 t H locs ht hvm hp hP1 hz hk1 hS => ?_)
      rw [ht] at hP1
      rw [← hp] at hv hk
      have hD : va_D A (Wc ty h u49 px) := zz_D hD rfl
      have hP := hP1
      exact B52 _ _ _ a3 r49 u49 hv hk (lv_sub hl [3] rfl) hP hD hS
    · have hv := hv.trans (if_neg hc1)
      have hk := hk.2 hc1
      by_cases hc2 : a4 = 2
      · have hv := hv.trans (if_pos hc2)
        have hk := hk.1 hc2
        refine lv_tableIn (tgt := 58) hx hb d_CL_joinMeaningOfAnd_2 (by rw [hc2]; decide) (by rw [hc2]; decide) (by rw [hc2]; rfl) (by decide) ?_
        refine lv_aload_n hx hb d_CL_joinMeaningOfAnd_58 rfl (lv_at hl 0 rfl) ?_
        refine lv_iload_n hx hb d_CL_joinMeaningOfAnd_59 rfl (lv_at hl 1 rfl) ?_
        refine lv_aload_n hx hb d_CL_joinMeaningOfAnd_60 rfl (lv_at hl 0 rfl) ?_
        refine va_get (v := .ref (h 6)) (C := R_CL) (T := T_CL) (N := 11) hx hb hg in_CL hown hK hP 0 rfl rfl 1 (by decide) (hg _ m_285) (fun _ h9 => h9) rfl d_CL_joinMeaningOfAnd_61 ?_
        refine lv_iload_n hx hb d_CL_joinMeaningOfAnd_64 rfl (lv_at hl 2 rfl) ?_
        obtain ⟨hk0, hk⟩ := hk
        refine va_calli (va_runV (As := [.int a2]) (rest := [.int a1, .ref (h 0)]) ⟨hx, hb, hml, hown, hg⟩ (c_Te_opposite l D ty h px sa σ s.heap.size a2 hk0) ⟨callB_of 1 hg (gw_C m_1014) rfl rfl rfl (hg _ m_3) (hg _ m_1011) hd_Te_opposite ⟨Nat.le_of_ble_eq_true rfl, Nat.le_of_ble_eq_true rfl⟩, hg _ m_1012, hg _ m_1013⟩ (zz_preVW hM hS hA hN hK hP hD 6 rfl rfl) rfl rfl hl.1 rfl (lv_room (Nat.le_of_ble_eq_true rfl)) d_CL_joinMeaningOfAnd_65 ⟨Nat.le_of_ble_eq_true rfl, Nat.le_of_ble_eq_true rfl⟩) hS (fun q _ h => zz_free hD hS hA q h) (zz_free hD hS hA) (fun r65 u65 t H locs ht hvm hp hP1 hz hk1 hS => ?_)
        rw [ht] at hP1
        rw [← hp] at hv hk
        have hD : va_D A (Wc ty h u65 px) := zz_D hD rfl
        have hP := hP1
        exact B68 _ _ _ a3 r65 a1 u65 hv hk (lv_sub hl [0, 3] rfl) hP hD hS
      · have hv := hv.trans (if_neg hc2)
        have hk := hk.2 hc2
        refine lv_tableOut (tgt := 80) hx hb d_CL_joinMeaningOfAnd_2 (by have := lv_neT hc0 (by decide : (0 : Int32).toInt = 0); have := lv_neT hc1 (by decide : (1 : Int32).toInt = 1); have := lv_neT hc2 (by decide : (2 : Int32).toInt = 2); omega) (by decide) ?_
        refine lv_iconst (v := 0) hx hb d_CL_joinMeaningOfAnd_80 (by decide) ?_
        exact W.zret hx hb hr rfl (fun t ht hW => ⟨⟨_, _, rfl, hv.symm, by dsimp only; rw [ht]; exact hP⟩, hS.F ht⟩) hS.2.2 d_CL_joinMeaningOfAnd_81

-- ClauseLedger.joinMeaningOfOr(IIII)Z
abbrev b_CL_joinMeaningOfOr : ByteArray := prog_1_method_30_code
def y_CL_joinMeaningOfOr : MethodName := ⟨"ClauseLedger", "joinMeaningOfOr", "(IIII)Z"⟩
theorem hd_CL_joinMeaningOfOr : y_CL_joinMeaningOfOr.cls ≠ "java/lang/invoke/MethodHandle" ∧ y_CL_joinMeaningOfOr.cls ≠ "java/lang/invoke/VarHandle" ∧ (parseMethodDescriptor y_CL_joinMeaningOfOr.desc).map (fun d => d.parameters.length) = some 4 := by decide +kernel
theorem d_CL_joinMeaningOfOr_0 : decode b_CL_joinMeaningOfOr 0 = .ok (.iload 4, 2) := by decide +kernel
theorem d_CL_joinMeaningOfOr_2 : decode b_CL_joinMeaningOfOr 2 = .ok (.tableswitch 71 0 2 #[26, 41, 56], 26) := by decide +kernel
theorem d_CL_joinMeaningOfOr_28 : decode b_CL_joinMeaningOfOr 28 = .ok (.aload_n 0, 1) := by decide +kernel
theorem d_CL_joinMeaningOfOr_29 : decode b_CL_joinMeaningOfOr 29 = .ok (.aload_n 0, 1) := by decide +kernel
theorem d_CL_joinMeaningOfOr_30 : decode b_CL_joinMeaningOfOr 30 = .ok (.getfield 19, 3) := by decide +kernel
theorem d_CL_joinMeaningOfOr_33 : decode b_CL_joinMeaningOfOr 33 = .ok (.iload_n 1, 1) := by decide +kernel
theorem d_CL_joinMeaningOfOr_34 : decode b_CL_joinMeaningOfOr 34 = .ok (.invokevirtual 182, 3) := by decide +kernel
theorem d_CL_joinMeaningOfOr_37 : decode b_CL_joinMeaningOfOr 37 = .ok (.iload_n 2, 1) := by decide +kernel
theorem d_CL_joinMeaningOfOr_38 : decode b_CL_joinMeaningOfOr 38 = .ok (.iload_n 3, 1) := by decide +kernel
theorem d_CL_joinMeaningOfOr_39 : decode b_CL_joinMeaningOfOr 39 = .ok (.invokevirtual 284, 3) := by decide +kernel
theorem d_CL_joinMeaningOfOr_42 : decode b_CL_joinMeaningOfOr 42 = .ok (.ireturn, 1) := by decide +kernel
theorem d_CL_joinMeaningOfOr_43 : decode b_CL_joinMeaningOfOr 43 = .ok (.aload_n 0, 1) := by decide +kernel
theorem d_CL_joinMeaningOfOr_44 : decode b_CL_joinMeaningOfOr 44 = .ok (.iload_n 1, 1) := by decide +kernel
theorem d_CL_joinMeaningOfOr_45 : decode b_CL_joinMeaningOfOr 45 = .ok (.aload_n 0, 1) := by decide +kernel
theorem d_CL_joinMeaningOfOr_46 : decode b_CL_joinMeaningOfOr 46 = .ok (.getfield 19, 3) := by decide +kernel
theorem d_CL_joinMeaningOfOr_49 : decode b_CL_joinMeaningOfOr 49 = .ok (.iload_n 2, 1) := by decide +kernel
theorem d_CL_joinMeaningOfOr_50 : decode b_CL_joinMeaningOfOr 50 = .ok (.invokevirtual 182, 3) := by decide +kernel
theorem d_CL_joinMeaningOfOr_53 : decode b_CL_joinMeaningOfOr 53 = .ok (.iconst (-1), 1) := by decide +kernel
theorem d_CL_joinMeaningOfOr_54 : decode b_CL_joinMeaningOfOr 54 = .ok (.invokevirtual 284, 3) := by decide +kernel
theorem d_CL_joinMeaningOfOr_57 : decode b_CL_joinMeaningOfOr 57 = .ok (.ireturn, 1) := by decide +kernel
theorem d_CL_joinMeaningOfOr_58 : decode b_CL_joinMeaningOfOr 58 = .ok (.aload_n 0, 1) := by decide +kernel
theorem d_CL_joinMeaningOfOr_59 : decode b_CL_joinMeaningOfOr 59 = .ok (.iload_n 1, 1) := by decide +kernel
theorem d_CL_joinMeaningOfOr_60 : decode b_CL_joinMeaningOfOr 60 = .ok (.aload_n 0, 1) := by decide +kernel
theorem d_CL_joinMeaningOfOr_61 : decode b_CL_joinMeaningOfOr 61 = .ok (.getfield 19, 3) := by decide +kernel
theorem d_CL_joinMeaningOfOr_64 : decode b_CL_joinMeaningOfOr 64 = .ok (.iload_n 3, 1) := by decide +kernel
theorem d_CL_joinMeaningOfOr_65 : decode b_CL_joinMeaningOfOr 65 = .ok (.invokevirtual 182, 3) := by decide +kernel
theorem d_CL_joinMeaningOfOr_68 : decode b_CL_joinMeaningOfOr 68 = .ok (.iconst (-1), 1) := by decide +kernel
theorem d_CL_joinMeaningOfOr_69 : decode b_CL_joinMeaningOfOr 69 = .ok (.invokevirtual 284, 3) := by decide +kernel
theorem d_CL_joinMeaningOfOr_72 : decode b_CL_joinMeaningOfOr 72 = .ok (.ireturn, 1) := by decide +kernel
theorem d_CL_joinMeaningOfOr_73 : decode b_CL_joinMeaningOfOr 73 = .ok (.iconst 0, 1) := by decide +kernel
theorem d_CL_joinMeaningOfOr_74 : decode b_CL_joinMeaningOfOr 74 = .ok (.ireturn, 1) := by decide +kernel
def f_CL_joinMeaningOfOr_42 (s0 : Int32) (σ : St) : Int32 × St := (s0, σ)
def k_CL_joinMeaningOfOr_42 (s0 : Int32) (σ : St) : Prop := (narrow .boolean (.int s0) = .int s0) ∧ True
def f_CL_joinMeaningOfOr_37 (x2 : Int32) (x3 : Int32) (s0 : Int32) (σ : St) : Int32 × St := f_CL_joinMeaningOfOr_42 ((f_CL_joinThree s0 x2 x3 σ).1) ((f_CL_joinThree s0 x2 x3 σ).2)
def k_CL_joinMeaningOfOr_37 (x2 : Int32) (x3 : Int32) (s0 : Int32) (σ : St) : Prop := (k_CL_joinThree s0 x2 x3 σ) ∧ (k_CL_joinMeaningOfOr_42 ((f_CL_joinThree s0 x2 x3 σ).1) ((f_CL_joinThree s0 x2 x3 σ).2))
def f_CL_joinMeaningOfOr_57 (s0 : Int32) (σ : St) : Int32 × St := (s0, σ)
def k_CL_joinMeaningOfOr_57 (s0 : Int32) (σ : St) : Prop := (narrow .boolean (.int s0) = .int s0) ∧ True
def f_CL_joinMeaningOfOr_53 (s0 : Int32) (s1 : Int32) (σ : St) : Int32 × St := f_CL_joinMeaningOfOr_57 ((f_CL_joinThree s1 s0 (-1) σ).1) ((f_CL_joinThree s1 s0 (-1) σ).2)
def k_CL_joinMeaningOfOr_53 (s0 : Int32) (s1 : Int32) (σ : St) : Prop := (k_CL_joinThree s1 s0 (-1) σ) ∧ (k_CL_joinMeaningOfOr_57 ((f_CL_joinThree s1 s0 (-1) σ).1) ((f_CL_joinThree s1 s0 (-1) σ).2))
def f_CL_joinMeaningOfOr_72 (s0 : Int32) (σ : St) : Int32 × St := (s0, σ)
def k_CL_joinMeaningOfOr_72 (s0 : Int32) (σ : St) : Prop := (narrow .boolean (.int s0) = .int s0) ∧ True
def f_CL_joinMeaningOfOr_68 (s0 : Int32) (s1 : Int32) (σ : St) : Int32 × St := f_CL_joinMeaningOfOr_72 ((f_CL_joinThree s1 s0 (-1) σ).1) ((f_CL_joinThree s1 s0 (-1) σ).2)
def k_CL_joinMeaningOfOr_68 (s0 : Int32) (s1 : Int32) (σ : St) : Prop := (k_CL_joinThree s1 s0 (-1) σ) ∧ (k_CL_joinMeaningOfOr_72 ((f_CL_joinThree s1 s0 (-1) σ).1) ((f_CL_joinThree s1 s0 (-1) σ).2))
def f_CL_joinMeaningOfOr (a1 : Int32) (a2 : Int32) (a3 : Int32) (a4 : Int32) (σ : St) : Int32 × St := if a4 = 0 then (f_CL_joinMeaningOfOr_37 a2 a3 ((f_Te_opposite a1 σ).1) ((f_Te_opposite a1 σ).2)) else (if a4 = 1 then (f_CL_joinMeaningOfOr_53 ((f_Te_opposite a2 σ).1) a1 ((f_Te_opposite a2 σ).2)) else (if a4 = 2 then (f_CL_joinMeaningOfOr_68 ((f_Te_opposite a3 σ).1) a1 ((f_Te_opposite a3 σ).2)) else (0, σ)))
def k_CL_joinMeaningOfOr (a1 : Int32) (a2 : Int32) (a3 : Int32) (a4 : Int32) (σ : St) : Prop := (a4 = 0 → ((k_Te_opposite a1 σ) ∧ (k_CL_joinMeaningOfOr_37 a2 a3 ((f_Te_opposite a1 σ).1) ((f_Te_opposite a1 σ).2)))) ∧ (¬ a4 = 0 → ((a4 = 1 → ((k_Te_opposite a2 σ) ∧ (k_CL_joinMeaningOfOr_53 ((f_Te_opposite a2 σ).1) a1 ((f_Te_opposite a2 σ).2)))) ∧ (¬ a4 = 1 → ((a4 = 2 → ((k_Te_opposite a3 σ) ∧ (k_CL_joinMeaningOfOr_68 ((f_Te_opposite a3 σ).1) a1 ((f_Te_opposite a3 σ).2)))) ∧ (¬ a4 = 2 → True)))))
abbrev w_CL_joinMeaningOfOr : List Cond := Cond.code y_CL_joinMeaningOfOr b_CL_joinMeaningOfOr 5 (some .boolean) :: gw
abbrev rm_CL_joinMeaningOfOr : Room := { frames := 4, cells := 0, slots := 0, locals := 97 }
set_option maxHeartbeats 4000000 in
set_option maxRecDepth 100000 in
theorem c_CL_joinMeaningOfOr (l : Launch) (D : va_G) (ty : Nat → ClassId) (h : Nat → Nat) (px : va_W) (sa : Nat → Nat) (σ : St) (sz : Nat) (a1 : Int32) (a2 : Int32) (a3 : Int32) (a4 : Int32) (hk : k_CL_joinMeaningOfOr a1 a2 a3 a4 σ) : Met l y_CL_joinMeaningOfOr w_CL_joinMeaningOfOr rm_CL_joinMeaningOfOr (va_Pc [.ref (h 0), .int a1, .int a2, .int a3, .int a4] (fun U => U.heap.size = sz ∧ va_P D classes (Wc ty h σ px) U.heap ∧ va_K D classes (Ta ty) U ∧ NW U ∧ MK sa (va_A (Wc ty h σ px) sz) U U.heap ∧ va_D (fun _ => True) (Wc ty h σ px))) (va_Qi (fun r (u : St) => (r, u) = f_CL_joinMeaningOfOr a1 a2 a3 a4 σ) (fun u t => va_P D classes (Wc ty h u px) t.heap) (va_A (Wc ty h σ px) sz)) 0 0 (va_A (Wc ty h σ px) sz) := by
  refine Met.ofW (cc := b_CL_joinMeaningOfOr) (maxL := 5) (ret := (some .boolean)) (by decide) rfl ?_
  intro p e s m args below meth c s₁ B hml hv
  obtain ⟨ha, hsz, hP, hK, hN, hM, hD0⟩ := hv
  have hx := B.exec
  have hb := B.bytes
  have hr := B.returns
  have hg : ∀ w ∈ gw, w.before args s = true := fun w h9 => atoms_spec (ws := w_CL_joinMeaningOfOr) B.pre w (List.mem_cons_of_mem _ h9)
  have hown : s.vm.findClass "ClauseLedger" = some m.cls := findClass_of_methodNamed B.named
  have hlocks := B.notSynchronized
  subst hsz
  have hD := hD0.self (sz := s.heap.size)
  generalize hAe : va_A (Wc ty h σ px) s.heap.size = A at hD hM ⊢
  have hA : ∀ q : Nat, s.heap.size ≤ q → A q := fun q h9 => by rw [← hAe]; exact Or.inr h9
  have hS : va_S A s.heap s.heap [] := va_S.rf
  have he : entryFrame m args 5 = entryFrame m ([.ref (h 0), .int a1, .int a2, .int a3, .int a4] : List Value).toArray 5 := by rw [ha]
  rw [he, lg_entry_eq]
  have hl := lv_entry ([.ref (h 0), .int a1, .int a2, .int a3, .int a4]) (n := 5) (Nat.le_of_ble_eq_true rfl)
  generalize (lg_sl ([.ref (h 0), .int a1, .int a2, .int a3, .int a4]) ++ List.replicate (5 - (lg_sl ([.ref (h 0), .int a1, .int a2, .int a3, .int a4])).length) Slot.unset).toArray = ls at hl ⊢
  have hl : lv_has ls 5 [(0, .ref (h 0)), (1, .int a1), (2, .int a2), (3, .int a3), (4, .int a4)] := hl
  generalize hv : f_CL_joinMeaningOfOr a1 a2 a3 a4 σ = v
  replace hv := hv.symm
  have B42 : ∀ (H : Heap) (locs : List Loc) (ls : Array Slot) (s0 : Int32) (σ : St), v = f_CL_joinMeaningOfOr_42 s0 σ → k_CL_joinMeaningOfOr_42 s0 σ → lv_has ls 5 [] → va_P D classes (Wc ty h σ px) H → va_D A (Wc ty h σ px) → va_S A s.heap H locs → W p l e (headSpec w_CL_joinMeaningOfOr rm_CL_joinMeaningOfOr).room s m args below meth c H locs 0 0 (MQ below (va_Qi (fun r (u : St) => (r, u) = v) (fun u t => va_P D classes (Wc ty h u px) t.heap) A) args s 0 0 A) (F0 m 42 ls [.int s0]) := by
    intro H locs ls s0 σ hv hk hl hP hD hS
    unfold f_CL_joinMeaningOfOr_42 at hv
    unfold k_CL_joinMeaningOfOr_42 at hk
    obtain ⟨hk0, hk⟩ := hk
    exact W.zret hx hb hr hk0 (fun t ht hW => ⟨⟨_, _, rfl, hv.symm, by dsimp only; rw [ht]; exact hP⟩, hS.F ht⟩) hS.2.2 d_CL_joinMeaningOfOr_42
  have B37 : ∀ (H : Heap) (locs : List Loc) (ls : Array Slot) (x2 : Int32) (x3 : Int32) (s0 : Int32) (σ : St), v = f_CL_joinMeaningOfOr_37 x2 x3 s0 σ → k_CL_joinMeaningOfOr_37 x2 x3 s0 σ → lv_has ls 5 [(2, .int x2), (3, .int x3)] → va_P D classes (Wc ty h σ px) H → va_D A (Wc ty h σ px) → va_S A s.heap H locs → W p l e (headSpec w_CL_joinMeaningOfOr rm_CL_joinMeaningOfOr).room s m args below meth c H locs 0 0 (MQ below (va_Qi (fun r (u : St) => (r, u) = v) (fun u t => va_P D classes (Wc ty h u px) t.heap) A) args s 0 0 A) (F0 m 37 ls [.int s0, .ref (h 0)]) := by
    intro H locs ls x2 x3 s0 σ hv hk hl hP hD hS
    unfold f_CL_joinMeaningOfOr_37 at hv
    unfold k_CL_joinMeaningOfOr_37 at hk
    refine lv_iload_n hx hb d_CL_joinMeaningOfOr_37 rfl (lv_at hl 0 rfl) ?_
    refine lv_iload_n hx hb d_CL_joinMeaningOfOr_38 rfl (lv_at hl 1 rfl) ?_
    obtain ⟨hk0, hk⟩ := hk
    refine va_calli (va_runV (As := [.int s0, .int x2, .int x3]) (rest := []) ⟨hx, hb, hml, hown, hg⟩ (c_CL_joinThree l D ty h px sa σ H.size s0 x2 x3 hk0) ⟨callB_of 3 hg (gw_C m_1019) rfl rfl rfl (hg _ m_1) (hg _ m_1016) hd_CL_joinThree ⟨Nat.le_of_ble_eq_true rfl, Nat.le_of_ble_eq_true rfl⟩, hg _ m_1018, hg _ ms_34⟩ (zz_preVW hM hS hA hN hK hP hD 0 rfl rfl) rfl rfl hl.1 rfl (lv_room (Nat.le_of_ble_eq_true rfl)) d_CL_joinMeaningOfOr_39 ⟨Nat.le_of_ble_eq_true rfl, Nat.le_of_ble_eq_true rfl⟩) hS (fun q _ h => zz_free hD hS hA q h) (zz_free hD hS hA) (fun r39 u39 t H locs ht hvm hp hP1 hz hk1 hS => ?_)
    rw [ht] at hP1
    rw [← hp] at hv hk
    have hD : va_D A (Wc ty h u39 px) := zz_D hD rfl
    have hP := hP1
    exact B42 _ _ _ r39 u39 hv hk (lv_sub hl [] rfl) hP hD hS
  have B57 : ∀ (H : Heap) (locs : List Loc) (ls : Array Slot) (s0 : Int32) (σ : St), v = f_CL_joinMeaningOfOr_57 s0 σ → k_CL_joinMeaningOfOr_57 s0 σ → lv_has ls 5 [] → va_P D classes (Wc ty h σ px) H → va_D A (Wc ty h σ px) → va_S A s.heap H locs → W p l e (headSpec w_CL_joinMeaningOfOr rm_CL_joinMeaningOfOr).room s m args below meth c H locs 0 0 (MQ below (va_Qi (fun r (u : St) => (r, u) = v) (fun u t => va_P D classes (Wc ty h u px) t.heap) A) args s 0 0 A) (F0 m 57 ls [.int s0]) := by
    intro H locs ls s0 σ hv hk hl hP hD hS
    unfold f_CL_joinMeaningOfOr_57 at hv
    unfold k_CL_joinMeaningOfOr_57 at hk
    obtain ⟨hk0, hk⟩ := hk
    exact W.zret hx hb hr hk0 (fun t ht hW => ⟨⟨_, _, rfl, hv.symm, by dsimp only; rw [ht]; exact hP⟩, hS.F ht⟩) hS.2.2 d_CL_joinMeaningOfOr_57
  have B53 : ∀ (H : Heap) (locs : List Loc) (ls : Array Slot) (s0 : Int32) (s1 : Int32) (σ : St), v = f_CL_joinMeaningOfOr_53 s0 s1 σ → k_CL_joinMeaningOfOr_53 s0 s1 σ → lv_has ls 5 [] → va_P D classes (Wc ty h σ px) H → va_D A (Wc ty h σ px) → va_S A s.heap H locs → W p l e (headSpec w_CL_joinMeaningOfOr rm_CL_joinMeaningOfOr).room s m args below meth c H locs 0 0 (MQ below (va_Qi (fun r (u : St) => (r, u) = v) (fun u t => va_P D classes (Wc ty h u px) t.heap) A) args s 0 0 A) (F0 m 53 ls [.int s0, .int s1, .ref (h 0)]) := by
    intro H locs ls s0 s1 σ hv hk hl hP hD hS
    unfold f_CL_joinMeaningOfOr_53 at hv
    unfold k_CL_joinMeaningOfOr_53 at hk
    refine lv_iconst (v := -1) hx hb d_CL_joinMeaningOfOr_53 (by decide) ?_
    obtain ⟨hk0, hk⟩ := hk
    refine va_calli (va_runV (As := [.int s1, .int s0, .int (-1)]) (rest := []) ⟨hx, hb, hml, hown, hg⟩ (c_CL_joinThree l D ty h px sa σ H.size s1 s0 (-1) hk0) ⟨callB_of 3 hg (gw_C m_1019) rfl rfl rfl (hg _ m_1) (hg _ m_1016) hd_CL_joinThree ⟨Nat.le_of_ble_eq_true rfl, Nat.le_of_ble_eq_true rfl⟩, hg _ m_1018, hg _ ms_34⟩ (zz_preVW hM hS hA hN hK hP hD 0 rfl rfl) rfl rfl hl.1 rfl (lv_room (Nat.le_of_ble_eq_true rfl)) d_CL_joinMeaningOfOr_54 ⟨Nat.le_of_ble_eq_true rfl, Nat.le_of_ble_eq_true rfl⟩) hS (fun q _ h => zz_free hD hS hA q h) (zz_free hD hS hA) (fun r54 u54 t H locs ht hvm hp hP1 hz hk1 hS => ?_)
    rw [ht] at hP1
    rw [← hp] at hv hk
    have hD : va_D A (Wc ty h u54 px) := zz_D hD rfl
    have hP := hP1
    exact B57 _ _ _ r54 u54 hv hk (lv_sub hl [] rfl) hP hD hS
  have B72 : ∀ (H : Heap) (locs : List Loc) (ls : Array Slot) (s0 : Int32) (σ : St), v = f_CL_joinMeaningOfOr_72 s0 σ → k_CL_joinMeaningOfOr_72 s0 σ → lv_has ls 5 [] → va_P D classes (Wc ty h σ px) H → va_D A (Wc ty h σ px) → va_S A s.heap H locs → W p l e (headSpec w_CL_joinMeaningOfOr rm_CL_joinMeaningOfOr).room s m args below meth c H locs 0 0 (MQ below (va_Qi (fun r (u : St) => (r, u) = v) (fun u t => va_P D classes (Wc ty h u px) t.heap) A) args s 0 0 A) (F0 m 72 ls [.int s0]) := by
    intro H locs ls s0 σ hv hk hl hP hD hS
    unfold f_CL_joinMeaningOfOr_72 at hv
    unfold k_CL_joinMeaningOfOr_72 at hk
    obtain ⟨hk0, hk⟩ := hk
    exact W.zret hx hb hr hk0 (fun t ht hW => ⟨⟨_, _, rfl, hv.symm, by dsimp only; rw [ht]; exact hP⟩, hS.F ht⟩) hS.2.2 d_CL_joinMeaningOfOr_72
  have B68 : ∀ (H : Heap) (locs : List Loc) (ls : Array Slot) (s0 : Int32) (s1 : Int32) (σ : St), v = f_CL_joinMeaningOfOr_68 s0 s1 σ → k_CL_joinMeaningOfOr_68 s0 s1 σ → lv_has ls 5 [] → va_P D classes (Wc ty h σ px) H → va_D A (Wc ty h σ px) → va_S A s.heap H locs → W p l e (headSpec w_CL_joinMeaningOfOr rm_CL_joinMeaningOfOr).room s m args below meth c H locs 0 0 (MQ below (va_Qi (fun r (u : St) => (r, u) = v) (fun u t => va_P D classes (Wc ty h u px) t.heap) A) args s 0 0 A) (F0 m 68 ls [.int s0, .int s1, .ref (h 0)]) := by
    intro H locs ls s0 s1 σ hv hk hl hP hD hS
    unfold f_CL_joinMeaningOfOr_68 at hv
    unfold k_CL_joinMeaningOfOr_68 at hk
    refine lv_iconst (v := -1) hx hb d_CL_joinMeaningOfOr_68 (by decide) ?_
    obtain ⟨hk0, hk⟩ := hk
    refine va_calli (va_runV (As := [.int s1, .int s0, .int (-1)]) (rest := []) ⟨hx, hb, hml, hown, hg⟩ (c_CL_joinThree l D ty h px sa σ H.size s1 s0 (-1) hk0) ⟨callB_of 3 hg (gw_C m_1019) rfl rfl rfl (hg _ m_1) (hg _ m_1016) hd_CL_joinThree ⟨Nat.le_of_ble_eq_true rfl, Nat.le_of_ble_eq_true rfl⟩, hg _ m_1018, hg _ ms_34⟩ (zz_preVW hM hS hA hN hK hP hD 0 rfl rfl) rfl rfl hl.1 rfl (lv_room (Nat.le_of_ble_eq_true rfl)) d_CL_joinMeaningOfOr_69 ⟨Nat.le_of_ble_eq_true rfl, Nat.le_of_ble_eq_true rfl⟩) hS (fun q _ h => zz_free hD hS hA q h) (zz_free hD hS hA) (fun r69 u69 t H locs ht hvm hp hP1 hz hk1 hS => ?_)
    rw [ht] at hP1
    rw [← hp] at hv hk
    have hD : va_D A (Wc ty h u69 px) := zz_D hD rfl
    have hP := hP1
    exact B72 _ _ _ r69 u69 hv hk (lv_sub hl [] rfl) hP hD hS
  unfold f_CL_joinMeaningOfOr at hv
  unfold k_CL_joinMeaningOfOr at hk
  refine lv_iload hx hb d_CL_joinMeaningOfOr_0 (lv_at hl 4 rfl) ?_
  by_cases hc0 : a4 = 0
  · have hv := hv.trans (if_pos hc0)
    have hk := hk.1 hc0
    refine lv_tableIn (tgt := 28) hx hb d_CL_joinMeaningOfOr_2 (by rw [hc0]; decide) (by rw [hc0]; decide) (by rw [hc0]; rfl) (by decide) ?_
    refine lv_aload_n hx hb d_CL_joinMeaningOfOr_28 rfl (lv_at hl 0 rfl) ?_
    refine lv_aload_n hx hb d_CL_joinMeaningOfOr_29 rfl (lv_at hl 0 rfl) ?_
    refine va_get (v := .ref (h 6)) (C := R_CL) (T := T_CL) (N := 11) hx hb hg in_CL hown hK hP 0 rfl rfl 1 (by decide) (hg _ m_285) (fun _ h9 => h9) rfl d_CL_joinMeaningOfOr_30 ?_
    refine lv_iload_n hx hb d_CL_joinMeaningOfOr_33 rfl (lv_at hl 1 rfl) ?_
    obtain ⟨hk0, hk⟩ := hk
    refine va_calli (va_runV (As := [.int a1]) (rest := [.ref (h 0)]) ⟨hx, hb, hml, hown, hg⟩ (c_Te_opposite l D ty h px sa σ s.heap.size a1 hk0) ⟨callB_of 1 hg (gw_C m_1014) rfl rfl rfl (hg _ m_3) (hg _ m_1011) hd_Te_opposite ⟨Nat.le_of_ble_eq_true rfl, Nat.le_of_ble_eq_true rfl⟩, hg _ m_1012, hg _ m_1013⟩ (zz_preVW hM hS hA hN hK hP hD 6 rfl rfl) rfl rfl hl.1 rfl (lv_room (Nat.le_of_ble_eq_true rfl)) d_CL_joinMeaningOfOr_34 ⟨Nat.le_of_ble_eq_true rfl, Nat.le_of_ble_eq_true rfl⟩) hS (fun q _ h => zz_free hD hS hA q h) (zz_free hD hS hA) (fun r34 u34 t H locs ht hvm hp hP1 hz hk1 hS => ?_)
    rw [ht] at hP1
    rw [← hp] at hv hk
    have hD : va_D A (Wc ty h u34 px) := zz_D hD rfl
    have hP := hP1
    exact B37 _ _ _ a2 a3 r34 u34 hv hk (lv_sub hl [2, 3] rfl) hP hD hS
  · have hv := hv.trans (if_neg hc0)
    have hk := hk.2 hc0
    by_cases hc1 : a4 = 1
    · have hv := hv.trans (if_pos hc1)
      have hk := hk.1 hc1
      refine lv_tableIn (tgt := 43) hx hb d_CL_joinMeaningOfOr_2 (by rw [hc1]; decide) (by rw [hc1]; decide) (by rw [hc1]; rfl) (by decide) ?_
      refine lv_aload_n hx hb d_CL_joinMeaningOfOr_43 rfl (lv_at hl 0 rfl) ?_
      refine lv_iload_n hx hb d_CL_joinMeaningOfOr_44 rfl (lv_at hl 1 rfl) ?_
      refine lv_aload_n hx hb d_CL_joinMeaningOfOr_45 rfl (lv_at hl 0 rfl) ?_
      refine va_get (v := .ref (h 6)) (C := R_CL) (T := T_CL) (N := 11) hx hb hg in_CL hown hK hP 0 rfl rfl 1 (by decide) (hg _ m_285) (fun _ h9 => h9) rfl d_CL_joinMeaningOfOr_46 ?_
      refine lv_iload_n hx hb d_CL_joinMeaningOfOr_49 rfl (lv_at hl 2 rfl) ?_
      obtain ⟨hk0, hk⟩ := hk
      refine va_calli (va_runV (As := [.int a2]) (rest := [.int a1, .ref (h 0)]) ⟨hx, hb, hml, hown, hg⟩ (c_Te_opposite l D ty h px sa σ s.heap.size a2 hk0) ⟨callB_of 1 hg (gw_C m_1014) rfl rfl rfl (hg _ m_3) (hg _ m_1011) hd_Te_opposite ⟨Nat.le_of_ble_eq_true rfl, Nat.le_of_ble_eq_true rfl⟩, hg _ m_1012, hg _ m_1013⟩ (zz_preVW hM hS hA hN hK hP hD 6 rfl rfl) rfl rfl hl.1 rfl (lv_room (Nat.le_of_ble_eq_true rfl)) d_CL_joinMeaningOfOr_50 ⟨Nat.le_of_ble_eq_true rfl, Nat.le_of_ble_eq_true rfl⟩) hS (fun q _ h => zz_free hD hS hA q h) (zz_free hD hS hA) (fun r50 u50 t H locs ht hvm hp hP1 hz hk1 hS => ?_)
      rw [ht] at hP1
      rw [← hp] at hv hk
      have hD : va_D A (Wc ty h u50 px) := zz_D hD rfl
      have hP := hP1
      exact B53 _ _ _ r50 a1 u50 hv hk (lv_sub hl [] rfl) hP hD hS
    · have hv := hv.trans (if_neg hc1)
      have hk := hk.2 hc1
      by_cases hc2 : a4 = 2
      · have hv := hv.trans (if_pos hc2)
        have hk := hk.1 hc2
        refine lv_tableIn (tgt := 58) hx hb d_CL_joinMeaningOfOr_2 (by rw [hc2]; decide) (by rw [hc2]; decide) (by rw [hc2]; rfl) (by decide) ?_
        refine lv_aload_n hx hb d_CL_joinMeaningOfOr_58 rfl (lv_at hl 0 rfl) ?_
        refine lv_iload_n hx hb d_CL_joinMeaningOfOr_59 rfl (lv_at hl 1 rfl) ?_
        refine lv_aload_n hx hb d_CL_joinMeaningOfOr_60 rfl (lv_at hl 0 rfl) ?_
        refine va_get (v := .ref (h 6)) (C := R_CL) (T := T_CL) (N := 11) hx hb hg in_CL hown hK hP 0 rfl rfl 1 (by decide) (hg _ m_285) (fun _ h9 => h9) rfl d_CL_joinMeaningOfOr_61 ?_
        refine lv_iload_n hx hb d_CL_joinMeaningOfOr_64 rfl (lv_at hl 3 rfl) ?_
        obtain ⟨hk0, hk⟩ := hk
        refine va_calli (va_runV (As := [.int a3]) (rest := [.int a1, .ref (h 0)]) ⟨hx, hb, hml, hown, hg⟩ (c_Te_opposite l D ty h px sa σ s.heap.size a3 hk0) ⟨callB_of 1 hg (gw_C m_1014) rfl rfl rfl (hg _ m_3) (hg _ m_1011) hd_Te_opposite ⟨Nat.le_of_ble_eq_true rfl, Nat.le_of_ble_eq_true rfl⟩, hg _ m_1012, hg _ m_1013⟩ (zz_preVW hM hS hA hN hK hP hD 6 rfl rfl) rfl rfl hl.1 rfl (lv_room (Nat.le_of_ble_eq_true rfl)) d_CL_joinMeaningOfOr_65 ⟨Nat.le_of_ble_eq_true rfl, Nat.le_of_ble_eq_true rfl⟩) hS (fun q _ h => zz_free hD hS hA q h) (zz_free hD hS hA) (fun r65 u65 t H locs ht hvm hp hP1 hz hk1 hS => ?_)
        rw [ht] at hP1
        rw [← hp] at hv hk
        have hD : va_D A (Wc ty h u65 px) := zz_D hD rfl
        have hP := hP1
        exact B68 _ _ _ r65 a1 u65 hv hk (lv_sub hl [] rfl) hP hD hS
      · have hv := hv.trans (if_neg hc2)
        have hk := hk.2 hc2
        refine lv_tableOut (tgt := 73) hx hb d_CL_joinMeaningOfOr_2 (by have := lv_neT hc0 (by decide : (0 : Int32).toInt = 0); have := lv_neT hc1 (by decide : (1 : Int32).toInt = 1); have := lv_neT hc2 (by decide : (2 : Int32).toInt = 2); omega) (by decide) ?_
        refine lv_iconst (v := 0) hx hb d_CL_joinMeaningOfOr_73 (by decide) ?_
        exact W.zret hx hb hr rfl (fun t ht hW => ⟨⟨_, _, rfl, hv.symm, by dsimp only; rw [ht]; exact hP⟩, hS.F ht⟩) hS.2.2 d_CL_joinMeaningOfOr_74

-- ClauseLedger.joinMeaningOfEqual(IIII)Z
abbrev b_CL_joinMeaningOfEqual : ByteArray := prog_1_method_31_code
def y_CL_joinMeaningOfEqual : MethodName := ⟨"ClauseLedger", "joinMeaningOfEqual", "(IIII)Z"⟩
theorem hd_CL_joinMeaningOfEqual : y_CL_joinMeaningOfEqual.cls ≠ "java/lang/invoke/MethodHandle" ∧ y_CL_joinMeaningOfEqual.cls ≠ "java/lang/invoke/VarHandle" ∧ (parseMethodDescriptor y_CL_joinMeaningOfEqual.desc).map (fun d => d.parameters.length) = some 4 := by decide +kernel
theorem d_CL_joinMeaningOfEqual_0 : decode b_CL_joinMeaningOfEqual 0 = .ok (.iload 4, 2) := by decide +kernel
theorem d_CL_joinMeaningOfEqual_2 : decode b_CL_joinMeaningOfEqual 2 = .ok (.tableswitch 104 0 3 #[30, 52, 74, 82], 30) := by decide +kernel
theorem d_CL_joinMeaningOfEqual_32 : decode b_CL_joinMeaningOfEqual 32 = .ok (.aload_n 0, 1) := by decide +kernel
theorem d_CL_joinMeaningOfEqual_33 : decode b_CL_joinMeaningOfEqual 33 = .ok (.aload_n 0, 1) := by decide +kernel
theorem d_CL_joinMeaningOfEqual_34 : decode b_CL_joinMeaningOfEqual 34 = .ok (.getfield 19, 3) := by decide +kernel
theorem d_CL_joinMeaningOfEqual_37 : decode b_CL_joinMeaningOfEqual 37 = .ok (.iload_n 1, 1) := by decide +kernel
theorem d_CL_joinMeaningOfEqual_38 : decode b_CL_joinMeaningOfEqual 38 = .ok (.invokevirtual 182, 3) := by decide +kernel
theorem d_CL_joinMeaningOfEqual_41 : decode b_CL_joinMeaningOfEqual 41 = .ok (.aload_n 0, 1) := by decide +kernel
theorem d_CL_joinMeaningOfEqual_42 : decode b_CL_joinMeaningOfEqual 42 = .ok (.getfield 19, 3) := by decide +kernel
theorem d_CL_joinMeaningOfEqual_45 : decode b_CL_joinMeaningOfEqual 45 = .ok (.iload_n 2, 1) := by decide +kernel
theorem d_CL_joinMeaningOfEqual_46 : decode b_CL_joinMeaningOfEqual 46 = .ok (.invokevirtual 182, 3) := by decide +kernel
theorem d_CL_joinMeaningOfEqual_49 : decode b_CL_joinMeaningOfEqual 49 = .ok (.iload_n 3, 1) := by decide +kernel
theorem d_CL_joinMeaningOfEqual_50 : decode b_CL_joinMeaningOfEqual 50 = .ok (.invokevirtual 284, 3) := by decide +kernel
theorem d_CL_joinMeaningOfEqual_53 : decode b_CL_joinMeaningOfEqual 53 = .ok (.ireturn, 1) := by decide +kernel
theorem d_CL_joinMeaningOfEqual_54 : decode b_CL_joinMeaningOfEqual 54 = .ok (.aload_n 0, 1) := by decide +kernel
theorem d_CL_joinMeaningOfEqual_55 : decode b_CL_joinMeaningOfEqual 55 = .ok (.aload_n 0, 1) := by decide +kernel
theorem d_CL_joinMeaningOfEqual_56 : decode b_CL_joinMeaningOfEqual 56 = .ok (.getfield 19, 3) := by decide +kernel
theorem d_CL_joinMeaningOfEqual_59 : decode b_CL_joinMeaningOfEqual 59 = .ok (.iload_n 1, 1) := by decide +kernel
theorem d_CL_joinMeaningOfEqual_60 : decode b_CL_joinMeaningOfEqual 60 = .ok (.invokevirtual 182, 3) := by decide +kernel
theorem d_CL_joinMeaningOfEqual_63 : decode b_CL_joinMeaningOfEqual 63 = .ok (.iload_n 2, 1) := by decide +kernel
theorem d_CL_joinMeaningOfEqual_64 : decode b_CL_joinMeaningOfEqual 64 = .ok (.aload_n 0, 1) := by decide +kernel
theorem d_CL_joinMeaningOfEqual_65 : decode b_CL_joinMeaningOfEqual 65 = .ok (.getfield 19, 3) := by decide +kernel
theorem d_CL_joinMeaningOfEqual_68 : decode b_CL_joinMeaningOfEqual 68 = .ok (.iload_n 3, 1) := by decide +kernel
theorem d_CL_joinMeaningOfEqual_69 : decode b_CL_joinMeaningOfEqual 69 = .ok (.invokevirtual 182, 3) := by decide +kernel
theorem d_CL_joinMeaningOfEqual_72 : decode b_CL_joinMeaningOfEqual 72 = .ok (.invokevirtual 284, 3) := by decide +kernel
theorem d_CL_joinMeaningOfEqual_75 : decode b_CL_joinMeaningOfEqual 75 = .ok (.ireturn, 1) := by decide +kernel
theorem d_CL_joinMeaningOfEqual_76 : decode b_CL_joinMeaningOfEqual 76 = .ok (.aload_n 0, 1) := by decide +kernel
theorem d_CL_joinMeaningOfEqual_77 : decode b_CL_joinMeaningOfEqual 77 = .ok (.iload_n 1, 1) := by decide +kernel
theorem d_CL_joinMeaningOfEqual_78 : decode b_CL_joinMeaningOfEqual 78 = .ok (.iload_n 2, 1) := by decide +kernel
theorem d_CL_joinMeaningOfEqual_79 : decode b_CL_joinMeaningOfEqual 79 = .ok (.iload_n 3, 1) := by decide +kernel
theorem d_CL_joinMeaningOfEqual_80 : decode b_CL_joinMeaningOfEqual 80 = .ok (.invokevirtual 284, 3) := by decide +kernel
theorem d_CL_joinMeaningOfEqual_83 : decode b_CL_joinMeaningOfEqual 83 = .ok (.ireturn, 1) := by decide +kernel
theorem d_CL_joinMeaningOfEqual_84 : decode b_CL_joinMeaningOfEqual 84 = .ok (.aload_n 0, 1) := by decide +kernel
theorem d_CL_joinMeaningOfEqual_85 : decode b_CL_joinMeaningOfEqual 85 = .ok (.iload_n 1, 1) := by decide +kernel
theorem d_CL_joinMeaningOfEqual_86 : decode b_CL_joinMeaningOfEqual 86 = .ok (.aload_n 0, 1) := by decide +kernel
theorem d_CL_joinMeaningOfEqual_87 : decode b_CL_joinMeaningOfEqual 87 = .ok (.getfield 19, 3) := by decide +kernel
theorem d_CL_joinMeaningOfEqual_90 : decode b_CL_joinMeaningOfEqual 90 = .ok (.iload_n 2, 1) := by decide +kernel
theorem d_CL_joinMeaningOfEqual_91 : decode b_CL_joinMeaningOfEqual 91 = .ok (.invokevirtual 182, 3) := by decide +kernel
theorem d_CL_joinMeaningOfEqual_94 : decode b_CL_joinMeaningOfEqual 94 = .ok (.aload_n 0, 1) := by decide +kernel
theorem d_CL_joinMeaningOfEqual_95 : decode b_CL_joinMeaningOfEqual 95 = .ok (.getfield 19, 3) := by decide +kernel
theorem d_CL_joinMeaningOfEqual_98 : decode b_CL_joinMeaningOfEqual 98 = .ok (.iload_n 3, 1) := by decide +kernel
theorem d_CL_joinMeaningOfEqual_99 : decode b_CL_joinMeaningOfEqual 99 = .ok (.invokevirtual 182, 3) := by decide +kernel
theorem d_CL_joinMeaningOfEqual_102 : decode b_CL_joinMeaningOfEqual 102 = .ok (.invokevirtual 284, 3) := by decide +kernel
theorem d_CL_joinMeaningOfEqual_105 : decode b_CL_joinMeaningOfEqual 105 = .ok (.ireturn, 1) := by decide +kernel
theorem d_CL_joinMeaningOfEqual_106 : decode b_CL_joinMeaningOfEqual 106 = .ok (.iconst 0, 1) := by decide +kernel
theorem d_CL_joinMeaningOfEqual_107 : decode b_CL_joinMeaningOfEqual 107 = .ok (.ireturn, 1) := by decide +kernel
def f_CL_joinMeaningOfEqual_53 (s0 : Int32) (σ : St) : Int32 × St := (s0, σ)
def k_CL_joinMeaningOfEqual_53 (s0 : Int32) (σ : St) : Prop := (narrow .boolean (.int s0) = .int s0) ∧ True
def f_CL_joinMeaningOfEqual_49 (x3 : Int32) (s0 : Int32) (s1 : Int32) (σ : St) : Int32 × St := f_CL_joinMeaningOfEqual_53 ((f_CL_joinThree s1 s0 x3 σ).1) ((f_CL_joinThree s1 s0 x3 σ).2)
def k_CL_joinMeaningOfEqual_49 (x3 : Int32) (s0 : Int32) (s1 : Int32) (σ : St) : Prop := (k_CL_joinThree s1 s0 x3 σ) ∧ (k_CL_joinMeaningOfEqual_53 ((f_CL_joinThree s1 s0 x3 σ).1) ((f_CL_joinThree s1 s0 x3 σ).2))
def f_CL_joinMeaningOfEqual_41 (x2 : Int32) (x3 : Int32) (s0 : Int32) (σ : St) : Int32 × St := f_CL_joinMeaningOfEqual_49 x3 ((f_Te_opposite x2 σ).1) s0 ((f_Te_opposite x2 σ).2)
def k_CL_joinMeaningOfEqual_41 (x2 : Int32) (x3 : Int32) (s0 : Int32) (σ : St) : Prop := (k_Te_opposite x2 σ) ∧ (k_CL_joinMeaningOfEqual_49 x3 ((f_Te_opposite x2 σ).1) s0 ((f_Te_opposite x2 σ).2))
def f_CL_joinMeaningOfEqual_75 (s0 : Int32) (σ : St) : Int32 × St := (s0, σ)
def k_CL_joinMeaningOfEqual_75 (s0 : Int32) (σ : St) : Prop := (narrow .boolean (.int s0) = .int s0) ∧ True
def f_CL_joinMeaningOfEqual_72 (s0 : Int32) (s1 : Int32) (s2 : Int32) (σ : St) : Int32 × St := f_CL_joinMeaningOfEqual_75 ((f_CL_joinThree s2 s1 s0 σ).1) ((f_CL_joinThree s2 s1 s0 σ).2)
def k_CL_joinMeaningOfEqual_72 (s0 : Int32) (s1 : Int32) (s2 : Int32) (σ : St) : Prop := (k_CL_joinThree s2 s1 s0 σ) ∧ (k_CL_joinMeaningOfEqual_75 ((f_CL_joinThree s2 s1 s0 σ).1) ((f_CL_joinThree s2 s1 s0 σ).2))
def f_CL_joinMeaningOfEqual_63 (x2 : Int32) (x3 : Int32) (s0 : Int32) (σ : St) : Int32 × St := f_CL_joinMeaningOfEqual_72 ((f_Te_opposite x3 σ).1) x2 s0 ((f_Te_opposite x3 σ).2)
def k_CL_joinMeaningOfEqual_63 (x2 : Int32) (x3 : Int32) (s0 : Int32) (σ : St) : Prop := (k_Te_opposite x3 σ) ∧ (k_CL_joinMeaningOfEqual_72 ((f_Te_opposite x3 σ).1) x2 s0 ((f_Te_opposite x3 σ).2))
def f_CL_joinMeaningOfEqual_83 (s0 : Int32) (σ : St) : Int32 × St := (s0, σ)
def k_CL_joinMeaningOfEqual_83 (s0 : Int32) (σ : St) : Prop := (narrow .boolean (.int s0) = .int s0) ∧ True
def f_CL_joinMeaningOfEqual_105 (s0 : Int32) (σ : St) : Int32 × St := (s0, σ)
def k_CL_joinMeaningOfEqual_105 (s0 : Int32) (σ : St) : Prop := (narrow .boolean (.int s0) = .int s0) ∧ True
def f_CL_joinMeaningOfEqual_102 (s0 : Int32) (s1 : Int32) (s2 : Int32) (σ : St) : Int32 × St := f_CL_joinMeaningOfEqual_105 ((f_CL_joinThree s2 s1 s0 σ).1) ((f_CL_joinThree s2 s1 s0 σ).2)
def k_CL_joinMeaningOfEqual_102 (s0 : Int32) (s1 : Int32) (s2 : Int32) (σ : St) : Prop := (k_CL_joinThree s2 s1 s0 σ) ∧ (k_CL_joinMeaningOfEqual_105 ((f_CL_joinThree s2 s1 s0 σ).1) ((f_CL_joinThree s2 s1 s0 σ).2))
def f_CL_joinMeaningOfEqual_94 (x3 : Int32) (s0 : Int32) (s1 : Int32) (σ : St) : Int32 × St := f_CL_joinMeaningOfEqual_102 ((f_Te_opposite x3 σ).1) s0 s1 ((f_Te_opposite x3 σ).2)
def k_CL_joinMeaningOfEqual_94 (x3 : Int32) (s0 : Int32) (s1 : Int32) (σ : St) : Prop := (k_Te_opposite x3 σ) ∧ (k_CL_joinMeaningOfEqual_102 ((f_Te_opposite x3 σ).1) s0 s1 ((f_Te_opposite x3 σ).2))
def f_CL_joinMeaningOfEqual (a1 : Int32) (a2 : Int32) (a3 : Int32) (a4 : Int32) (σ : St) : Int32 × St := if a4 = 0 then (f_CL_joinMeaningOfEqual_41 a2 a3 ((f_Te_opposite a1 σ).1) ((f_Te_opposite a1 σ).2)) else (if a4 = 1 then (f_CL_joinMeaningOfEqual_63 a2 a3 ((f_Te_opposite a1 σ).1) ((f_Te_opposite a1 σ).2)) else (if a4 = 2 then (f_CL_joinMeaningOfEqual_83 ((f_CL_joinThree a1 a2 a3 σ).1) ((f_CL_joinThree a1 a2 a3 σ).2)) else (if a4 = 3 then (f_CL_joinMeaningOfEqual_94 a3 ((f_Te_opposite a2 σ).1) a1 ((f_Te_opposite a2 σ).2)) else (0, σ))))
def k_CL_joinMeaningOfEqual (a1 : Int32) (a2 : Int32) (a3 : Int32) (a4 : Int32) (σ : St) : Prop := (a4 = 0 → ((k_Te_opposite a1 σ) ∧ (k_CL_joinMeaningOfEqual_41 a2 a3 ((f_Te_opposite a1 σ).1) ((f_Te_opposite a1 σ).2)))) ∧ (¬ a4 = 0 → ((a4 = 1 → ((k_Te_opposite a1 σ) ∧ (k_CL_joinMeaningOfEqual_63 a2 a3 ((f_Te_opposite a1 σ).1) ((f_Te_opposite a1 σ).2)))) ∧ (¬ a4 = 1 → ((a4 = 2 → ((k_CL_joinThree a1 a2 a3 σ) ∧ (k_CL_joinMeaningOfEqual_83 ((f_CL_joinThree a1 a2 a3 σ).1) ((f_CL_joinThree a1 a2 a3 σ).2)))) ∧ (¬ a4 = 2 → ((a4 = 3 → ((k_Te_opposite a2 σ) ∧ (k_CL_joinMeaningOfEqual_94 a3 ((f_Te_opposite a2 σ).1) a1 ((f_Te_opposite a2 σ).2)))) ∧ (¬ a4 = 3 → True)))))))
abbrev w_CL_joinMeaningOfEqual : List Cond := Cond.code y_CL_joinMeaningOfEqual b_CL_joinMeaningOfEqual 5 (some .boolean) :: gw
abbrev rm_CL_joinMeaningOfEqual : Room := { frames := 4, cells := 0, slots := 0, locals := 97 }
set_option maxHeartbeats 4000000 in
set_option maxRecDepth 100000 in
theorem c_CL_joinMeaningOfEqual (l : Launch) (D : va_G) (ty : Nat → ClassId) (h : Nat → Nat) (px : va_W) (sa : Nat → Nat) (σ : St) (sz : Nat) (a1 : Int32) (a2 : Int32) (a3 : Int32) (a4 : Int32) (hk : k_CL_joinMeaningOfEqual a1 a2 a3 a4 σ) : Met l y_CL_joinMeaningOfEqual w_CL_joinMeaningOfEqual rm_CL_joinMeaningOfEqual (va_Pc [.ref (h 0), .int a1, .int a2, .int a3, .int a4] (fun U => U.heap.size = sz ∧ va_P D classes (Wc ty h σ px) U.heap ∧ va_K D classes (Ta ty) U ∧ NW U ∧ MK sa (va_A (Wc ty h σ px) sz) U U.heap ∧ va_D (fun _ => True) (Wc ty h σ px))) (va_Qi (fun r (u : St) => (r, u) = f_CL_joinMeaningOfEqual a1 a2 a3 a4 σ) (fun u t => va_P D classes (Wc ty h u px) t.heap) (va_A (Wc ty h σ px) sz)) 0 0 (va_A (Wc ty h σ px) sz) := by
  refine Met.ofW (cc := b_CL_joinMeaningOfEqual) (maxL := 5) (ret := (some .boolean)) (by decide) rfl ?_
  intro p e s m args below meth c s₁ B hml hv
  obtain ⟨ha, hsz, hP, hK, hN, hM, hD0⟩ := hv
  have hx := B.exec
  have hb := B.bytes
  have hr := B.returns
  have hg : ∀ w ∈ gw, w.before args s = true := fun w h9 => atoms_spec (ws := w_CL_joinMeaningOfEqual) B.pre w (List.mem_cons_of_mem _ h9)
  have hown : s.vm.findClass "ClauseLedger" = some m.cls := findClass_of_methodNamed B.named
  have hlocks := B.notSynchronized
  subst hsz
  have hD := hD0.self (sz := s.heap.size)
  generalize hAe : va_A (Wc ty h σ px) s.heap.size = A at hD hM ⊢
  have hA : ∀ q : Nat, s.heap.size ≤ q → A q := fun q h9 => by rw [← hAe]; exact Or.inr h9
  have hS : va_S A s.heap s.heap [] := va_S.rf
  have he : entryFrame m args 5 = entryFrame m ([.ref (h 0), .int a1, .int a2, .int a3, .int a4] : List Value).toArray 5 := by rw [ha]
  rw [he, lg_entry_eq]
  have hl := lv_entry ([.ref (h 0), .int a1, .int a2, .int a3, .int a4]) (n := 5) (Nat.le_of_ble_eq_true rfl)
  generalize (lg_sl ([.ref (h 0), .int a1, .int a2, .int a3, .int a4]) ++ List.replicate (5 - (lg_sl ([.ref (h 0), .int a1, .int a2, .int a3, .int a4])).length) Slot.unset).toArray = ls at hl ⊢
  have hl : lv_has ls 5 [(0, .ref (h 0)), (1, .int a1), (2, .int a2), (3, .int a3), (4, .int a4)] := hl
  generalize hv : f_CL_joinMeaningOfEqual a1 a2 a3 a4 σ = v
  replace hv := hv.symm
  have B53 : ∀ (H : Heap) (locs : List Loc) (ls : Array Slot) (s0 : Int32) (σ : St), v = f_CL_joinMeaningOfEqual_53 s0 σ → k_CL_joinMeaningOfEqual_53 s0 σ → lv_has ls 5 [] → va_P D classes (Wc ty h σ px) H → va_D A (Wc ty h σ px) → va_S A s.heap H locs → W p l e (headSpec w_CL_joinMeaningOfEqual rm_CL_joinMeaningOfEqual).room s m args below meth c H locs 0 0 (MQ below (va_Qi (fun r (u : St) => (r, u) = v) (fun u t => va_P D classes (Wc ty h u px) t.heap) A) args s 0 0 A) (F0 m 53 ls [.int s0]) := by
    intro H locs ls s0 σ hv hk hl hP hD hS
    unfold f_CL_joinMeaningOfEqual_53 at hv
    unfold k_CL_joinMeaningOfEqual_53 at hk
    obtain ⟨hk0, hk⟩ := hk
    exact W.zret hx hb hr hk0 (fun t ht hW => ⟨⟨_, _, rfl, hv.symm, by dsimp only; rw [ht]; exact hP⟩, hS.F ht⟩) hS.2.2 d_CL_joinMeaningOfEqual_53
  have B49 : ∀ (H : Heap) (locs : List Loc) (ls : Array Slot) (x3 : Int32) (s0 : Int32) (s1 : Int32) (σ : St), v = f_CL_joinMeaningOfEqual_49 x3 s0 s1 σ → k_CL_joinMeaningOfEqual_49 x3 s0 s1 σ → lv_has ls 5 [(3, .int x3)] → va_P D classes (Wc ty h σ px) H → va_D A (Wc ty h σ px) → va_S A s.heap H locs → W p l e (headSpec w_CL_joinMeaningOfEqual rm_CL_joinMeaningOfEqual).room s m args below meth c H locs 0 0 (MQ below (va_Qi (fun r (u : St) => (r, u) = v) (fun u t => va_P D classes (Wc ty h u px) t.heap) A) args s 0 0 A) (F0 m 49 ls [.int s0, .int s1, .ref (h 0)]) := by
    intro H locs ls x3 s0 s1 σ hv hk hl hP hD hS
    unfold f_CL_joinMeaningOfEqual_49 at hv
    unfold k_CL_joinMeaningOfEqual_49 at hk
    refine lv_iload_n hx hb d_CL_joinMeaningOfEqual_49 rfl (lv_at hl 0 rfl) ?_
    obtain ⟨hk0, hk⟩ := hk
    refine va_calli (va_runV (As := [.int s1, .int s0, .int x3]) (rest := []) ⟨hx, hb, hml, hown, hg⟩ (c_CL_joinThree l D ty h px sa σ H.size s1 s0 x3 hk0) ⟨callB_of 3 hg (gw_C m_1019) rfl rfl rfl (hg _ m_1) (hg _ m_1016) hd_CL_joinThree ⟨Nat.le_of_ble_eq_true rfl, Nat.le_of_ble_eq_true rfl⟩, hg _ m_1018, hg _ ms_34⟩ (zz_preVW hM hS hA hN hK hP hD 0 rfl rfl) rfl rfl hl.1 rfl (lv_room (Nat.le_of_ble_eq_true rfl)) d_CL_joinMeaningOfEqual_50 ⟨Nat.le_of_ble_eq_true rfl, Nat.le_of_ble_eq_true rfl⟩) hS (fun q _ h => zz_free hD hS hA q h) (zz_free hD hS hA) (fun r50 u50 t H locs ht hvm hp hP1 hz hk1 hS => ?_)
    rw [ht] at hP1
    rw [← hp] at hv hk
    have hD : va_D A (Wc ty h u50 px) := zz_D hD rfl
    have hP := hP1
    exact B53 _ _ _ r50 u50 hv hk (lv_sub hl [] rfl) hP hD hS
  have B41 : ∀ (H : Heap) (locs : List Loc) (ls : Array Slot) (x2 : Int32) (x3 : Int32) (s0 : Int32) (σ : St), v = f_CL_joinMeaningOfEqual_41 x2 x3 s0 σ → k_CL_joinMeaningOfEqual_41 x2 x3 s0 σ → lv_has ls 5 [(0, .ref (h 0)), (2, .int x2), (3, .int x3)] → va_P D classes (Wc ty h σ px) H → va_D A (Wc ty h σ px) → va_S A s.heap H locs → W p l e (headSpec w_CL_joinMeaningOfEqual rm_CL_joinMeaningOfEqual).room s m args below meth c H locs 0 0 (MQ below (va_Qi (fun r (u : St) => (r, u) = v) (fun u t => va_P D classes (Wc ty h u px) t.heap) A) args s 0 0 A) (F0 m 41 ls [.int s0, .ref (h 0)]) := by
    intro H locs ls x2 x3 s0 σ hv hk hl hP hD hS
    unfold f_CL_joinMeaningOfEqual_41 at hv
    unfold k_CL_joinMeaningOfEqual_41 at hk
    refine lv_aload_n hx hb d_CL_joinMeaningOfEqual_41 rfl (lv_at hl 0 rfl) ?_
    refine va_get (v := .ref (h 6)) (C := R_CL) (T := T_CL) (N := 11) hx hb hg in_CL hown hK hP 0 rfl rfl 1 (by decide) (hg _ m_285) (fun _ h9 => h9) rfl d_CL_joinMeaningOfEqual_42 ?_
    refine lv_iload_n hx hb d_CL_joinMeaningOfEqual_45 rfl (lv_at hl 1 rfl) ?_
    obtain ⟨hk0, hk⟩ := hk
    refine va_calli (va_runV (As := [.int x2]) (rest := [.int s0, .ref (h 0)]) ⟨hx, hb, hml, hown, hg⟩ (c_Te_opposite l D ty h px sa σ H.size x2 hk0) ⟨callB_of 1 hg (gw_C m_1014) rfl rfl rfl (hg _ m_3) (hg _ m_1011) hd_Te_opposite ⟨Nat.le_of_ble_eq_true rfl, Nat.le_of_ble_eq_true rfl⟩, hg _ m_1012, hg _ m_1013⟩ (zz_preVW hM hS hA hN hK hP hD 6 rfl rfl) rfl rfl hl.1 rfl (lv_room (Nat.le_of_ble_eq_true rfl)) d_CL_joinMeaningOfEqual_46 ⟨Nat.le_of_ble_eq_true rfl, Nat.le_of_ble_eq_true rfl⟩) hS (fun q _ h => zz_free hD hS hA q h) (zz_free hD hS hA) (fun r46 u46 t H locs ht hvm hp hP1 hz hk1 hS => ?_)
    rw [ht] at hP1
    rw [← hp] at hv hk
    have hD : va_D A (Wc ty h u46 px) := zz_D hD rfl
    have hP := hP1
    exact B49 _ _ _ x3 r46 s0 u46 hv hk (lv_sub hl [2] rfl) hP hD hS
  have B75 : ∀ (H : Heap) (locs : List Loc) (ls : Array Slot) (s0 : Int32) (σ : St), v = f_CL_joinMeaningOfEqual_75 s0 σ → k_CL_joinMeaningOfEqual_75 s0 σ → lv_has ls 5 [] → va_P D classes (Wc ty h σ px) H → va_D A (Wc ty h σ px) → va_S A s.heap H locs → W p l e (headSpec w_CL_joinMeaningOfEqual rm_CL_joinMeaningOfEqual).room s m args below meth c H locs 0 0 (MQ below (va_Qi (fun r (u : St) => (r, u) = v) (fun u t => va_P D classes (Wc ty h u px) t.heap) A) args s 0 0 A) (F0 m 75 ls [.int s0]) := by
    intro H locs ls s0 σ hv hk hl hP hD hS
    unfold f_CL_joinMeaningOfEqual_75 at hv
    unfold k_CL_joinMeaningOfEqual_75 at hk
    obtain ⟨hk0, hk⟩ := hk
    exact W.zret hx hb hr hk0 (fun t ht hW => ⟨⟨_, _, rfl, hv.symm, by dsimp only; rw [ht]; exact hP⟩, hS.F ht⟩) hS.2.2 d_CL_joinMeaningOfEqual_75
  have B72 : ∀ (H : Heap) (locs : List Loc) (ls : Array Slot) (s0 : Int32) (s1 : Int32) (s2 : Int32) (σ : St), v = f_CL_joinMeaningOfEqual_72 s0 s1 s2 σ → k_CL_joinMeaningOfEqual_72 s0 s1 s2 σ → lv_has ls 5 [] → va_P D classes (Wc ty h σ px) H → va_D A (Wc ty h σ px) → va_S A s.heap H locs → W p l e (headSpec w_CL_joinMeaningOfEqual rm_CL_joinMeaningOfEqual).room s m args below meth c H locs 0 0 (MQ below (va_Qi (fun r (u : St) => (r, u) = v) (fun u t => va_P D classes (Wc ty h u px) t.heap) A) args s 0 0 A) (F0 m 72 ls [.int s0, .int s1, .int s2, .ref (h 0)]) := by
    intro H locs ls s0 s1 s2 σ hv hk hl hP hD hS
    unfold f_CL_joinMeaningOfEqual_72 at hv
    unfold k_CL_joinMeaningOfEqual_72 at hk
    obtain ⟨hk0, hk⟩ := hk
    refine va_calli (va_runV (As := [.int s2, .int s1, .int s0]) (rest := []) ⟨hx, hb, hml, hown, hg⟩ (c_CL_joinThree l D ty h px sa σ H.size s2 s1 s0 hk0) ⟨callB_of 3 hg (gw_C m_1019) rfl rfl rfl (hg _ m_1) (hg _ m_1016) hd_CL_joinThree ⟨Nat.le_of_ble_eq_true rfl, Nat.le_of_ble_eq_true rfl⟩, hg _ m_1018, hg _ ms_34⟩ (zz_preVW hM hS hA hN hK hP hD 0 rfl rfl) rfl rfl hl.1 rfl (lv_room (Nat.le_of_ble_eq_true rfl)) d_CL_joinMeaningOfEqual_72 ⟨Nat.le_of_ble_eq_true rfl, Nat.le_of_ble_eq_true rfl⟩) hS (fun q _ h => zz_free hD hS hA q h) (zz_free hD hS hA) (fun r72 u72 t H locs ht hvm hp hP1 hz hk1 hS => ?_)
    rw [ht] at hP1
    rw [← hp] at hv hk
    have hD : va_D A (Wc ty h u72 px) := zz_D hD rfl
    have hP := hP1
    exact B75 _ _ _ r72 u72 hv hk (lv_sub hl [] rfl) hP hD hS
  have B63 : ∀ (H : Heap) (locs : List Loc) (ls : Array Slot) (x2 : Int32) (x3 : Int32) (s0 : Int32) (σ : St), v = f_CL_joinMeaningOfEqual_63 x2 x3 s0 σ → k_CL_joinMeaningOfEqual_63 x2 x3 s0 σ → lv_has ls 5 [(0, .ref (h 0)), (2, .int x2), (3, .int x3)] → va_P D classes (Wc ty h σ px) H → va_D A (Wc ty h σ px) → va_S A s.heap H locs → W p l e (headSpec w_CL_joinMeaningOfEqual rm_CL_joinMeaningOfEqual).room s m args below meth c H locs 0 0 (MQ below (va_Qi (fun r (u : St) => (r, u) = v) (fun u t => va_P D classes (Wc ty h u px) t.heap) A) args s 0 0 A) (F0 m 63 ls [.int s0, .ref (h 0)]) := by
    intro H locs ls x2 x3 s0 σ hv hk hl hP hD hS
    unfold f_CL_joinMeaningOfEqual_63 at hv
    unfold k_CL_joinMeaningOfEqual_63 at hk
    refine lv_iload_n hx hb d_CL_joinMeaningOfEqual_63 rfl (lv_at hl 1 rfl) ?_
    refine lv_aload_n hx hb d_CL_joinMeaningOfEqual_64 rfl (lv_at hl 0 rfl) ?_
    refine va_get (v := .ref (h 6)) (C := R_CL) (T := T_CL) (N := 11) hx hb hg in_CL hown hK hP 0 rfl rfl 1 (by decide) (hg _ m_285) (fun _ h9 => h9) rfl d_CL_joinMeaningOfEqual_65 ?_
    refine lv_iload_n hx hb d_CL_joinMeaningOfEqual_68 rfl (lv_at hl 2 rfl) ?_
    obtain ⟨hk0, hk⟩ := hk
    refine va_calli (va_runV (As := [.int x3]) (rest := [.int x2, .int s0, .ref (h 0)]) ⟨hx, hb, hml, hown, hg⟩ (c_Te_opposite l D ty h px sa σ H.size x3 hk0) ⟨callB_of 1 hg (gw_C m_1014) rfl rfl rfl (hg _ m_3) (hg _ m_1011) hd_Te_opposite ⟨Nat.le_of_ble_eq_true rfl, Nat.le_of_ble_eq_true rfl⟩, hg _ m_1012, hg _ m_1013⟩ (zz_preVW hM hS hA hN hK hP hD 6 rfl rfl) rfl rfl hl.1 rfl (lv_room (Nat.le_of_ble_eq_true rfl)) d_CL_joinMeaningOfEqual_69 ⟨Nat.le_of_ble_eq_true rfl, Nat.le_of_ble_eq_true rfl⟩) hS (fun q _ h => zz_free hD hS hA q h) (zz_free hD hS hA) (fun r69 u69 t H locs ht hvm hp hP1 hz hk1 hS => ?_)
    rw [ht] at hP1
    rw [← hp] at hv hk
    have hD : va_D A (Wc ty h u69 px) := zz_D hD rfl
    have hP := hP1
    exact B72 _ _ _ r69 x2 s0 u69 hv hk (lv_sub hl [] rfl) hP hD hS
  have B83 : ∀ (H : Heap) (locs : List Loc) (ls : Array Slot) (s0 : Int32) (σ : St), v = f_CL_joinMeaningOfEqual_83 s0 σ → k_CL_joinMeaningOfEqual_83 s0 σ → lv_has ls 5 [] → va_P D classes (Wc ty h σ px) H → va_D A (Wc ty h σ px) → va_S A s.heap H locs → W p l e (headSpec w_CL_joinMeaningOfEqual rm_CL_joinMeaningOfEqual).room s m args below meth c H locs 0 0 (MQ below (va_Qi (fun r (u : St) => (r, u) = v) (fun u t => va_P D classes (Wc ty h u px) t.heap) A) args s 0 0 A) (F0 m 83 ls [.int s0]) := by
    intro H locs ls s0 σ hv hk hl hP hD hS
    unfold f_CL_joinMeaningOfEqual_83 at hv
    unfold k_CL_joinMeaningOfEqual_83 at hk
    obtain ⟨hk0, hk⟩ := hk
    exact W.zret hx hb hr hk0 (fun t ht hW => ⟨⟨_, _, rfl, hv.symm, by dsimp only; rw [ht]; exact hP⟩, hS.F ht⟩) hS.2.2 d_CL_joinMeaningOfEqual_83
  have B105 : ∀ (H : Heap) (locs : List Loc) (ls : Array Slot) (s0 : Int32) (σ : St), v = f_CL_joinMeaningOfEqual_105 s0 σ → k_CL_joinMeaningOfEqual_105 s0 σ → lv_has ls 5 [] → va_P D classes (Wc ty h σ px) H → va_D A (Wc ty h σ px) → va_S A s.heap H locs → W p l e (headSpec w_CL_joinMeaningOfEqual rm_CL_joinMeaningOfEqual).room s m args below meth c H locs 0 0 (MQ below (va_Qi (fun r (u : St) => (r, u) = v) (fun u t => va_P D classes (Wc ty h u px) t.heap) A) args s 0 0 A) (F0 m 105 ls [.int s0]) := by
    intro H locs ls s0 σ hv hk hl hP hD hS
    unfold f_CL_joinMeaningOfEqual_105 at hv
    unfold k_CL_joinMeaningOfEqual_105 at hk
    obtain ⟨hk0, hk⟩ := hk
    exact W.zret hx hb hr hk0 (fun t ht hW => ⟨⟨_, _, rfl, hv.symm, by dsimp only; rw [ht]; exact hP⟩, hS.F ht⟩) hS.2.2 d_CL_joinMeaningOfEqual_105
  have B102 : ∀ (H : Heap) (locs : List Loc) (ls : Array Slot) (s0 : Int32) (s1 : Int32) (s2 : Int32) (σ : St), v = f_CL_joinMeaningOfEqual_102 s0 s1 s2 σ → k_CL_joinMeaningOfEqual_102 s0 s1 s2 σ → lv_has ls 5 [] → va_P D classes (Wc ty h σ px) H → va_D A (Wc ty h σ px) → va_S A s.heap H locs → W p l e (headSpec w_CL_joinMeaningOfEqual rm_CL_joinMeaningOfEqual).room s m args below meth c H locs 0 0 (MQ below (va_Qi (fun r (u : St) => (r, u) = v) (fun u t => va_P D classes (Wc ty h u px) t.heap) A) args s 0 0 A) (F0 m 102 ls [.int s0, .int s1, .int s2, .ref (h 0)]) := by
    intro H locs ls s0 s1 s2 σ hv hk hl hP hD hS
    unfold f_CL_joinMeaningOfEqual_102 at hv
    unfold k_CL_joinMeaningOfEqual_102 at hk
    obtain ⟨hk0, hk⟩ := hk
    refine va_calli (va_runV (As := [.int s2, .int s1, .int s0]) (rest := []) ⟨hx, hb, hml, hown, hg⟩ (c_CL_joinThree l D ty h px sa σ H.size s2 s1 s0 hk0) ⟨callB_of 3 hg (gw_C m_1019) rfl rfl rfl (hg _ m_1) (hg _ m_1016) hd_CL_joinThree ⟨Nat.le_of_ble_eq_true rfl, Nat.le_of_ble_eq_true rfl⟩, hg _ m_1018, hg _ ms_34⟩ (zz_preVW hM hS hA hN hK hP hD 0 rfl rfl) rfl rfl hl.1 rfl (lv_room (Nat.le_of_ble_eq_true rfl)) d_CL_joinMeaningOfEqual_102 ⟨Nat.le_of_ble_eq_true rfl, Nat.le_of_ble_eq_true rfl⟩) hS (fun q _ h => zz_free hD hS hA q h) (zz_free hD hS hA) (fun r102 u102 t H locs ht hvm hp hP1 hz hk1 hS => ?_)
    rw [ht] at hP1
    rw [← hp] at hv hk
    have hD : va_D A (Wc ty h u102 px) := zz_D hD rfl
    have hP := hP1
    exact B105 _ _ _ r102 u102 hv hk (lv_sub hl [] rfl) hP hD hS
  have B94 : ∀ (H : Heap) (locs : List Loc) (ls : Array Slot) (x3 : Int32) (s0 : Int32) (s1 : Int32) (σ : St), v = f_CL_joinMeaningOfEqual_94 x3 s0 s1 σ → k_CL_joinMeaningOfEqual_94 x3 s0 s1 σ → lv_has ls 5 [(0, .ref (h 0)), (3, .int x3)] → va_P D classes (Wc ty h σ px) H → va_D A (Wc ty h σ px) → va_S A s.heap H locs → W p l e (headSpec w_CL_joinMeaningOfEqual rm_CL_joinMeaningOfEqual).room s m args below meth c H locs 0 0 (MQ below (va_Qi (fun r (u : St) => (r, u) = v) (fun u t => va_P D classes (Wc ty h u px) t.heap) A) args s 0 0 A) (F0 m 94 ls [.int s0, .int s1, .ref (h 0)]) := by
    intro H locs ls x3 s0 s1 σ hv hk hl hP hD hS
    unfold f_CL_joinMeaningOfEqual_94 at hv
    unfold k_CL_joinMeaningOfEqual_94 at hk
    refine lv_aload_n hx hb d_CL_joinMeaningOfEqual_94 rfl (lv_at hl 0 rfl) ?_
    refine va_get (v := .ref (h 6)) (C := R_CL) (T := T_CL) (N := 11) hx hb hg in_CL hown hK hP 0 rfl rfl 1 (by decide) (hg _ m_285) (fun _ h9 => h9) rfl d_CL_joinMeaningOfEqual_95 ?_
    refine lv_iload_n hx hb d_CL_joinMeaningOfEqual_98 rfl (lv_at hl 1 rfl) ?_
    obtain ⟨hk0, hk⟩ := hk
    refine va_calli (va_runV (As := [.int x3]) (rest := [.int s0, .int s1, .ref (h 0)]) ⟨hx, hb, hml, hown, hg⟩ (c_Te_opposite l D ty h px sa σ H.size x3 hk0) ⟨callB_of 1 hg (gw_C m_1014) rfl rfl rfl (hg _ m_3) (hg _ m_1011) hd_Te_opposite ⟨Nat.le_of_ble_eq_true rfl, Nat.le_of_ble_eq_true rfl⟩, hg _ m_1012, hg _ m_1013⟩ (zz_preVW hM hS hA hN hK hP hD 6 rfl rfl) rfl rfl hl.1 rfl (lv_room (Nat.le_of_ble_eq_true rfl)) d_CL_joinMeaningOfEqual_99 ⟨Nat.le_of_ble_eq_true rfl, Nat.le_of_ble_eq_true rfl⟩) hS (fun q _ h => zz_free hD hS hA q h) (zz_free hD hS hA) (fun r99 u99 t H locs ht hvm hp hP1 hz hk1 hS => ?_)
    rw [ht] at hP1
    rw [← hp] at hv hk
    have hD : va_D A (Wc ty h u99 px) := zz_D hD rfl
    have hP := hP1
    exact B102 _ _ _ r99 s0 s1 u99 hv hk (lv_sub hl [] rfl) hP hD hS
  unfold f_CL_joinMeaningOfEqual at hv
  unfold k_CL_joinMeaningOfEqual at hk
  refine lv_iload hx hb d_CL_joinMeaningOfEqual_0 (lv_at hl 4 rfl) ?_
  by_cases hc0 : a4 = 0
  · have hv := hv.trans (if_pos hc0)
    have hk := hk.1 hc0
    refine lv_tableIn (tgt := 32) hx hb d_CL_joinMeaningOfEqual_2 (by rw [hc0]; decide) (by rw [hc0]; decide) (by rw [hc0]; rfl) (by decide) ?_
    refine lv_aload_n hx hb d_CL_joinMeaningOfEqual_32 rfl (lv_at hl 0 rfl) ?_
    refine lv_aload_n hx hb d_CL_joinMeaningOfEqual_33 rfl (lv_at hl 0 rfl) ?_
    refine va_get (v := .ref (h 6)) (C := R_CL) (T := T_CL) (N := 11) hx hb hg in_CL hown hK hP 0 rfl rfl 1 (by decide) (hg _ m_285) (fun _ h9 => h9) rfl d_CL_joinMeaningOfEqual_34 ?_
    refine lv_iload_n hx hb d_CL_joinMeaningOfEqual_37 rfl (lv_at hl 1 rfl) ?_
    obtain ⟨hk0, hk⟩ := hk
    refine va_calli (va_runV (As := [.int a1]) (rest := [.ref (h 0)]) ⟨hx, hb, hml, hown, hg⟩ (c_Te_opposite l D ty h px sa σ s.heap.size a1 hk0) ⟨callB_of 1 hg (gw_C m_1014) rfl rfl rfl (hg _ m_3) (hg _ m_1011) hd_Te_opposite ⟨Nat.le_of_ble_eq_true rfl, Nat.le_of_ble_eq_true rfl⟩, hg _ m_1012, hg _ m_1013⟩ (zz_preVW hM hS hA hN hK hP hD 6 rfl rfl) rfl rfl hl.1 rfl (lv_room (Nat.le_of_ble_eq_true rfl)) d_CL_joinMeaningOfEqual_38 ⟨Nat.le_of_ble_eq_true rfl, Nat.le_of_ble_eq_true rfl⟩) hS (fun q _ h => zz_free hD hS hA q h) (zz_free hD hS hA) (fun r38 u38 t H locs ht hvm hp hP1 hz hk1 hS => ?_)
    rw [ht] at hP1
    rw [← hp] at hv hk
    have hD : va_D A (Wc ty h u38 px) := zz_D hD rfl
    have hP := hP1
    exact B41 _ _ _ a2 a3 r38 u38 hv hk (lv_sub hl [0, 2, 3] rfl) hP hD hS
  · have hv := hv.trans (if_neg hc0)
    have hk := hk.2 hc0
    by_cases hc1 : a4 = 1
    · have hv := hv.trans (if_pos hc1)
      have hk := hk.1 hc1
      refine lv_tableIn (tgt := 54) hx hb d_CL_joinMeaningOfEqual_2 (by rw [hc1]; decide) (by rw [hc1]; decide) (by rw [hc1]; rfl) (by decide) ?_
      refine lv_aload_n hx hb d_CL_joinMeaningOfEqual_54 rfl (lv_at hl 0 rfl) ?_
      refine lv_aload_n hx hb d_CL_joinMeaningOfEqual_55 rfl (lv_at hl 0 rfl) ?_
      refine va_get (v := .ref (h 6)) (C := R_CL) (T := T_CL) (N := 11) hx hb hg in_CL hown hK hP 0 rfl rfl 1 (by decide) (hg _ m_285) (fun _ h9 => h9) rfl d_CL_joinMeaningOfEqual_56 ?_
      refine lv_iload_n hx hb d_CL_joinMeaningOfEqual_59 rfl (lv_at hl 1 rfl) ?_
      obtain ⟨hk0, hk⟩ := hk
      refine va_calli (va_runV (As := [.int a1]) (rest := [.ref (h 0)]) ⟨hx, hb, hml, hown, hg⟩ (c_Te_opposite l D ty h px sa σ s.heap.size a1 hk0) ⟨callB_of 1 hg (gw_C m_1014) rfl rfl rfl (hg _ m_3) (hg _ m_1011) hd_Te_opposite ⟨Nat.le_of_ble_eq_true rfl, Nat.le_of_ble_eq_true rfl⟩, hg _ m_1012, hg _ m_1013⟩ (zz_preVW hM hS hA hN hK hP hD 6 rfl rfl) rfl rfl hl.1 rfl (lv_room (Nat.le_of_ble_eq_true rfl)) d_CL_joinMeaningOfEqual_60 ⟨Nat.le_of_ble_eq_true rfl, Nat.le_of_ble_eq_true rfl⟩) hS (fun q _ h => zz_free hD hS hA q h) (zz_free hD hS hA) (fun r60 u60 t H locs ht hvm hp hP1 hz hk1 hS => ?_)
      rw [ht] at hP1
      rw [← hp] at hv hk
      have hD : va_D A (Wc ty h u60 px) := zz_D hD rfl
      have hP := hP1
      exact B63 _ _ _ a2 a3 r60 u60 hv hk (lv_sub hl [0, 2, 3] rfl) hP hD hS
    · have hv := hv.trans (if_neg hc1)
      have hk := hk.2 hc1
      by_cases hc2 : a4 = 2
      · have hv := hv.trans (if_pos hc2)
        have hk := hk.1 hc2
        refine lv_tableIn (tgt := 76) hx hb d_CL_joinMeaningOfEqual_2 (by rw [hc2]; decide) (by rw [hc2]; decide) (by rw [hc2]; rfl) (by decide) ?_
        refine lv_aload_n hx hb d_CL_joinMeaningOfEqual_76 rfl (lv_at hl 0 rfl) ?_
        refine lv_iload_n hx hb d_CL_joinMeaningOfEqual_77 rfl (lv_at hl 1 rfl) ?_
        refine lv_iload_n hx hb d_CL_joinMeaningOfEqual_78 rfl (lv_at hl 2 rfl) ?_
        refine lv_iload_n hx hb d_CL_joinMeaningOfEqual_79 rfl (lv_at hl 3 rfl) ?_
        obtain ⟨hk0, hk⟩ := hk
        refine va_calli (va_runV (As := [.int a1, .int a2, .int a3]) (rest := []) ⟨hx, hb, hml, hown, hg⟩ (c_CL_joinThree l D ty h px sa σ s.heap.size a1 a2 a3 hk0) ⟨callB_of 3 hg (gw_C m_1019) rfl rfl rfl (hg _ m_1) (hg _ m_1016) hd_CL_joinThree ⟨Nat.le_of_ble_eq_true rfl, Nat.le_of_ble_eq_true rfl⟩, hg _ m_1018, hg _ ms_34⟩ (zz_preVW hM hS hA hN hK hP hD 0 rfl rfl) rfl rfl hl.1 rfl (lv_room (Nat.le_of_ble_eq_true rfl)) d_CL_joinMeaningOfEqual_80 ⟨Nat.le_of_ble_eq_true rfl, Nat.le_of_ble_eq_true rfl⟩) hS (fun q _ h => zz_free hD hS hA q h) (zz_free hD hS hA) (fun r80 u80 t H locs ht hvm hp hP1 hz hk1 hS => ?_)
        rw [ht] at hP1
        rw [← hp] at hv hk
        have hD : va_D A (Wc ty h u80 px) := zz_D hD rfl
        have hP := hP1
        exact B83 _ _ _ r80 u80 hv hk (lv_sub hl [] rfl) hP hD hS
      · have hv := hv.trans (if_neg hc2)
        have hk := hk.2 hc2
        by_cases hc3 : a4 = 3
        · have hv := hv.trans (if_pos hc3)
          have hk := hk.1 hc3
          refine lv_tableIn (tgt := 84) hx hb d_CL_joinMeaningOfEqual_2 (by rw [hc3]; decide) (by rw [hc3]; decide) (by rw [hc3]; rfl) (by decide) ?_
          refine lv_aload_n hx hb d_CL_joinMeaningOfEqual_84 rfl (lv_at hl 0 rfl) ?_
          refine lv_iload_n hx hb d_CL_joinMeaningOfEqual_85 rfl (lv_at hl 1 rfl) ?_
          refine lv_aload_n hx hb d_CL_joinMeaningOfEqual_86 rfl (lv_at hl 0 rfl) ?_
          refine va_get (v := .ref (h 6)) (C := R_CL) (T := T_CL) (N := 11) hx hb hg in_CL hown hK hP 0 rfl rfl 1 (by decide) (hg _ m_285) (fun _ h9 => h9) rfl d_CL_joinMeaningOfEqual_87 ?_
          refine lv_iload_n hx hb d_CL_joinMeaningOfEqual_90 rfl (lv_at hl 2 rfl) ?_
          obtain ⟨hk0, hk⟩ := hk
          refine va_calli (va_runV (As := [.int a2]) (rest := [.int a1, .ref (h 0)]) ⟨hx, hb, hml, hown, hg⟩ (c_Te_opposite l D ty h px sa σ s.heap.size a2 hk0) ⟨callB_of 1 hg (gw_C m_1014) rfl rfl rfl (hg _ m_3) (hg _ m_1011) hd_Te_opposite ⟨Nat.le_of_ble_eq_true rfl, Nat.le_of_ble_eq_true rfl⟩, hg _ m_1012, hg _ m_1013⟩ (zz_preVW hM hS hA hN hK hP hD 6 rfl rfl) rfl rfl hl.1 rfl (lv_room (Nat.le_of_ble_eq_true rfl)) d_CL_joinMeaningOfEqual_91 ⟨Nat.le_of_ble_eq_true rfl, Nat.le_of_ble_eq_true rfl⟩) hS (fun q _ h => zz_free hD hS hA q h) (zz_free hD hS hA) (fun r91 u91 t H locs ht hvm hp hP1 hz hk1 hS => ?_)
          rw [ht] at hP1
          rw [← hp] at hv hk
          have hD : va_D A (Wc ty h u91 px) := zz_D hD rfl
          have hP := hP1
          exact B94 _ _ _ a3 r91 a1 u91 hv hk (lv_sub hl [0, 3] rfl) hP hD hS
        · have hv := hv.trans (if_neg hc3)
          have hk := hk.2 hc3
          refine lv_tableOut (tgt := 106) hx hb d_CL_joinMeaningOfEqual_2 (by have := lv_neT hc0 (by decide : (0 : Int32).toInt = 0); have := lv_neT hc1 (by decide : (1 : Int32).toInt = 1); have := lv_neT hc2 (by decide : (2 : Int32).toInt = 2); have := lv_neT hc3 (by decide : (3 : Int32).toInt = 3); omega) (by decide) ?_
          refine lv_iconst (v := 0) hx hb d_CL_joinMeaningOfEqual_106 (by decide) ?_
          exact W.zret hx hb hr rfl (fun t ht hW => ⟨⟨_, _, rfl, hv.symm, by dsimp only; rw [ht]; exact hP⟩, hS.F ht⟩) hS.2.2 d_CL_joinMeaningOfEqual_107

-- ClauseLedger.joinMeaning(II)Z
abbrev b_CL_joinMeaning : ByteArray := prog_1_method_28_code
def y_CL_joinMeaning : MethodName := ⟨"ClauseLedger", "joinMeaning", "(II)Z"⟩
theorem hd_CL_joinMeaning : y_CL_joinMeaning.cls ≠ "java/lang/invoke/MethodHandle" ∧ y_CL_joinMeaning.cls ≠ "java/lang/invoke/VarHandle" ∧ (parseMethodDescriptor y_CL_joinMeaning.desc).map (fun d => d.parameters.length) = some 2 := by decide +kernel
theorem d_CL_joinMeaning_0 : decode b_CL_joinMeaning 0 = .ok (.aload_n 0, 1) := by decide +kernel
theorem d_CL_joinMeaning_1 : decode b_CL_joinMeaning 1 = .ok (.getfield 19, 3) := by decide +kernel
theorem d_CL_joinMeaning_4 : decode b_CL_joinMeaning 4 = .ok (.iload_n 1, 1) := by decide +kernel
theorem d_CL_joinMeaning_5 : decode b_CL_joinMeaning 5 = .ok (.invokevirtual 179, 3) := by decide +kernel
theorem d_CL_joinMeaning_8 : decode b_CL_joinMeaning 8 = .ok (.istore_n 3, 1) := by decide +kernel
theorem d_CL_joinMeaning_9 : decode b_CL_joinMeaning 9 = .ok (.aload_n 0, 1) := by decide +kernel
theorem d_CL_joinMeaning_10 : decode b_CL_joinMeaning 10 = .ok (.getfield 19, 3) := by decide +kernel
theorem d_CL_joinMeaning_13 : decode b_CL_joinMeaning 13 = .ok (.iload_n 1, 1) := by decide +kernel
theorem d_CL_joinMeaning_14 : decode b_CL_joinMeaning 14 = .ok (.invokevirtual 176, 3) := by decide +kernel
theorem d_CL_joinMeaning_17 : decode b_CL_joinMeaning 17 = .ok (.istore 4, 2) := by decide +kernel
theorem d_CL_joinMeaning_19 : decode b_CL_joinMeaning 19 = .ok (.aload_n 0, 1) := by decide +kernel
theorem d_CL_joinMeaning_20 : decode b_CL_joinMeaning 20 = .ok (.getfield 19, 3) := by decide +kernel
theorem d_CL_joinMeaning_23 : decode b_CL_joinMeaning 23 = .ok (.iload_n 1, 1) := by decide +kernel
theorem d_CL_joinMeaning_24 : decode b_CL_joinMeaning 24 = .ok (.invokevirtual 173, 3) := by decide +kernel
theorem d_CL_joinMeaning_27 : decode b_CL_joinMeaning 27 = .ok (.tableswitch 82 5 9 #[53, 82, 82, 33, 43], 33) := by decide +kernel
theorem d_CL_joinMeaning_60 : decode b_CL_joinMeaning 60 = .ok (.aload_n 0, 1) := by decide +kernel
theorem d_CL_joinMeaning_61 : decode b_CL_joinMeaning 61 = .ok (.iload_n 1, 1) := by decide +kernel
theorem d_CL_joinMeaning_62 : decode b_CL_joinMeaning 62 = .ok (.iload_n 3, 1) := by decide +kernel
theorem d_CL_joinMeaning_63 : decode b_CL_joinMeaning 63 = .ok (.iload 4, 2) := by decide +kernel
theorem d_CL_joinMeaning_65 : decode b_CL_joinMeaning 65 = .ok (.iload_n 2, 1) := by decide +kernel
theorem d_CL_joinMeaning_66 : decode b_CL_joinMeaning 66 = .ok (.invokevirtual 274, 3) := by decide +kernel
theorem d_CL_joinMeaning_69 : decode b_CL_joinMeaning 69 = .ok (.ireturn, 1) := by decide +kernel
theorem d_CL_joinMeaning_70 : decode b_CL_joinMeaning 70 = .ok (.aload_n 0, 1) := by decide +kernel
theorem d_CL_joinMeaning_71 : decode b_CL_joinMeaning 71 = .ok (.iload_n 1, 1) := by decide +kernel
theorem d_CL_joinMeaning_72 : decode b_CL_joinMeaning 72 = .ok (.iload_n 3, 1) := by decide +kernel
theorem d_CL_joinMeaning_73 : decode b_CL_joinMeaning 73 = .ok (.iload 4, 2) := by decide +kernel
theorem d_CL_joinMeaning_75 : decode b_CL_joinMeaning 75 = .ok (.iload_n 2, 1) := by decide +kernel
theorem d_CL_joinMeaning_76 : decode b_CL_joinMeaning 76 = .ok (.invokevirtual 278, 3) := by decide +kernel
theorem d_CL_joinMeaning_79 : decode b_CL_joinMeaning 79 = .ok (.ireturn, 1) := by decide +kernel
theorem d_CL_joinMeaning_80 : decode b_CL_joinMeaning 80 = .ok (.aload_n 0, 1) := by decide +kernel
theorem d_CL_joinMeaning_81 : decode b_CL_joinMeaning 81 = .ok (.getfield 19, 3) := by decide +kernel
theorem d_CL_joinMeaning_84 : decode b_CL_joinMeaning 84 = .ok (.iload_n 3, 1) := by decide +kernel
theorem d_CL_joinMeaning_85 : decode b_CL_joinMeaning 85 = .ok (.invokevirtual 137, 3) := by decide +kernel
theorem d_CL_joinMeaning_88 : decode b_CL_joinMeaning 88 = .ok (.ifCond .eq 19, 3) := by decide +kernel
theorem d_CL_joinMeaning_91 : decode b_CL_joinMeaning 91 = .ok (.aload_n 0, 1) := by decide +kernel
theorem d_CL_joinMeaning_92 : decode b_CL_joinMeaning 92 = .ok (.iload_n 1, 1) := by decide +kernel
theorem d_CL_joinMeaning_93 : decode b_CL_joinMeaning 93 = .ok (.iload_n 3, 1) := by decide +kernel
theorem d_CL_joinMeaning_94 : decode b_CL_joinMeaning 94 = .ok (.iload 4, 2) := by decide +kernel
theorem d_CL_joinMeaning_96 : decode b_CL_joinMeaning 96 = .ok (.iload_n 2, 1) := by decide +kernel
theorem d_CL_joinMeaning_97 : decode b_CL_joinMeaning 97 = .ok (.invokevirtual 281, 3) := by decide +kernel
theorem d_CL_joinMeaning_100 : decode b_CL_joinMeaning 100 = .ok (.ifCond .eq 7, 3) := by decide +kernel
theorem d_CL_joinMeaning_103 : decode b_CL_joinMeaning 103 = .ok (.iconst 1, 1) := by decide +kernel
theorem d_CL_joinMeaning_104 : decode b_CL_joinMeaning 104 = .ok (.goto 4, 3) := by decide +kernel
theorem d_CL_joinMeaning_107 : decode b_CL_joinMeaning 107 = .ok (.iconst 0, 1) := by decide +kernel
theorem d_CL_joinMeaning_108 : decode b_CL_joinMeaning 108 = .ok (.ireturn, 1) := by decide +kernel
theorem d_CL_joinMeaning_109 : decode b_CL_joinMeaning 109 = .ok (.iconst 0, 1) := by decide +kernel
theorem d_CL_joinMeaning_110 : decode b_CL_joinMeaning 110 = .ok (.ireturn, 1) := by decide +kernel
def f_CL_joinMeaning_69 (s0 : Int32) (σ : St) : Int32 × St := (s0, σ)
def k_CL_joinMeaning_69 (s0 : Int32) (σ : St) : Prop := (narrow .boolean (.int s0) = .int s0) ∧ True
def f_CL_joinMeaning_79 (s0 : Int32) (σ : St) : Int32 × St := (s0, σ)
def k_CL_joinMeaning_79 (s0 : Int32) (σ : St) : Prop := (narrow .boolean (.int s0) = .int s0) ∧ True
def f_CL_joinMeaning_108 (s0 : Int32) (σ : St) : Int32 × St := (s0, σ)
def k_CL_joinMeaning_108 (s0 : Int32) (σ : St) : Prop := (narrow .boolean (.int s0) = .int s0) ∧ True
def f_CL_joinMeaning_107 (σ : St) : Int32 × St := f_CL_joinMeaning_108 0 σ
def k_CL_joinMeaning_107 (σ : St) : Prop := k_CL_joinMeaning_108 0 σ
def f_CL_joinMeaning_100 (s0 : Int32) (σ : St) : Int32 × St := if s0 = 0 then (f_CL_joinMeaning_107 σ) else (f_CL_joinMeaning_108 1 σ)
def k_CL_joinMeaning_100 (s0 : Int32) (σ : St) : Prop := (s0 = 0 → (k_CL_joinMeaning_107 σ)) ∧ (¬ s0 = 0 → (k_CL_joinMeaning_108 1 σ))
def f_CL_joinMeaning_19 (x1 : Int32) (x2 : Int32) (x3 : Int32) (x4 : Int32) (σ : St) : Int32 × St := if (f_Te_kindOf x1 σ) = 5 then (if (f_Te_isTruth x3 σ) = 0 then (f_CL_joinMeaning_107 σ) else (f_CL_joinMeaning_100 ((f_CL_joinMeaningOfEqual x1 x3 x4 x2 σ).1) ((f_CL_joinMeaningOfEqual x1 x3 x4 x2 σ).2))) else (if (f_Te_kindOf x1 σ) = 6 then (0, σ) else (if (f_Te_kindOf x1 σ) = 7 then (0, σ) else (if (f_Te_kindOf x1 σ) = 8 then (f_CL_joinMeaning_69 ((f_CL_joinMeaningOfAnd x1 x3 x4 x2 σ).1) ((f_CL_joinMeaningOfAnd x1 x3 x4 x2 σ).2)) else (if (f_Te_kindOf x1 σ) = 9 then (f_CL_joinMeaning_79 ((f_CL_joinMeaningOfOr x1 x3 x4 x2 σ).1) ((f_CL_joinMeaningOfOr x1 x3 x4 x2 σ).2)) else (0, σ)))))
def k_CL_joinMeaning_19 (x1 : Int32) (x2 : Int32) (x3 : Int32) (x4 : Int32) (σ : St) : Prop := (k_Te_kindOf x1 σ) ∧ (((f_Te_kindOf x1 σ) = 5 → ((k_Te_isTruth x3 σ) ∧ (((f_Te_isTruth x3 σ) = 0 → (k_CL_joinMeaning_107 σ)) ∧ (¬ (f_Te_isTruth x3 σ) = 0 → ((k_CL_joinMeaningOfEqual x1 x3 x4 x2 σ) ∧ (k_CL_joinMeaning_100 ((f_CL_joinMeaningOfEqual x1 x3 x4 x2 σ).1) ((f_CL_joinMeaningOfEqual x1 x3 x4 x2 σ).2))))))) ∧ (¬ (f_Te_kindOf x1 σ) = 5 → (((f_Te_kindOf x1 σ) = 6 → True) ∧ (¬ (f_Te_kindOf x1 σ) = 6 → (((f_Te_kindOf x1 σ) = 7 → True) ∧ (¬ (f_Te_kindOf x1 σ) = 7 → (((f_Te_kindOf x1 σ) = 8 → ((k_CL_joinMeaningOfAnd x1 x3 x4 x2 σ) ∧ (k_CL_joinMeaning_69 ((f_CL_joinMeaningOfAnd x1 x3 x4 x2 σ).1) ((f_CL_joinMeaningOfAnd x1 x3 x4 x2 σ).2)))) ∧ (¬ (f_Te_kindOf x1 σ) = 8 → (((f_Te_kindOf x1 σ) = 9 → ((k_CL_joinMeaningOfOr x1 x3 x4 x2 σ) ∧ (k_CL_joinMeaning_79 ((f_CL_joinMeaningOfOr x1 x3 x4 x2 σ).1) ((f_CL_joinMeaningOfOr x1 x3 x4 x2 σ).2)))) ∧ (¬ (f_Te_kindOf x1 σ) = 9 → True))))))))))
def f_CL_joinMeaning_9 (x1 : Int32) (x2 : Int32) (x3 : Int32) (σ : St) : Int32 × St := f_CL_joinMeaning_19 x1 x2 x3 (f_Te_secondOf x1 σ) σ
def k_CL_joinMeaning_9 (x1 : Int32) (x2 : Int32) (x3 : Int32) (σ : St) : Prop := (k_Te_secondOf x1 σ) ∧ (k_CL_joinMeaning_19 x1 x2 x3 (f_Te_secondOf x1 σ) σ)
def f_CL_joinMeaning (a1 : Int32) (a2 : Int32) (σ : St) : Int32 × St := f_CL_joinMeaning_9 a1 a2 (f_Te_firstOf a1 σ) σ
def k_CL_joinMeaning (a1 : Int32) (a2 : Int32) (σ : St) : Prop := (k_Te_firstOf a1 σ) ∧ (k_CL_joinMeaning_9 a1 a2 (f_Te_firstOf a1 σ) σ)
abbrev w_CL_joinMeaning : List Cond := Cond.code y_CL_joinMeaning b_CL_joinMeaning 5 (some .boolean) :: gw
abbrev rm_CL_joinMeaning : Room := { frames := 5, cells := 0, slots := 0, locals := 121 }
set_option maxHeartbeats 4000000 in
set_option maxRecDepth 100000 in
theorem c_CL_joinMeaning (l : Launch) (D : va_G) (ty : Nat → ClassId) (h : Nat → Nat) (px : va_W) (sa : Nat → Nat) (σ : St) (sz : Nat) (a1 : Int32) (a2 : Int32) (hk : k_CL_joinMeaning a1 a2 σ) : Met l y_CL_joinMeaning w_CL_joinMeaning rm_CL_joinMeaning (va_Pc [.ref (h 0), .int a1, .int a2] (fun U => U.heap.size = sz ∧ va_P D classes (Wc ty h σ px) U.heap ∧ va_K D classes (Ta ty) U ∧ NW U ∧ MK sa (va_A (Wc ty h σ px) sz) U U.heap ∧ va_D (fun _ => True) (Wc ty h σ px))) (va_Qi (fun r (u : St) => (r, u) = f_CL_joinMeaning a1 a2 σ) (fun u t => va_P D classes (Wc ty h u px) t.heap) (va_A (Wc ty h σ px) sz)) 0 0 (va_A (Wc ty h σ px) sz) := by
  refine Met.ofW (cc := b_CL_joinMeaning) (maxL := 5) (ret := (some .boolean)) (by decide) rfl ?_
  intro p e s m args below meth c s₁ B hml hv
  obtain ⟨ha, hsz, hP, hK, hN, hM, hD0⟩ := hv
  have hx := B.exec
  have hb := B.bytes
  have hr := B.returns
  have hg : ∀ w ∈ gw, w.before args s = true := fun w h9 => atoms_spec (ws := w_CL_joinMeaning) B.pre w (List.mem_cons_of_mem _ h9)
  have hown : s.vm.findClass "ClauseLedger" = some m.cls := findClass_of_methodNamed B.named
  have hlocks := B.notSynchronized
  subst hsz
  have hD := hD0.self (sz := s.heap.size)
  generalize hAe : va_A (Wc ty h σ px) s.heap.size = A at hD hM ⊢
  have hA : ∀ q : Nat, s.heap.size ≤ q → A q := fun q h9 => by rw [← hAe]; exact Or.inr h9
  have hS : va_S A s.heap s.heap [] := va_S.rf
  have he : entryFrame m args 5 = entryFrame m ([.ref (h 0), .int a1, .int a2] : List Value).toArray 5 := by rw [ha]
  rw [he, lg_entry_eq]
  have hl := lv_entry ([.ref (h 0), .int a1, .int a2]) (n := 5) (Nat.le_of_ble_eq_true rfl)
  generalize (lg_sl ([.ref (h 0), .int a1, .int a2]) ++ List.replicate (5 - (lg_sl ([.ref (h 0), .int a1, .int a2])).length) Slot.unset).toArray = ls at hl ⊢
  have hl : lv_has ls 5 [(0, .ref (h 0)), (1, .int a1), (2, .int a2)] := hl
  generalize hv : f_CL_joinMeaning a1 a2 σ = v
  replace hv := hv.symm
  have B69 : ∀ (H : Heap) (locs : List Loc) (ls : Array Slot) (s0 : Int32) (σ : St), v = f_CL_joinMeaning_69 s0 σ → k_CL_joinMeaning_69 s0 σ → lv_has ls 5 [] → va_P D classes (Wc ty h σ px) H → va_D A (Wc ty h σ px) → va_S A s.heap H locs → W p l e (headSpec w_CL_joinMeaning rm_CL_joinMeaning).room s m args below meth c H locs 0 0 (MQ below (va_Qi (fun r (u : St) => (r, u) = v) (fun u t => va_P D classes (Wc ty h u px) t.heap) A) args s 0 0 A) (F0 m 69 ls [.int s0]) := by
    intro H locs ls s0 σ hv hk hl hP hD hS
    unfold f_CL_joinMeaning_69 at hv
    unfold k_CL_joinMeaning_69 at hk
    obtain ⟨hk0, hk⟩ := hk
    exact W.zret hx hb hr hk0 (fun t ht hW => ⟨⟨_, _, rfl, hv.symm, by dsimp only; rw [ht]; exact hP⟩, hS.F ht⟩) hS.2.2 d_CL_joinMeaning_69
  have B79 : ∀ (H : Heap) (locs : List Loc) (ls : Array Slot) (s0 : Int32) (σ : St), v = f_CL_joinMeaning_79 s0 σ → k_CL_joinMeaning_79 s0 σ → lv_has ls 5 [] → va_P D classes (Wc ty h σ px) H → va_D A (Wc ty h σ px) → va_S A s.heap H locs → W p l e (headSpec w_CL_joinMeaning rm_CL_joinMeaning).room s m args below meth c H locs 0 0 (MQ below (va_Qi (fun r (u : St) => (r, u) = v) (fun u t => va_P D classes (Wc ty h u px) t.heap) A) args s 0 0 A) (F0 m 79 ls [.int s0]) := by
    intro H locs ls s0 σ hv hk hl hP hD hS
    unfold f_CL_joinMeaning_79 at hv
    unfold k_CL_joinMeaning_79 at hk
    obtain ⟨hk0, hk⟩ := hk
    exact W.zret hx hb hr hk0 (fun t ht hW => ⟨⟨_, _, rfl, hv.symm, by dsimp only; rw [ht]; exact hP⟩, hS.F ht⟩) hS.2.2 d_CL_joinMeaning_79
  have B108 : ∀ (H : Heap) (locs : List Loc) (ls : Array Slot) (s0 : Int32) (σ : St), v = f_CL_joinMeaning_108 s0 σ → k_CL_joinMeaning_108 s0 σ → lv_has ls 5 [] → va_P D classes (Wc ty h σ px) H → va_D A (Wc ty h σ px) → va_S A s.heap H locs → W p l e (headSpec w_CL_joinMeaning rm_CL_joinMeaning).room s m args below meth c H locs 0 0 (MQ below (va_Qi (fun r (u : St) => (r, u) = v) (fun u t => va_P D classes (Wc ty h u px) t.heap) A) args s 0 0 A) (F0 m 108 ls [.int s0]) := by
    intro H locs ls s0 σ hv hk hl hP hD hS
    unfold f_CL_joinMeaning_108 at hv
    unfold k_CL_joinMeaning_108 at hk
    obtain ⟨hk0, hk⟩ := hk
    exact W.zret hx hb hr hk0 (fun t ht hW => ⟨⟨_, _, rfl, hv.symm, by dsimp only; rw [ht]; exact hP⟩, hS.F ht⟩) hS.2.2 d_CL_joinMeaning_108
  have B107 : ∀ (H : Heap) (locs : List Loc) (ls : Array Slot) (σ : St), v = f_CL_joinMeaning_107 σ → k_CL_joinMeaning_107 σ → lv_has ls 5 [] → va_P D classes (Wc ty h σ px) H → va_D A (Wc ty h σ px) → va_S A s.heap H locs → W p l e (headSpec w_CL_joinMeaning rm_CL_joinMeaning).room s m args below meth c H locs 0 0 (MQ below (va_Qi (fun r (u : St) => (r, u) = v) (fun u t => va_P D classes (Wc ty h u px) t.heap) A) args s 0 0 A) (F0 m 107 ls []) := by
    intro H locs ls σ hv hk hl hP hD hS
    unfold f_CL_joinMeaning_107 at hv
    unfold k_CL_joinMeaning_107 at hk
    refine lv_iconst (v := 0) hx hb d_CL_joinMeaning_107 (by decide) ?_
    exact B108 _ _ _ 0 σ hv hk (lv_sub hl [] rfl) hP hD hS
  have B100 : ∀ (H : Heap) (locs : List Loc) (ls : Array Slot) (s0 : Int32) (σ : St), v = f_CL_joinMeaning_100 s0 σ → k_CL_joinMeaning_100 s0 σ → lv_has ls 5 [] → va_P D classes (Wc ty h σ px) H → va_D A (Wc ty h σ px) → va_S A s.heap H locs → W p l e (headSpec w_CL_joinMeaning rm_CL_joinMeaning).room s m args below meth c H locs 0 0 (MQ below (va_Qi (fun r (u : St) => (r, u) = v) (fun u t => va_P D classes (Wc ty h u px) t.heap) A) args s 0 0 A) (F0 m 100 ls [.int s0]) := by
    intro H locs ls s0 σ hv hk hl hP hD hS
    unfold f_CL_joinMeaning_100 at hv
    unfold k_CL_joinMeaning_100 at hk
    refine lv_if_eq (tgt := 107) hx hb d_CL_joinMeaning_100 (by decide) (fun hc => ?_) (fun hc => ?_)
    · have hv := hv.trans (if_pos hc)
      have hk := hk.1 hc
      exact B107 _ _ _  σ hv hk (lv_sub hl [] rfl) hP hD hS
    · have hv := hv.trans (if_neg hc)
      have hk := hk.2 hc
      refine lv_iconst (v := 1) hx hb d_CL_joinMeaning_103 (by decide) ?_
      refine lv_goto (tgt := 108) hx hb d_CL_joinMeaning_104 (by decide) ?_
      exact B108 _ _ _ 1 σ hv hk (lv_sub hl [] rfl) hP hD hS
  have B19 : ∀ (H : Heap) (locs : List Loc) (ls : Array Slot) (x1 : Int32) (x2 : Int32) (x3 : Int32) (x4 : Int32) (σ : St), v = f_CL_joinMeaning_19 x1 x2 x3 x4 σ → k_CL_joinMeaning_19 x1 x2 x3 x4 σ → lv_has ls 5 [(0, .ref (h 0)), (1, .int x1), (2, .int x2), (3, .int x3), (4, .int x4)] → va_P D classes (Wc ty h σ px) H → va_D A (Wc ty h σ px) → va_S A s.heap H locs → W p l e (headSpec w_CL_joinMeaning rm_CL_joinMeaning).room s m args below meth c H locs 0 0 (MQ below (va_Qi (fun r (u : St) => (r, u) = v) (fun u t => va_P D classes (Wc ty h u px) t.heap) A) args s 0 0 A) (F0 m 19 ls []) := by
    intro H locs ls x1 x2 x3 x4 σ hv hk hl hP hD hS
    unfold f_CL_joinMeaning_19 at hv
    unfold k_CL_joinMeaning_19 at hk
    refine lv_aload_n hx hb d_CL_joinMeaning_19 rfl (lv_at hl 0 rfl) ?_
    refine va_get (v := .ref (h 6)) (C := R_CL) (T := T_CL) (N := 11) hx hb hg in_CL hown hK hP 0 rfl rfl 1 (by decide) (hg _ m_285) (fun _ h9 => h9) rfl d_CL_joinMeaning_20 ?_
    refine lv_iload_n hx hb d_CL_joinMeaning_23 rfl (lv_at hl 1 rfl) ?_
    obtain ⟨hk0, hk⟩ := hk
    refine zz_callV (va_runV (As := [.int x1]) (rest := []) ⟨hx, hb, hml, hown, hg⟩ (c_Te_kindOf l D ty h px sa σ x1 hk0) ⟨callB_of 1 hg (gw_C m_434) rfl rfl rfl (hg _ m_3) (hg _ m_431) hd_Te_kindOf ⟨Nat.le_of_ble_eq_true rfl, Nat.le_of_ble_eq_true rfl⟩, hg _ m_432, hg _ m_433⟩ (zz_preV (hM.at hS) hN hK hP 6 rfl rfl) rfl rfl hl.1 rfl (lv_room (Nat.le_of_ble_eq_true rfl)) d_CL_joinMeaning_24 ⟨Nat.le_of_ble_eq_true rfl, Nat.le_of_ble_eq_true rfl⟩) ?_
    by_cases hc5 : (f_Te_kindOf x1 σ) = 5
    · have hv := hv.trans (if_pos hc5)
      have hk := hk.1 hc5
      refine lv_tableIn (tgt := 80) hx hb d_CL_joinMeaning_27 (by rw [hc5]; decide) (by rw [hc5]; decide) (by rw [hc5]; rfl) (by decide) ?_
      refine lv_aload_n hx hb d_CL_joinMeaning_80 rfl (lv_at hl 0 rfl) ?_
      refine va_get (v := .ref (h 6)) (C := R_CL) (T := T_CL) (N := 11) hx hb hg in_CL hown hK hP 0 rfl rfl 1 (by decide) (hg _ m_285) (fun _ h9 => h9) rfl d_CL_joinMeaning_81 ?_
      refine lv_iload_n hx hb d_CL_joinMeaning_84 rfl (lv_at hl 3 rfl) ?_
      obtain ⟨hk0, hk⟩ := hk
      refine zz_callV (va_runV (As := [.int x3]) (rest := []) ⟨hx, hb, hml, hown, hg⟩ (c_Te_isTruth l D ty h px sa σ x3 hk0) ⟨callB_of 1 hg (gw_C m_661) rfl rfl rfl (hg _ m_3) (hg _ m_931) hd_Te_isTruth ⟨Nat.le_of_ble_eq_true rfl, Nat.le_of_ble_eq_true rfl⟩, hg _ m_659, hg _ m_660⟩ (zz_preV (hM.at hS) hN hK hP 6 rfl rfl) rfl rfl hl.1 rfl (lv_room (Nat.le_of_ble_eq_true rfl)) d_CL_joinMeaning_85 ⟨Nat.le_of_ble_eq_true rfl, Nat.le_of_ble_eq_true rfl⟩) ?_
      refine lv_if_eq (tgt := 107) hx hb d_CL_joinMeaning_88 (by decide) (fun hc => ?_) (fun hc => ?_)
      · have hv := hv.trans (if_pos hc)
        have hk := hk.1 hc
        exact B107 _ _ _  σ hv hk (lv_sub hl [] rfl) hP hD hS
      · have hv := hv.trans (if_neg hc)
        have hk := hk.2 hc
        refine lv_aload_n hx hb d_CL_joinMeaning_91 rfl (lv_at hl 0 rfl) ?_
        refine lv_iload_n hx hb d_CL_joinMeaning_92 rfl (lv_at hl 1 rfl) ?_
        refine lv_iload_n hx hb d_CL_joinMeaning_93 rfl (lv_at hl 3 rfl) ?_
        refine lv_iload hx hb d_CL_joinMeaning_94 (lv_at hl 4 rfl) ?_
        refine lv_iload_n hx hb d_CL_joinMeaning_96 rfl (lv_at hl 2 rfl) ?_
        obtain ⟨hk0, hk⟩ := hk
        refine va_calli (va_runV (As := [.int x1, .int x3, .int x4, .int x2]) (rest := []) ⟨hx, hb, hml, hown, hg⟩ (c_CL_joinMeaningOfEqual l D ty h px sa σ H.size x1 x3 x4 x2 hk0) ⟨callB_of 4 hg (gw_C m_1027) rfl rfl rfl (hg _ m_1) (hg _ m_1024) hd_CL_joinMeaningOfEqual ⟨Nat.le_of_ble_eq_true rfl, Nat.le_of_ble_eq_true rfl⟩, hg _ m_1026, hg _ ms_36⟩ (zz_preVW hM hS hA hN hK hP hD 0 rfl rfl) rfl rfl hl.1 rfl (lv_room (Nat.le_of_ble_eq_true rfl)) d_CL_joinMeaning_97 ⟨Nat.le_of_ble_eq_true rfl, Nat.le_of_ble_eq_true rfl⟩) hS (fun q _ h => zz_free hD hS hA q h) (zz_free hD hS hA) (fun r97 u97 t H locs ht hvm hp hP1 hz hk1 hS => ?_)
        rw [ht] at hP1
        rw [← hp] at hv hk
        have hD : va_D A (Wc ty h u97 px) := zz_D hD rfl
        have hP := hP1
        exact B100 _ _ _ r97 u97 hv hk (lv_sub hl [] rfl) hP hD hS
    · have hv := hv.trans (if_neg hc5)
      have hk := hk.2 hc5
      by_cases hc6 : (f_Te_kindOf x1 σ) = 6
      · have hv := hv.trans (if_pos hc6)
        have hk := hk.1 hc6
        refine lv_tableIn (tgt := 109) hx hb d_CL_joinMeaning_27 (by rw [hc6]; decide) (by rw [hc6]; decide) (by rw [hc6]; rfl) (by decide) ?_
        refine lv_iconst (v := 0) hx hb d_CL_joinMeaning_109 (by decide) ?_
        exact W.zret hx hb hr rfl (fun t ht hW => ⟨⟨_, _, rfl, hv.symm, by dsimp only; rw [ht]; exact hP⟩, hS.F ht⟩) hS.2.2 d_CL_joinMeaning_110
      · have hv := hv.trans (if_neg hc6)
        have hk := hk.2 hc6
        by_cases hc7 : (f_Te_kindOf x1 σ) = 7
        · have hv := hv.trans (if_pos hc7)
          have hk := hk.1 hc7
          refine lv_tableIn (tgt := 109) hx hb d_CL_joinMeaning_27 (by rw [hc7]; decide) (by rw [hc7]; decide) (by rw [hc7]; rfl) (by decide) ?_
          refine lv_iconst (v := 0) hx hb d_CL_joinMeaning_109 (by decide) ?_
          exact W.zret hx hb hr rfl (fun t ht hW => ⟨⟨_, _, rfl, hv.symm, by dsimp only; rw [ht]; exact hP⟩, hS.F ht⟩) hS.2.2 d_CL_joinMeaning_110
        · have hv := hv.trans (if_neg hc7)
          have hk := hk.2 hc7
          by_cases hc8 : (f_Te_kindOf x1 σ) = 8
          · have hv := hv.trans (if_pos hc8)
            have hk := hk.1 hc8
            refine lv_tableIn (tgt := 60) hx hb d_CL_joinMeaning_27 (by rw [hc8]; decide) (by rw [hc8]; decide) (by rw [hc8]; rfl) (by decide) ?_
            refine lv_aload_n hx hb d_CL_joinMeaning_60 rfl (lv_at hl 0 rfl) ?_
            refine lv_iload_n hx hb d_CL_joinMeaning_61 rfl (lv_at hl 1 rfl) ?_
            refine lv_iload_n hx hb d_CL_joinMeaning_62 rfl (lv_at hl 3 rfl) ?_
            refine lv_iload hx hb d_CL_joinMeaning_63 (lv_at hl 4 rfl) ?_
            refine lv_iload_n hx hb d_CL_joinMeaning_65 rfl (lv_at hl 2 rfl) ?_
            obtain ⟨hk0, hk⟩ := hk
            refine va_calli (va_runV (As := [.int x1, .int x3, .int x4, .int x2]) (rest := []) ⟨hx, hb, hml, hown, hg⟩ (c_CL_joinMeaningOfAnd l D ty h px sa σ H.size x1 x3 x4 x2 hk0) ⟨callB_of 4 hg (gw_C m_1010) rfl rfl rfl (hg _ m_1) (hg _ m_1007) hd_CL_joinMeaningOfAnd ⟨Nat.le_of_ble_eq_true rfl, Nat.le_of_ble_eq_true rfl⟩, hg _ m_1009, hg _ ms_33⟩ (zz_preVW hM hS hA hN hK hP hD 0 rfl rfl) rfl rfl hl.1 rfl (lv_room (Nat.le_of_ble_eq_true rfl)) d_CL_joinMeaning_66 ⟨Nat.le_of_ble_eq_true rfl, Nat.le_of_ble_eq_true rfl⟩) hS (fun q _ h => zz_free hD hS hA q h) (zz_free hD hS hA) (fun r66 u66 t H locs ht hvm hp hP1 hz hk1 hS => ?_)
            rw [ht] at hP1
            rw [← hp] at hv hk
            have hD : va_D A (Wc ty h u66 px) := zz_D hD rfl
            have hP := hP1
            exact B69 _ _ _ r66 u66 hv hk (lv_sub hl [] rfl) hP hD hS
          · have hv := hv.trans (if_neg hc8)
            have hk := hk.2 hc8
            by_cases hc9 : (f_Te_kindOf x1 σ) = 9
            · have hv := hv.trans (if_pos hc9)
              have hk := hk.1 hc9
              refine lv_tableIn (tgt := 70) hx hb d_CL_joinMeaning_27 (by rw [hc9]; decide) (by rw [hc9]; decide) (by rw [hc9]; rfl) (by decide) ?_
              refine lv_aload_n hx hb d_CL_joinMeaning_70 rfl (lv_at hl 0 rfl) ?_
              refine lv_iload_n hx hb d_CL_joinMeaning_71 rfl (lv_at hl 1 rfl) ?_
              refine lv_iload_n hx hb d_CL_joinMeaning_72 rfl (lv_at hl 3 rfl) ?_
              refine lv_iload hx hb d_CL_joinMeaning_73 (lv_at hl 4 rfl) ?_
              refine lv_iload_n hx hb d_CL_joinMeaning_75 rfl (lv_at hl 2 rfl) ?_
              obtain ⟨hk0, hk⟩ := hk
              refine va_calli (va_runV (As := [.int x1, .int x3, .int x4, .int x2]) (rest := []) ⟨hx, hb, hml, hown, hg⟩ (c_CL_joinMeaningOfOr l D ty h px sa σ H.size x1 x3 x4 x2 hk0) ⟨callB_of 4 hg (gw_C m_1023) rfl rfl rfl (hg _ m_1) (hg _ m_1020) hd_CL_joinMeaningOfOr ⟨Nat.le_of_ble_eq_true rfl, Nat.le_of_ble_eq_true rfl⟩, hg _ m_1022, hg _ ms_35⟩ (zz_preVW hM hS hA hN hK hP hD 0 rfl rfl) rfl rfl hl.1 rfl (lv_room (Nat.le_of_ble_eq_true rfl)) d_CL_joinMeaning_76 ⟨Nat.le_of_ble_eq_true rfl, Nat.le_of_ble_eq_true rfl⟩) hS (fun q _ h => zz_free hD hS hA q h) (zz_free hD hS hA) (fun r76 u76 t H locs ht hvm hp hP1 hz hk1 hS => ?_)
              rw [ht] at hP1
              rw [← hp] at hv hk
              have hD : va_D A (Wc ty h u76 px) := zz_D hD rfl
              have hP := hP1
              exact B79 _ _ _ r76 u76 hv hk (lv_sub hl [] rfl) hP hD hS
            · have hv := hv.trans (if_neg hc9)
              have hk := hk.2 hc9
              refine lv_tableOut (tgt := 109) hx hb d_CL_joinMeaning_27 (by have := lv_neT hc5 (by decide : (5 : Int32).toInt = 5); have := lv_neT hc6 (by decide : (6 : Int32).toInt = 6); have := lv_neT hc7 (by decide : (7 : Int32).toInt = 7); have := lv_neT hc8 (by decide : (8 : Int32).toInt = 8); have := lv_neT hc9 (by decide : (9 : Int32).toInt = 9); omega) (by decide) ?_
              refine lv_iconst (v := 0) hx hb d_CL_joinMeaning_109 (by decide) ?_
              exact W.zret hx hb hr rfl (fun t ht hW => ⟨⟨_, _, rfl, hv.symm, by dsimp only; rw [ht]; exact hP⟩, hS.F ht⟩) hS.2.2 d_CL_joinMeaning_110
  have B9 : ∀ (H : Heap) (locs : List Loc) (ls : Array Slot) (x1 : Int32) (x2 : Int32) (x3 : Int32) (σ : St), v = f_CL_joinMeaning_9 x1 x2 x3 σ → k_CL_joinMeaning_9 x1 x2 x3 σ → lv_has ls 5 [(0, .ref (h 0)), (1, .int x1), (2, .int x2), (3, .int x3)] → va_P D classes (Wc ty h σ px) H → va_D A (Wc ty h σ px) → va_S A s.heap H locs → W p l e (headSpec w_CL_joinMeaning rm_CL_joinMeaning).room s m args below meth c H locs 0 0 (MQ below (va_Qi (fun r (u : St) => (r, u) = v) (fun u t => va_P D classes (Wc ty h u px) t.heap) A) args s 0 0 A) (F0 m 9 ls []) := by
    intro H locs ls x1 x2 x3 σ hv hk hl hP hD hS
    unfold f_CL_joinMeaning_9 at hv
    unfold k_CL_joinMeaning_9 at hk
    refine lv_aload_n hx hb d_CL_joinMeaning_9 rfl (lv_at hl 0 rfl) ?_
    refine va_get (v := .ref (h 6)) (C := R_CL) (T := T_CL) (N := 11) hx hb hg in_CL hown hK hP 0 rfl rfl 1 (by decide) (hg _ m_285) (fun _ h9 => h9) rfl d_CL_joinMeaning_10 ?_
    refine lv_iload_n hx hb d_CL_joinMeaning_13 rfl (lv_at hl 1 rfl) ?_
    obtain ⟨hk0, hk⟩ := hk
    refine zz_callV (va_runV (As := [.int x1]) (rest := []) ⟨hx, hb, hml, hown, hg⟩ (c_Te_secondOf l D ty h px sa σ x1 hk0) ⟨callB_of 1 hg (gw_C m_451) rfl rfl rfl (hg _ m_3) (hg _ m_448) hd_Te_secondOf ⟨Nat.le_of_ble_eq_true rfl, Nat.le_of_ble_eq_true rfl⟩, hg _ m_449, hg _ m_450⟩ (zz_preV (hM.at hS) hN hK hP 6 rfl rfl) rfl rfl hl.1 rfl (lv_room (Nat.le_of_ble_eq_true rfl)) d_CL_joinMeaning_14 ⟨Nat.le_of_ble_eq_true rfl, Nat.le_of_ble_eq_true rfl⟩) ?_
    refine lv_istore (lv' := [(4, .int (f_Te_secondOf x1 σ)), (0, .ref (h 0)), (1, .int x1), (2, .int x2), (3, .int x3)]) hx hb d_CL_joinMeaning_17 hl (by decide) rfl (fun ls hl => ?_)
    exact B19 _ _ _ x1 x2 x3 (f_Te_secondOf x1 σ) σ hv hk (lv_sub hl [1, 2, 3, 4, 0] rfl) hP hD hS
  unfold f_CL_joinMeaning at hv
  unfold k_CL_joinMeaning at hk
  refine lv_aload_n hx hb d_CL_joinMeaning_0 rfl (lv_at hl 0 rfl) ?_
  refine va_get (v := .ref (h 6)) (C := R_CL) (T := T_CL) (N := 11) hx hb hg in_CL hown hK hP 0 rfl rfl 1 (by decide) (hg _ m_285) (fun _ h9 => h9) rfl d_CL_joinMeaning_1 ?_
  refine lv_iload_n hx hb d_CL_joinMeaning_4 rfl (lv_at hl 1 rfl) ?_
  obtain ⟨hk0, hk⟩ := hk
  refine zz_callV (va_runV (As := [.int a1]) (rest := []) ⟨hx, hb, hml, hown, hg⟩ (c_Te_firstOf l D ty h px sa σ a1 hk0) ⟨callB_of 1 hg (gw_C m_447) rfl rfl rfl (hg _ m_3) (hg _ m_444) hd_Te_firstOf ⟨Nat.le_of_ble_eq_true rfl, Nat.le_of_ble_eq_true rfl⟩, hg _ m_445, hg _ m_446⟩ (zz_preV (hM.at hS) hN hK hP 6 rfl rfl) rfl rfl hl.1 rfl (lv_room (Nat.le_of_ble_eq_true rfl)) d_CL_joinMeaning_5 ⟨Nat.le_of_ble_eq_true rfl, Nat.le_of_ble_eq_true rfl⟩) ?_
  refine lv_istore_n (lv' := [(3, .int (f_Te_firstOf a1 σ)), (0, .ref (h 0)), (1, .int a1), (2, .int a2)]) hx hb d_CL_joinMeaning_8 rfl hl (by decide) rfl (fun ls hl => ?_)
  exact B9 _ _ _ a1 a2 (f_Te_firstOf a1 σ) σ hv hk (lv_sub hl [1, 2, 3, 0] rfl) hP hD hS

-- ClauseLedger.meaning(II)I
abbrev b_CL_meaning : ByteArray := prog_1_method_10_code
def y_CL_meaning : MethodName := ⟨"ClauseLedger", "meaning", "(II)I"⟩
theorem hd_CL_meaning : y_CL_meaning.cls ≠ "java/lang/invoke/MethodHandle" ∧ y_CL_meaning.cls ≠ "java/lang/invoke/VarHandle" ∧ (parseMethodDescriptor y_CL_meaning.desc).map (fun d => d.parameters.length) = some 2 := by decide +kernel
theorem d_CL_meaning_0 : decode b_CL_meaning 0 = .ok (.aload_n 0, 1) := by decide +kernel
theorem d_CL_meaning_1 : decode b_CL_meaning 1 = .ok (.invokevirtual 102, 3) := by decide +kernel
theorem d_CL_meaning_4 : decode b_CL_meaning 4 = .ok (.ifCond .eq 5, 3) := by decide +kernel
theorem d_CL_meaning_7 : decode b_CL_meaning 7 = .ok (.iconst (-1), 1) := by decide +kernel
theorem d_CL_meaning_8 : decode b_CL_meaning 8 = .ok (.ireturn, 1) := by decide +kernel
theorem d_CL_meaning_9 : decode b_CL_meaning 9 = .ok (.aload_n 0, 1) := by decide +kernel
theorem d_CL_meaning_10 : decode b_CL_meaning 10 = .ok (.getfield 19, 3) := by decide +kernel
theorem d_CL_meaning_13 : decode b_CL_meaning 13 = .ok (.iload_n 1, 1) := by decide +kernel
theorem d_CL_meaning_14 : decode b_CL_meaning 14 = .ok (.invokevirtual 130, 3) := by decide +kernel
theorem d_CL_meaning_17 : decode b_CL_meaning 17 = .ok (.ifCond .ne 8, 3) := by decide +kernel
theorem d_CL_meaning_20 : decode b_CL_meaning 20 = .ok (.aload_n 0, 1) := by decide +kernel
theorem d_CL_meaning_21 : decode b_CL_meaning 21 = .ok (.invokevirtual 134, 3) := by decide +kernel
theorem d_CL_meaning_24 : decode b_CL_meaning 24 = .ok (.ireturn, 1) := by decide +kernel
theorem d_CL_meaning_25 : decode b_CL_meaning 25 = .ok (.aload_n 0, 1) := by decide +kernel
theorem d_CL_meaning_26 : decode b_CL_meaning 26 = .ok (.getfield 65, 3) := by decide +kernel
theorem d_CL_meaning_29 : decode b_CL_meaning 29 = .ok (.invokevirtual 140, 3) := by decide +kernel
theorem d_CL_meaning_32 : decode b_CL_meaning 32 = .ok (.aload_n 0, 1) := by decide +kernel
theorem d_CL_meaning_33 : decode b_CL_meaning 33 = .ok (.iload_n 1, 1) := by decide +kernel
theorem d_CL_meaning_34 : decode b_CL_meaning 34 = .ok (.iload_n 2, 1) := by decide +kernel
theorem d_CL_meaning_35 : decode b_CL_meaning 35 = .ok (.invokevirtual 166, 3) := by decide +kernel
theorem d_CL_meaning_38 : decode b_CL_meaning 38 = .ok (.ifCond .ne 8, 3) := by decide +kernel
theorem d_CL_meaning_41 : decode b_CL_meaning 41 = .ok (.aload_n 0, 1) := by decide +kernel
theorem d_CL_meaning_42 : decode b_CL_meaning 42 = .ok (.invokevirtual 112, 3) := by decide +kernel
theorem d_CL_meaning_45 : decode b_CL_meaning 45 = .ok (.ireturn, 1) := by decide +kernel
theorem d_CL_meaning_46 : decode b_CL_meaning 46 = .ok (.aload_n 0, 1) := by decide +kernel
theorem d_CL_meaning_47 : decode b_CL_meaning 47 = .ok (.aload_n 0, 1) := by decide +kernel
theorem d_CL_meaning_48 : decode b_CL_meaning 48 = .ok (.getfield 72, 3) := by decide +kernel
theorem d_CL_meaning_51 : decode b_CL_meaning 51 = .ok (.invokevirtual 145, 3) := by decide +kernel
theorem d_CL_meaning_54 : decode b_CL_meaning 54 = .ok (.iconst 0, 1) := by decide +kernel
theorem d_CL_meaning_55 : decode b_CL_meaning 55 = .ok (.invokevirtual 148, 3) := by decide +kernel
theorem d_CL_meaning_58 : decode b_CL_meaning 58 = .ok (.ireturn, 1) := by decide +kernel
def f_CL_meaning_24 (s0 : Int32) (σ : St) : XR := (.inl s0, σ)
def k_CL_meaning_24 (s0 : Int32) (σ : St) : Prop := True
def f_CL_meaning_45 (s0 : Int32) (σ : St) : XR := (.inl s0, σ)
def k_CL_meaning_45 (s0 : Int32) (σ : St) : Prop := True
def f_CL_meaning_58 (s0 : Int32) (σ : St) : XR := (.inl s0, σ)
def k_CL_meaning_58 (s0 : Int32) (σ : St) : Prop := True
def f_CL_meaning_38 (s0 : Int32) (σ : St) : XR := if s0 = 0 then (xb (f_CL_throwWrong σ) (fun x u => f_CL_meaning_45 x u)) else (xb (f_CL_enterRow (f_Sc_innermost σ) 0 σ) (fun x u => f_CL_meaning_58 x u))
def k_CL_meaning_38 (s0 : Int32) (σ : St) : Prop := (s0 = 0 → ((k_CL_throwWrong σ) ∧ (∀ x, (f_CL_throwWrong σ).1 = .inl x → (k_CL_meaning_45 x ((f_CL_throwWrong σ).2))))) ∧ (¬ s0 = 0 → ((k_Sc_innermost σ) ∧ ((k_CL_enterRow (f_Sc_innermost σ) 0 σ) ∧ (∀ x, (f_CL_enterRow (f_Sc_innermost σ) 0 σ).1 = .inl x → (k_CL_meaning_58 x ((f_CL_enterRow (f_Sc_innermost σ) 0 σ).2))))))
def f_CL_meaning_32 (x1 : Int32) (x2 : Int32) (σ : St) : XR := f_CL_meaning_38 ((f_CL_joinMeaning x1 x2 σ).1) ((f_CL_joinMeaning x1 x2 σ).2)
def k_CL_meaning_32 (x1 : Int32) (x2 : Int32) (σ : St) : Prop := (k_CL_joinMeaning x1 x2 σ) ∧ (k_CL_meaning_38 ((f_CL_joinMeaning x1 x2 σ).1) ((f_CL_joinMeaning x1 x2 σ).2))
def f_CL_meaning (a1 : Int32) (a2 : Int32) (σ : St) : XR := if (f_CL_isShut σ) = 0 then (if (f_Te_has a1 σ) = 0 then (xb (f_CL_throwMissing σ) (fun x u => f_CL_meaning_24 x u)) else (f_CL_meaning_32 a1 a2 (f_Ro_wipe σ))) else (.inl (-1), σ)
def k_CL_meaning (a1 : Int32) (a2 : Int32) (σ : St) : Prop := (k_CL_isShut σ) ∧ (((f_CL_isShut σ) = 0 → ((k_Te_has a1 σ) ∧ (((f_Te_has a1 σ) = 0 → ((k_CL_throwMissing σ) ∧ (∀ x, (f_CL_throwMissing σ).1 = .inl x → (k_CL_meaning_24 x ((f_CL_throwMissing σ).2))))) ∧ (¬ (f_Te_has a1 σ) = 0 → ((k_Ro_wipe σ) ∧ (k_CL_meaning_32 a1 a2 (f_Ro_wipe σ))))))) ∧ (¬ (f_CL_isShut σ) = 0 → True))
abbrev w_CL_meaning : List Cond := Cond.code y_CL_meaning b_CL_meaning 3 (some .int) :: gw
abbrev rm_CL_meaning : Room := { frames := 8, cells := 1, slots := 6, locals := 145 }
set_option maxHeartbeats 4000000 in
set_option maxRecDepth 100000 in
theorem c_CL_meaning (l : Launch) (hlt : l.stackTraces = false) (D : va_G) (ty : Nat → ClassId) (h : Nat → Nat) (px : va_W) (sa : Nat → Nat) (σ : St) (sz : Nat) (a1 : Int32) (a2 : Int32) (hk : k_CL_meaning a1 a2 σ) : xMet l y_CL_meaning w_CL_meaning rm_CL_meaning (va_Pc [.ref (h 0), .int a1, .int a2] (fun U => U.heap.size = sz ∧ va_P D classes (Wc ty h σ px) U.heap ∧ va_K D classes (Ta ty) U ∧ NW U ∧ XK sa (va_A (Wc ty h σ px) sz) U U.heap ∧ MK sa (va_A (Wc ty h σ px) sz) U U.heap ∧ va_D (fun _ => True) (Wc ty h σ px))) (Rx D classes (fun u => Wc ty h u px) (va_A (Wc ty h σ px) sz) (f_CL_meaning a1 a2 σ)) 1 6 (va_A (Wc ty h σ px) sz) := by
  refine xMet.ofW (cc := b_CL_meaning) (maxL := 3) (ret := (some .int)) (by decide) rfl ?_
  intro p e s m args below meth c s₁ B hml htab hv
  obtain ⟨ha, hsz, hP, hK, hN, hX, hM, hD0⟩ := hv
  have hx := B.exec
  have hb := B.bytes
  have hr := B.returns
  have hg : ∀ w ∈ gw, w.before args s = true := fun w h9 => atoms_spec (ws := w_CL_meaning) B.pre w (List.mem_cons_of_mem _ h9)
  have hown : s.vm.findClass "ClauseLedger" = some m.cls := findClass_of_methodNamed B.named
  have hlocks := B.notSynchronized
  subst hsz
  have hD := hD0.self (sz := s.heap.size)
  generalize hAe : va_A (Wc ty h σ px) s.heap.size = A at hD hM hX ⊢
  have hA : ∀ q : Nat, s.heap.size ≤ q → A q := fun q h9 => by rw [← hAe]; exact Or.inr h9
  have hS : va_S A s.heap s.heap [] := va_S.rf
  have he : entryFrame m args 3 = entryFrame m ([.ref (h 0), .int a1, .int a2] : List Value).toArray 3 := by rw [ha]
  rw [he, lg_entry_eq]
  have hl := lv_entry ([.ref (h 0), .int a1, .int a2]) (n := 3) (Nat.le_of_ble_eq_true rfl)
  generalize (lg_sl ([.ref (h 0), .int a1, .int a2]) ++ List.replicate (3 - (lg_sl ([.ref (h 0), .int a1, .int a2])).length) Slot.unset).toArray = ls at hl ⊢
  have hl : lv_has ls 3 [(0, .ref (h 0)), (1, .int a1), (2, .int a2)] := hl
  generalize hv : f_CL_meaning a1 a2 σ = v
  replace hv := hv.symm
  have B24 : ∀ (H : Heap) (locs : List Loc) (ls : Array Slot) (s0 : Int32) (σ : St), v = f_CL_meaning_24 s0 σ → k_CL_meaning_24 s0 σ → lv_has ls 3 [] → va_P D classes (Wc ty h σ px) H → va_D A (Wc ty h σ px) → va_S A s.heap H locs → W p l e (headSpec w_CL_meaning rm_CL_meaning).room s m args below meth c H locs 1 6 (xMQ below (Rx D classes (fun u => Wc ty h u px) A v) args s 1 6 A) (F0 m 24 ls [.int s0]) := by
    intro H locs ls s0 σ hv hk hl hP hD hS
    unfold f_CL_meaning_24 at hv
    unfold k_CL_meaning_24 at hk
    exact x_ret (fun o t hq => by obtain ⟨rfl, ht⟩ := hq; exact ⟨hS.F ht, by rw [ht, hv]; exact hP, _, rfl, by rw [hv]⟩) (Nat.le_of_ble_eq_true rfl) (Nat.le_of_ble_eq_true rfl) (W.iret (Qc := fun _ _ o t => o = .returned (some (.int s0)) ∧ t.heap = H) hx hb hr (fun t ht hW => ⟨rfl, ht⟩) hS.2.2 d_CL_meaning_24)
  have B45 : ∀ (H : Heap) (locs : List Loc) (ls : Array Slot) (s0 : Int32) (σ : St), v = f_CL_meaning_45 s0 σ → k_CL_meaning_45 s0 σ → lv_has ls 3 [] → va_P D classes (Wc ty h σ px) H → va_D A (Wc ty h σ px) → va_S A s.heap H locs → W p l e (headSpec w_CL_meaning rm_CL_meaning).room s m args below meth c H locs 1 6 (xMQ below (Rx D classes (fun u => Wc ty h u px) A v) args s 1 6 A) (F0 m 45 ls [.int s0]) := by
    intro H locs ls s0 σ hv hk hl hP hD hS
    unfold f_CL_meaning_45 at hv
    unfold k_CL_meaning_45 at hk
    exact x_ret (fun o t hq => by obtain ⟨rfl, ht⟩ := hq; exact ⟨hS.F ht, by rw [ht, hv]; exact hP, _, rfl, by rw [hv]⟩) (Nat.le_of_ble_eq_true rfl) (Nat.le_of_ble_eq_true rfl) (W.iret (Qc := fun _ _ o t => o = .returned (some (.int s0)) ∧ t.heap = H) hx hb hr (fun t ht hW => ⟨rfl, ht⟩) hS.2.2 d_CL_meaning_45)
  have B58 : ∀ (H : Heap) (locs : List Loc) (ls : Array Slot) (s0 : Int32) (σ : St), v = f_CL_meaning_58 s0 σ → k_CL_meaning_58 s0 σ → lv_has ls 3 [] → va_P D classes (Wc ty h σ px) H → va_D A (Wc ty h σ px) → va_S A s.heap H locs → W p l e (headSpec w_CL_meaning rm_CL_meaning).room s m args below meth c H locs 1 6 (xMQ below (Rx D classes (fun u => Wc ty h u px) A v) args s 1 6 A) (F0 m 58 ls [.int s0]) := by
    intro H locs ls s0 σ hv hk hl hP hD hS
    unfold f_CL_meaning_58 at hv
    unfold k_CL_meaning_58 at hk
    exact x_ret (fun o t hq => by obtain ⟨rfl, ht⟩ := hq; exact ⟨hS.F ht, by rw [ht, hv]; exact hP, _, rfl, by rw [hv]⟩) (Nat.le_of_ble_eq_true rfl) (Nat.le_of_ble_eq_true rfl) (W.iret (Qc := fun _ _ o t => o = .returned (some (.int s0)) ∧ t.heap = H) hx hb hr (fun t ht hW => ⟨rfl, ht⟩) hS.2.2 d_CL_meaning_58)
  have B38 : ∀ (H : Heap) (locs : List Loc) (ls : Array Slot) (s0 : Int32) (σ : St), v = f_CL_meaning_38 s0 σ → k_CL_meaning_38 s0 σ → lv_has ls 3 [(0, .ref (h 0))] → va_P D classes (Wc ty h σ px) H → va_D A (Wc ty h σ px) → va_S A s.heap H locs → W p l e (headSpec w_CL_meaning rm_CL_meaning).room s m args below meth c H locs 0 0 (xMQ below (Rx D classes (fun u => Wc ty h u px) A v) args s 1 6 A) (F0 m 38 ls [.int s0]) := by
    intro H locs ls s0 σ hv hk hl hP hD hS
    unfold f_CL_meaning_38 at hv
    unfold k_CL_meaning_38 at hk
    refine lv_if_ne (tgt := 46) hx hb d_CL_meaning_38 (by decide) (fun hc => ?_) (fun hc => ?_)
    · have hv := hv.trans (if_neg hc)
      have hk := hk.2 hc
      refine lv_aload_n hx hb d_CL_meaning_46 rfl (lv_at hl 0 rfl) ?_
      refine lv_aload_n hx hb d_CL_meaning_47 rfl (lv_at hl 0 rfl) ?_
      refine va_get (v := .ref (h 27)) (C := R_CL) (T := T_CL) (N := 11) hx hb hg in_CL hown hK hP 0 rfl rfl 8 (by decide) (hg _ m_292) (fun _ h9 => h9) rfl d_CL_meaning_48 ?_
      obtain ⟨hk0, hk⟩ := hk
      refine zz_callV (va_runV (As := []) (rest := [.ref (h 0)]) ⟨hx, hb, hml, hown, hg⟩ (c_Sc_innermost l D ty h px sa σ  hk0) ⟨callB_of 0 hg (gw_C m_943) rfl rfl rfl (hg _ m_11) (hg _ m_940) hd_Sc_innermost ⟨Nat.le_of_ble_eq_true rfl, Nat.le_of_ble_eq_true rfl⟩, hg _ m_941, hg _ m_942⟩ (zz_preV (hM.at hS) hN hK hP 27 rfl rfl) rfl rfl hl.1 rfl (lv_room (Nat.le_of_ble_eq_true rfl)) d_CL_meaning_51 ⟨Nat.le_of_ble_eq_true rfl, Nat.le_of_ble_eq_true rfl⟩) ?_
      refine lv_iconst (v := 0) hx hb d_CL_meaning_54 (by decide) ?_
      obtain ⟨hk0, hk⟩ := hk
      refine x_callV (As := [.int (f_Sc_innermost σ), .int 0]) (rest := []) ⟨hx, hb, hml, hown, hg⟩ (c_CL_enterRow l hlt D ty h px sa σ H.size (f_Sc_innermost σ) 0 hk0) ⟨callB_of 2 hg (gw_C m_947) rfl rfl rfl (hg _ m_1) (hg _ m_944) hd_CL_enterRow ⟨Nat.le_of_ble_eq_true rfl, Nat.le_of_ble_eq_true rfl⟩, hg _ m_946, hg _ ms_30⟩ (zz_preX hM hN hX hS hA hK hP hD 0 rfl rfl) rfl hl.1 rfl (Nat.le_of_ble_eq_true rfl) d_CL_meaning_55 ⟨Nat.le_of_ble_eq_true rfl, Nat.le_of_ble_eq_true rfl⟩ (fun r9 st9 t9 L9 h09 hal9 hR9 hL9 => ?_) (fun q9 st9 t9 L9 h09 h19 hal9 hR9 hL9 => ?_)
      · obtain ⟨hF9, hP9, x, rfl, hz9⟩ := hR9
        have hv := hv.trans (xb_l hz9)
        have hk := hk _ hz9
        have hS := zz_xS hS h09 hF9 (zz_free hD hS hA) hL9
        have hD : va_D A (Wc ty h (f_CL_enterRow (f_Sc_innermost σ) 0 σ).2 px) := zz_D hD rfl
        exact B58 _ _ _ x (f_CL_enterRow (f_Sc_innermost σ) 0 σ).2 hv hk (lv_sub hl [] rfl) hP9 hD hS
      · obtain ⟨hF9, hP9, E9, ce9, hz9, hq9, hn9, hc9⟩ := hR9
        have hv := hv.trans (xb_r hz9)
        have hS := zz_xS hS h09 hF9 (zz_free hD hS hA) hL9
        exact x_out htab hlocks (fun t ht hal => ⟨hS.F ht, by rw [ht, hv]; exact hP9, E9, ce9, by rw [hv], by rw [ht]; exact hq9, hn9, by rw [h19.findClass]; exact hc9⟩) hS.2.2 (Nat.le_of_ble_eq_true rfl) (Nat.le_of_ble_eq_true rfl)
    · have hv := hv.trans (if_pos hc)
      have hk := hk.1 hc
      refine lv_aload_n hx hb d_CL_meaning_41 rfl (lv_at hl 0 rfl) ?_
      obtain ⟨hk0, hk⟩ := hk
      refine x_callV (As := []) (rest := []) ⟨hx, hb, hml, hown, hg⟩ (c_CL_throwWrong l hlt D ty h px sa σ H.size  hk0) ⟨callB_of 0 hg (gw_C m_774) rfl rfl rfl (hg _ m_1) (hg _ m_771) hd_CL_throwWrong ⟨Nat.le_of_ble_eq_true rfl, Nat.le_of_ble_eq_true rfl⟩, hg _ m_773, hg _ ms_24⟩ (zz_preX hM hN hX hS hA hK hP hD 0 rfl rfl) rfl hl.1 rfl (Nat.le_of_ble_eq_true rfl) d_CL_meaning_42 ⟨Nat.le_of_ble_eq_true rfl, Nat.le_of_ble_eq_true rfl⟩ (fun r9 st9 t9 L9 h09 hal9 hR9 hL9 => ?_) (fun q9 st9 t9 L9 h09 h19 hal9 hR9 hL9 => ?_)
      · obtain ⟨hF9, hP9, x, rfl, hz9⟩ := hR9
        have hv := hv.trans (xb_l hz9)
        have hk := hk _ hz9
        have hS := zz_xS hS h09 hF9 (zz_free hD hS hA) hL9
        have hD : va_D A (Wc ty h (f_CL_throwWrong σ).2 px) := zz_D hD rfl
        exact B45 _ _ _ x (f_CL_throwWrong σ).2 hv hk (lv_sub hl [] rfl) hP9 hD hS
      · obtain ⟨hF9, hP9, E9, ce9, hz9, hq9, hn9, hc9⟩ := hR9
        have hv := hv.trans (xb_r hz9)
        have hS := zz_xS hS h09 hF9 (zz_free hD hS hA) hL9
        exact x_out htab hlocks (fun t ht hal => ⟨hS.F ht, by rw [ht, hv]; exact hP9, E9, ce9, by rw [hv], by rw [ht]; exact hq9, hn9, by rw [h19.findClass]; exact hc9⟩) hS.2.2 (Nat.le_of_ble_eq_true rfl) (Nat.le_of_ble_eq_true rfl)
  have B32 : ∀ (H : Heap) (locs : List Loc) (ls : Array Slot) (x1 : Int32) (x2 : Int32) (σ : St), v = f_CL_meaning_32 x1 x2 σ → k_CL_meaning_32 x1 x2 σ → lv_has ls 3 [(0, .ref (h 0)), (1, .int x1), (2, .int x2)] → va_P D classes (Wc ty h σ px) H → va_D A (Wc ty h σ px) → va_S A s.heap H locs → W p l e (headSpec w_CL_meaning rm_CL_meaning).room s m args below meth c H locs 0 0 (xMQ below (Rx D classes (fun u => Wc ty h u px) A v) args s 1 6 A) (F0 m 32 ls []) := by
    intro H locs ls x1 x2 σ hv hk hl hP hD hS
    unfold f_CL_meaning_32 at hv
    unfold k_CL_meaning_32 at hk
    refine lv_aload_n hx hb d_CL_meaning_32 rfl (lv_at hl 0 rfl) ?_
    refine lv_iload_n hx hb d_CL_meaning_33 rfl (lv_at hl 1 rfl) ?_
    refine lv_iload_n hx hb d_CL_meaning_34 rfl (lv_at hl 2 rfl) ?_
    obtain ⟨hk0, hk⟩ := hk
    refine va_calli (va_runV (As := [.int x1, .int x2]) (rest := []) ⟨hx, hb, hml, hown, hg⟩ (c_CL_joinMeaning l D ty h px sa σ H.size x1 x2 hk0) ⟨callB_of 2 hg (gw_C m_1006) rfl rfl rfl (hg _ m_1) (hg _ m_1003) hd_CL_joinMeaning ⟨Nat.le_of_ble_eq_true rfl, Nat.le_of_ble_eq_true rfl⟩, hg _ m_1005, hg _ ms_32⟩ (zz_preVW hM hS hA hN hK hP hD 0 rfl rfl) rfl rfl hl.1 rfl (lv_room (Nat.le_of_ble_eq_true rfl)) d_CL_meaning_35 ⟨Nat.le_of_ble_eq_true rfl, Nat.le_of_ble_eq_true rfl⟩) hS (fun q _ h => zz_free hD hS hA q h) (zz_free hD hS hA) (fun r35 u35 t H locs ht hvm hp hP1 hz hk1 hS => ?_)
    rw [ht] at hP1
    rw [← hp] at hv hk
    have hD : va_D A (Wc ty h u35 px) := zz_D hD rfl
    have hP := hP1
    exact B38 _ _ _ r35 u35 hv hk (lv_sub hl [0] rfl) hP hD hS
  unfold f_CL_meaning at hv
  unfold k_CL_meaning at hk
  refine lv_aload_n hx hb d_CL_meaning_0 rfl (lv_at hl 0 rfl) ?_
  obtain ⟨hk0, hk⟩ := hk
  refine zz_callV (va_runV (As := []) (rest := []) ⟨hx, hb, hml, hown, hg⟩ (c_CL_isShut l D ty h px sa σ  hk0) ⟨callB_of 0 hg (gw_C m_571) rfl rfl rfl (hg _ m_1) (hg _ m_568) hd_CL_isShut ⟨Nat.le_of_ble_eq_true rfl, Nat.le_of_ble_eq_true rfl⟩, hg _ m_570, hg _ ms_8⟩ (zz_preV (hM.at hS) hN hK hP 0 rfl rfl) rfl rfl hl.1 rfl (lv_room (Nat.le_of_ble_eq_true rfl)) d_CL_meaning_1 ⟨Nat.le_of_ble_eq_true rfl, Nat.le_of_ble_eq_true rfl⟩) ?_
  refine lv_if_eq (tgt := 9) hx hb d_CL_meaning_4 (by decide) (fun hc => ?_) (fun hc => ?_)
  · have hv := hv.trans (if_pos hc)
    have hk := hk.1 hc
    refine lv_aload_n hx hb d_CL_meaning_9 rfl (lv_at hl 0 rfl) ?_
    refine va_get (v := .ref (h 6)) (C := R_CL) (T := T_CL) (N := 11) hx hb hg in_CL hown hK hP 0 rfl rfl 1 (by decide) (hg _ m_285) (fun _ h9 => h9) rfl d_CL_meaning_10 ?_
    refine lv_iload_n hx hb d_CL_meaning_13 rfl (lv_at hl 1 rfl) ?_
    obtain ⟨hk0, hk⟩ := hk
    refine zz_callV (va_runV (As := [.int a1]) (rest := []) ⟨hx, hb, hml, hown, hg⟩ (c_Te_has l D ty h px sa σ a1 hk0) ⟨callB_of 1 hg (gw_C m_430) rfl rfl rfl (hg _ m_3) (hg _ m_427) hd_Te_has ⟨Nat.le_of_ble_eq_true rfl, Nat.le_of_ble_eq_true rfl⟩, hg _ m_428, hg _ m_429⟩ (zz_preV (hM.at hS) hN hK hP 6 rfl rfl) rfl rfl hl.1 rfl (lv_room (Nat.le_of_ble_eq_true rfl)) d_CL_meaning_14 ⟨Nat.le_of_ble_eq_true rfl, Nat.le_of_ble_eq_true rfl⟩) ?_
    refine lv_if_ne (tgt := 25) hx hb d_CL_meaning_17 (by decide) (fun hc => ?_) (fun hc => ?_)
    · have hv := hv.trans (if_neg hc)
      have hk := hk.2 hc
      refine lv_aload_n hx hb d_CL_meaning_25 rfl (lv_at hl 0 rfl) ?_
      refine va_get (v := .ref (h 25)) (C := R_CL) (T := T_CL) (N := 11) hx hb hg in_CL hown hK hP 0 rfl rfl 7 (by decide) (hg _ m_291) (fun _ h9 => h9) rfl d_CL_meaning_26 ?_
      obtain ⟨hk0, hk⟩ := hk
      refine va_callv (va_runV (As := []) (rest := []) ⟨hx, hb, hml, hown, hg⟩ (c_Ro_wipe l D ty h px sa σ s.heap.size  hk0) ⟨callB_of 0 hg (gw_C m_935) rfl rfl rfl (hg _ m_10) (hg _ m_932) hd_Ro_wipe ⟨Nat.le_of_ble_eq_true rfl, Nat.le_of_ble_eq_true rfl⟩, hg _ m_933, hg _ m_934⟩ (zz_preVW hM hS hA hN hK hP hD 25 rfl rfl) rfl rfl hl.1 rfl (lv_room (Nat.le_of_ble_eq_true rfl)) d_CL_meaning_29 ⟨Nat.le_of_ble_eq_true rfl, Nat.le_of_ble_eq_true rfl⟩) hS (fun q _ h => zz_free hD hS hA q h) (zz_free hD hS hA) (fun u29 t H locs ht hvm hp hP1 hz hk1 hS => ?_)
      rw [ht] at hP1
      rw [← hp] at hv hk
      have hD : va_D A (Wc ty h u29 px) := zz_D hD rfl
      have hP := hP1
      exact B32 _ _ _ a1 a2 u29 hv hk (lv_sub hl [0, 1, 2] rfl) hP hD hS
    · have hv := hv.trans (if_pos hc)
      have hk := hk.1 hc
      refine lv_aload_n hx hb d_CL_meaning_20 rfl (lv_at hl 0 rfl) ?_
      obtain ⟨hk0, hk⟩ := hk
      refine x_callV (As := []) (rest := []) ⟨hx, hb, hml, hown, hg⟩ (c_CL_throwMissing l hlt D ty h px sa σ s.heap.size  hk0) ⟨callB_of 0 hg (gw_C m_914) rfl rfl rfl (hg _ m_1) (hg _ m_911) hd_CL_throwMissing ⟨Nat.le_of_ble_eq_true rfl, Nat.le_of_ble_eq_true rfl⟩, hg _ m_913, hg _ ms_29⟩ (zz_preX hM hN hX hS hA hK hP hD 0 rfl rfl) rfl hl.1 rfl (Nat.le_of_ble_eq_true rfl) d_CL_meaning_21 ⟨Nat.le_of_ble_eq_true rfl, Nat.le_of_ble_eq_true rfl⟩ (fun r9 st9 t9 L9 h09 hal9 hR9 hL9 => ?_) (fun q9 st9 t9 L9 h09 h19 hal9 hR9 hL9 => ?_)
      · obtain ⟨hF9, hP9, x, rfl, hz9⟩ := hR9
        have hv := hv.trans (xb_l hz9)
        have hk := hk _ hz9
        have hS := zz_xS hS h09 hF9 (zz_free hD hS hA) hL9
        have hD : va_D A (Wc ty h (f_CL_throwMissing σ).2 px) := zz_D hD rfl
        exact B24 _ _ _ x (f_CL_throwMissing σ).2 hv hk (lv_sub hl [] rfl) hP9 hD hS
      · obtain ⟨hF9, hP9, E9, ce9, hz9, hq9, hn9, hc9⟩ := hR9
        have hv := hv.trans (xb_r hz9)
        have hS := zz_xS hS h09 hF9 (zz_free hD hS hA) hL9
        exact x_out htab hlocks (fun t ht hal => ⟨hS.F ht, by rw [ht, hv]; exact hP9, E9, ce9, by rw [hv], by rw [ht]; exact hq9, hn9, by rw [h19.findClass]; exact hc9⟩) hS.2.2 (Nat.le_of_ble_eq_true rfl) (Nat.le_of_ble_eq_true rfl)
  · have hv := hv.trans (if_neg hc)
    have hk := hk.2 hc
    refine lv_iconst (v := -1) hx hb d_CL_meaning_7 (by decide) ?_
    exact x_ret (fun o t hq => by obtain ⟨rfl, ht⟩ := hq; exact ⟨hS.F ht, by rw [ht, hv]; exact hP, _, rfl, by rw [hv]⟩) (Nat.le_of_ble_eq_true rfl) (Nat.le_of_ble_eq_true rfl) (W.iret (Qc := fun _ _ o t => o = .returned (some (.int (-1))) ∧ t.heap = s.heap) hx hb hr (fun t ht hW => ⟨rfl, ht⟩) hS.2.2 d_CL_meaning_8)

