-- jdk/internal/util/Preconditions.checkIndex(IILjava/util/function/BiFunction;)I
abbrev b_JPn_checkIndex : ByteArray := prog_29_method_11_code
def y_JPn_checkIndex : MethodName := ⟨"jdk/internal/util/Preconditions", "checkIndex", "(IILjava/util/function/BiFunction;)I"⟩
theorem hd_JPn_checkIndex : y_JPn_checkIndex.cls ≠ "java/lang/invoke/MethodHandle" ∧ y_JPn_checkIndex.cls ≠ "java/lang/invoke/VarHandle" ∧ (parseMethodDescriptor y_JPn_checkIndex.desc).map (fun d => d.parameters.length) = some 3 := by decide +kernel
theorem d_JPn_checkIndex_0 : decode b_JPn_checkIndex 0 = .ok (.iload_n 0, 1) := by decide +kernel
theorem d_JPn_checkIndex_1 : decode b_JPn_checkIndex 1 = .ok (.ifCond .lt 8, 3) := by decide +kernel
theorem d_JPn_checkIndex_4 : decode b_JPn_checkIndex 4 = .ok (.iload_n 0, 1) := by decide +kernel
theorem d_JPn_checkIndex_5 : decode b_JPn_checkIndex 5 = .ok (.iload_n 1, 1) := by decide +kernel
theorem d_JPn_checkIndex_6 : decode b_JPn_checkIndex 6 = .ok (.if_icmp .lt 10, 3) := by decide +kernel
theorem d_JPn_checkIndex_9 : decode b_JPn_checkIndex 9 = .ok (.aload_n 2, 1) := by decide +kernel
theorem d_JPn_checkIndex_10 : decode b_JPn_checkIndex 10 = .ok (.iload_n 0, 1) := by decide +kernel
theorem d_JPn_checkIndex_11 : decode b_JPn_checkIndex 11 = .ok (.iload_n 1, 1) := by decide +kernel
theorem d_JPn_checkIndex_12 : decode b_JPn_checkIndex 12 = .ok (.invokestatic 95, 3) := by decide +kernel
theorem d_JPn_checkIndex_15 : decode b_JPn_checkIndex 15 = .ok (.athrow, 1) := by decide +kernel
theorem d_JPn_checkIndex_16 : decode b_JPn_checkIndex 16 = .ok (.iload_n 0, 1) := by decide +kernel
theorem d_JPn_checkIndex_17 : decode b_JPn_checkIndex 17 = .ok (.ireturn, 1) := by decide +kernel
def f_JPn_checkIndex_9 (x0 : Int32) (x1 : Int32) (σ : St) : Int32 := 0
def k_JPn_checkIndex_9 (x0 : Int32) (x1 : Int32) (σ : St) : Prop := False
def f_JPn_checkIndex (a0 : Int32) (a1 : Int32) (σ : St) : Int32 := if a0 < 0 then (f_JPn_checkIndex_9 a0 a1 σ) else (if a0 < a1 then a0 else (f_JPn_checkIndex_9 a0 a1 σ))
def k_JPn_checkIndex (a0 : Int32) (a1 : Int32) (σ : St) : Prop := (a0 < 0 → (k_JPn_checkIndex_9 a0 a1 σ)) ∧ (¬ a0 < 0 → ((a0 < a1 → True) ∧ (¬ a0 < a1 → (k_JPn_checkIndex_9 a0 a1 σ))))
abbrev w_JPn_checkIndex : List Cond := Cond.code y_JPn_checkIndex b_JPn_checkIndex 3 (some .int) :: gw
abbrev rm_JPn_checkIndex : Room := { frames := 1, cells := 0, slots := 0, locals := 40 }
set_option maxHeartbeats 4000000 in
set_option maxRecDepth 100000 in
theorem c_JPn_checkIndex (l : Launch) (D : va_G) (ty : Nat → ClassId) (h : Nat → Nat) (px : va_W) (sa : Nat → Nat) (σ : St) (a0 : Int32) (a1 : Int32) (hk : k_JPn_checkIndex a0 a1 σ) : Met l y_JPn_checkIndex w_JPn_checkIndex rm_JPn_checkIndex (va_Pc [.int a0, .int a1, .null] (fun U => va_P D classes (Wc ty h σ px) U.heap ∧ va_K D classes (Ta ty) U ∧ NW U ∧ MK sa (fun _ => False) U U.heap)) (k2_QcV (.int (f_JPn_checkIndex a0 a1 σ))) 0 0 (fun _ => False) := by
  refine Met.ofWF (cc := b_JPn_checkIndex) (maxL := 3) (ret := (some .int)) (by decide +kernel) rfl ?_
  intro p e s m args below meth c s₁ B hml hv
  obtain ⟨ha, hP, hK, hN, hM⟩ := hv
  have hx := B.exec
  have hb := B.bytes
  have hr := B.returns
  have hg : ∀ w ∈ gw, w.before args s = true := fun w h9 => atoms_spec (ws := w_JPn_checkIndex) B.pre w (List.mem_cons_of_mem _ h9)
  have hown : s.vm.findClass "jdk/internal/util/Preconditions" = some m.cls := findClass_of_methodNamed B.named
  have hlocks := B.notSynchronized
  have he : entryFrame m args 3 = entryFrame m ([.int a0, .int a1, .null] : List Value).toArray 3 := by rw [ha]
  rw [he, lg_entry_eq]
  have hl := lv_entry ([.int a0, .int a1, .null]) (n := 3) (Nat.le_of_ble_eq_true rfl)
  generalize (lg_sl ([.int a0, .int a1, .null]) ++ List.replicate (3 - (lg_sl ([.int a0, .int a1, .null])).length) Slot.unset).toArray = ls at hl ⊢
  have hl : lv_has ls 3 [(0, .int a0), (1, .int a1), (2, .null)] := hl
  generalize hv : f_JPn_checkIndex a0 a1 σ = v
  replace hv := hv.symm
  have B9 : ∀ (ls : Array Slot) (x0 : Int32) (x1 : Int32), v = f_JPn_checkIndex_9 x0 x1 σ → k_JPn_checkIndex_9 x0 x1 σ → lv_has ls 3 [(0, .int x0), (1, .int x1), (2, .null)] → W p l e (headSpec w_JPn_checkIndex rm_JPn_checkIndex).room s m args below meth c s.heap [] 0 0 (MQ below (k2_QcV (.int v)) args s 0 0 (fun _ => False)) (F0 m 9 ls []) := by
    intro ls x0 x1 hv hk hl
    unfold f_JPn_checkIndex_9 at hv
    unfold k_JPn_checkIndex_9 at hk
    exact hk.elim
  unfold f_JPn_checkIndex at hv
  unfold k_JPn_checkIndex at hk
  refine lv_iload_n hx hb d_JPn_checkIndex_0 rfl (lv_at hl 0 rfl) ?_
  refine lv_if_lt (tgt := 9) hx hb d_JPn_checkIndex_1 (by decide) (fun hc => ?_) (fun hc => ?_)
  · have hv := hv.trans (if_pos hc)
    have hk := hk.1 hc
    exact B9 _ a0 a1 hv hk (lv_sub hl [0, 1, 2] rfl)
  · have hv := hv.trans (if_neg hc)
    have hk := hk.2 hc
    refine lv_iload_n hx hb d_JPn_checkIndex_4 rfl (lv_at hl 0 rfl) ?_
    refine lv_iload_n hx hb d_JPn_checkIndex_5 rfl (lv_at hl 1 rfl) ?_
    refine lv_icmp_lt (tgt := 16) hx hb d_JPn_checkIndex_6 (by decide) (fun hc => ?_) (fun hc => ?_)
    · have hv := hv.trans (if_pos hc)
      have hk := hk.1 hc
      refine lv_iload_n hx hb d_JPn_checkIndex_16 rfl (lv_at hl 0 rfl) ?_
      exact W.iret hx hb hr (fun t ht hW => ⟨by rw [hv], ht⟩) (fun q h => nomatch h) d_JPn_checkIndex_17
    · have hv := hv.trans (if_neg hc)
      have hk := hk.2 hc
      exact B9 _ a0 a1 hv hk (lv_sub hl [0, 1, 2] rfl)

-- jdk/internal/util/Preconditions.checkIndex(IILjava/util/function/BiFunction;)I
abbrev b_JPb_checkIndex : ByteArray := prog_29_method_11_code
def y_JPb_checkIndex : MethodName := ⟨"jdk/internal/util/Preconditions", "checkIndex", "(IILjava/util/function/BiFunction;)I"⟩
theorem hd_JPb_checkIndex : y_JPb_checkIndex.cls ≠ "java/lang/invoke/MethodHandle" ∧ y_JPb_checkIndex.cls ≠ "java/lang/invoke/VarHandle" ∧ (parseMethodDescriptor y_JPb_checkIndex.desc).map (fun d => d.parameters.length) = some 3 := by decide +kernel
theorem d_JPb_checkIndex_0 : decode b_JPb_checkIndex 0 = .ok (.iload_n 0, 1) := by decide +kernel
theorem d_JPb_checkIndex_1 : decode b_JPb_checkIndex 1 = .ok (.ifCond .lt 8, 3) := by decide +kernel
theorem d_JPb_checkIndex_4 : decode b_JPb_checkIndex 4 = .ok (.iload_n 0, 1) := by decide +kernel
theorem d_JPb_checkIndex_5 : decode b_JPb_checkIndex 5 = .ok (.iload_n 1, 1) := by decide +kernel
theorem d_JPb_checkIndex_6 : decode b_JPb_checkIndex 6 = .ok (.if_icmp .lt 10, 3) := by decide +kernel
theorem d_JPb_checkIndex_9 : decode b_JPb_checkIndex 9 = .ok (.aload_n 2, 1) := by decide +kernel
theorem d_JPb_checkIndex_10 : decode b_JPb_checkIndex 10 = .ok (.iload_n 0, 1) := by decide +kernel
theorem d_JPb_checkIndex_11 : decode b_JPb_checkIndex 11 = .ok (.iload_n 1, 1) := by decide +kernel
theorem d_JPb_checkIndex_12 : decode b_JPb_checkIndex 12 = .ok (.invokestatic 95, 3) := by decide +kernel
theorem d_JPb_checkIndex_15 : decode b_JPb_checkIndex 15 = .ok (.athrow, 1) := by decide +kernel
theorem d_JPb_checkIndex_16 : decode b_JPb_checkIndex 16 = .ok (.iload_n 0, 1) := by decide +kernel
theorem d_JPb_checkIndex_17 : decode b_JPb_checkIndex 17 = .ok (.ireturn, 1) := by decide +kernel
def f_JPb_checkIndex_9 (x0 : Int32) (x1 : Int32) (σ : St) : Int32 := 0
def k_JPb_checkIndex_9 (x0 : Int32) (x1 : Int32) (σ : St) : Prop := False
def f_JPb_checkIndex (a0 : Int32) (a1 : Int32) (σ : St) : Int32 := if a0 < 0 then (f_JPb_checkIndex_9 a0 a1 σ) else (if a0 < a1 then a0 else (f_JPb_checkIndex_9 a0 a1 σ))
def k_JPb_checkIndex (a0 : Int32) (a1 : Int32) (σ : St) : Prop := (a0 < 0 → (k_JPb_checkIndex_9 a0 a1 σ)) ∧ (¬ a0 < 0 → ((a0 < a1 → True) ∧ (¬ a0 < a1 → (k_JPb_checkIndex_9 a0 a1 σ))))
abbrev w_JPb_checkIndex : List Cond := Cond.code y_JPb_checkIndex b_JPb_checkIndex 3 (some .int) :: gw
abbrev rm_JPb_checkIndex : Room := { frames := 1, cells := 0, slots := 0, locals := 40 }
set_option maxHeartbeats 4000000 in
set_option maxRecDepth 100000 in
theorem c_JPb_checkIndex (l : Launch) (D : va_G) (ty : Nat → ClassId) (h : Nat → Nat) (px : va_W) (sa : Nat → Nat) (bt : Nat) (σ : St) (a0 : Int32) (a1 : Int32) (hk : k_JPb_checkIndex a0 a1 σ) : Met l y_JPb_checkIndex w_JPb_checkIndex rm_JPb_checkIndex (va_Pc [.int a0, .int a1, .ref bt] (fun U => va_P D classes (Wc ty h σ px) U.heap ∧ va_K D classes (Ta ty) U ∧ NW U ∧ MK sa (fun _ => False) U U.heap)) (k2_QcV (.int (f_JPb_checkIndex a0 a1 σ))) 0 0 (fun _ => False) := by
  refine Met.ofWF (cc := b_JPb_checkIndex) (maxL := 3) (ret := (some .int)) (by decide +kernel) rfl ?_
  intro p e s m args below meth c s₁ B hml hv
  obtain ⟨ha, hP, hK, hN, hM⟩ := hv
  have hx := B.exec
  have hb := B.bytes
  have hr := B.returns
  have hg : ∀ w ∈ gw, w.before args s = true := fun w h9 => atoms_spec (ws := w_JPb_checkIndex) B.pre w (List.mem_cons_of_mem _ h9)
  have hown : s.vm.findClass "jdk/internal/util/Preconditions" = some m.cls := findClass_of_methodNamed B.named
  have hlocks := B.notSynchronized
  have he : entryFrame m args 3 = entryFrame m ([.int a0, .int a1, .ref bt] : List Value).toArray 3 := by rw [ha]
  rw [he, lg_entry_eq]
  have hl := lv_entry ([.int a0, .int a1, .ref bt]) (n := 3) (Nat.le_of_ble_eq_true rfl)
  generalize (lg_sl ([.int a0, .int a1, .ref bt]) ++ List.replicate (3 - (lg_sl ([.int a0, .int a1, .ref bt])).length) Slot.unset).toArray = ls at hl ⊢
  have hl : lv_has ls 3 [(0, .int a0), (1, .int a1), (2, .ref bt)] := hl
  generalize hv : f_JPb_checkIndex a0 a1 σ = v
  replace hv := hv.symm
  have B9 : ∀ (ls : Array Slot) (x0 : Int32) (x1 : Int32), v = f_JPb_checkIndex_9 x0 x1 σ → k_JPb_checkIndex_9 x0 x1 σ → lv_has ls 3 [(0, .int x0), (1, .int x1), (2, .ref bt)] → W p l e (headSpec w_JPb_checkIndex rm_JPb_checkIndex).room s m args below meth c s.heap [] 0 0 (MQ below (k2_QcV (.int v)) args s 0 0 (fun _ => False)) (F0 m 9 ls []) := by
    intro ls x0 x1 hv hk hl
    unfold f_JPb_checkIndex_9 at hv
    unfold k_JPb_checkIndex_9 at hk
    exact hk.elim
  unfold f_JPb_checkIndex at hv
  unfold k_JPb_checkIndex at hk
  refine lv_iload_n hx hb d_JPb_checkIndex_0 rfl (lv_at hl 0 rfl) ?_
  refine lv_if_lt (tgt := 9) hx hb d_JPb_checkIndex_1 (by decide) (fun hc => ?_) (fun hc => ?_)
  · have hv := hv.trans (if_pos hc)
    have hk := hk.1 hc
    exact B9 _ a0 a1 hv hk (lv_sub hl [0, 1, 2] rfl)
  · have hv := hv.trans (if_neg hc)
    have hk := hk.2 hc
    refine lv_iload_n hx hb d_JPb_checkIndex_4 rfl (lv_at hl 0 rfl) ?_
    refine lv_iload_n hx hb d_JPb_checkIndex_5 rfl (lv_at hl 1 rfl) ?_
    refine lv_icmp_lt (tgt := 16) hx hb d_JPb_checkIndex_6 (by decide) (fun hc => ?_) (fun hc => ?_)
    · have hv := hv.trans (if_pos hc)
      have hk := hk.1 hc
      refine lv_iload_n hx hb d_JPb_checkIndex_16 rfl (lv_at hl 0 rfl) ?_
      exact W.iret hx hb hr (fun t ht hW => ⟨by rw [hv], ht⟩) (fun q h => nomatch h) d_JPb_checkIndex_17
    · have hv := hv.trans (if_neg hc)
      have hk := hk.2 hc
      exact B9 _ a0 a1 hv hk (lv_sub hl [0, 1, 2] rfl)

-- java/lang/String.checkIndex(II)V
abbrev b_JS_checkIndex : ByteArray := prog_24_method_155_code
def y_JS_checkIndex : MethodName := ⟨"java/lang/String", "checkIndex", "(II)V"⟩
theorem hd_JS_checkIndex : y_JS_checkIndex.cls ≠ "java/lang/invoke/MethodHandle" ∧ y_JS_checkIndex.cls ≠ "java/lang/invoke/VarHandle" ∧ (parseMethodDescriptor y_JS_checkIndex.desc).map (fun d => d.parameters.length) = some 2 := by decide +kernel
theorem d_JS_checkIndex_0 : decode b_JS_checkIndex 0 = .ok (.iload_n 0, 1) := by decide +kernel
theorem d_JS_checkIndex_1 : decode b_JS_checkIndex 1 = .ok (.iload_n 1, 1) := by decide +kernel
theorem d_JS_checkIndex_2 : decode b_JS_checkIndex 2 = .ok (.getstatic 1053, 3) := by decide +kernel
theorem d_JS_checkIndex_5 : decode b_JS_checkIndex 5 = .ok (.invokestatic 1059, 3) := by decide +kernel
theorem d_JS_checkIndex_8 : decode b_JS_checkIndex 8 = .ok (.pop, 1) := by decide +kernel
theorem d_JS_checkIndex_9 : decode b_JS_checkIndex 9 = .ok (.return_, 1) := by decide +kernel
abbrev w_JS_checkIndex : List Cond := Cond.code y_JS_checkIndex b_JS_checkIndex 2 none :: gw
abbrev rm_JS_checkIndex : Room := { frames := 4, cells := 0, slots := 0, locals := 120 }
set_option maxHeartbeats 4000000 in
set_option maxRecDepth 100000 in
theorem c_JS_checkIndex (l : Launch) (D : va_G) (ty : Nat → ClassId) (h : Nat → Nat) (px : va_W) (sa : Nat → Nat) (σ : St) (a0 a1 : Int32) (k1 : ¬ a0 < 0) (k2 : a0 < a1) : Met l y_JS_checkIndex w_JS_checkIndex rm_JS_checkIndex (va_Pc [.int a0, .int a1] (fun U => va_P D classes (Wc ty h σ px) U.heap ∧ va_K D classes (Ta ty) U ∧ NW U ∧ MK sa (fun _ => False) U U.heap)) (fun _ st o t => o = .returned none ∧ t.heap = st.heap) 0 0 (fun _ => False) := by
  refine Met.ofWF (cc := b_JS_checkIndex) (maxL := 2) (ret := none) (by decide +kernel) rfl ?_
  intro p e s m args below meth c s₁ B hml hv
  obtain ⟨ha, hP, hK, hN, hM⟩ := hv
  have hx := B.exec
  have hb := B.bytes
  have hr := B.returns
  have hg : ∀ w ∈ gw, w.before args s = true := fun w h9 => atoms_spec (ws := w_JS_checkIndex) B.pre w (List.mem_cons_of_mem _ h9)
  have hown : s.vm.findClass "java/lang/String" = some m.cls := findClass_of_methodNamed B.named
  have hlocks := B.notSynchronized
  have he : entryFrame m args 2 = entryFrame m ([.int a0, .int a1] : List Value).toArray 2 := by rw [ha]
  rw [he, lg_entry_eq]
  have hl := lv_entry ([.int a0, .int a1]) (n := 2) (Nat.le_of_ble_eq_true rfl)
  generalize (lg_sl ([.int a0, .int a1]) ++ List.replicate (2 - (lg_sl ([.int a0, .int a1])).length) Slot.unset).toArray = ls at hl ⊢
  have hl : lv_has ls 2 [(0, .int a0), (1, .int a1)] := hl
  refine lv_iload_n hx hb d_JS_checkIndex_0 rfl (lv_at hl 0 rfl) ?_
  refine lv_iload_n hx hb d_JS_checkIndex_1 rfl (lv_at hl 1 rfl) ?_
  rcases hM.2.2.2.2 with hz | ⟨bt, hz⟩
  · refine va_gets hx hb hz va_S.rf hown (hg _ m_507) (fun _ h9 => h9) d_JS_checkIndex_2 ?_
    have kk : k_JPn_checkIndex a0 a1 σ := by unfold k_JPn_checkIndex; exact ⟨fun z => absurd z k1, fun _ => ⟨fun _ => trivial, fun z => absurd k2 z⟩⟩
    refine zz_callV (va_runS (As := [.int a0, .int a1, .null]) (rest := []) ⟨hx, hb, hml, hown, hg⟩ (c_JPn_checkIndex l D ty h px sa σ a0 a1 kk) ⟨callB_of 3 hg (gw_C m_511) rfl rfl rfl (hg _ m_18) (hg _ m_509) hd_JPn_checkIndex ⟨Nat.le_of_ble_eq_true rfl, Nat.le_of_ble_eq_true rfl⟩, hg _ m_510⟩ (zz_preS hM hN hK hP) rfl rfl hl.1 rfl (lv_room (Nat.le_of_ble_eq_true rfl)) d_JS_checkIndex_5 ⟨Nat.le_of_ble_eq_true rfl, Nat.le_of_ble_eq_true rfl⟩) ?_
    refine lv_pop hx hb d_JS_checkIndex_8 rfl ?_
    exact W.vret hx hb hr (fun t ht hW => ⟨rfl, ht⟩) (fun q h => nomatch h) d_JS_checkIndex_9
  · refine va_gets hx hb hz va_S.rf hown (hg _ m_507) (fun _ h9 => h9) d_JS_checkIndex_2 ?_
    have kk : k_JPb_checkIndex a0 a1 σ := by unfold k_JPb_checkIndex; exact ⟨fun z => absurd z k1, fun _ => ⟨fun _ => trivial, fun z => absurd k2 z⟩⟩
    refine zz_callV (va_runS (As := [.int a0, .int a1, .ref bt]) (rest := []) ⟨hx, hb, hml, hown, hg⟩ (c_JPb_checkIndex l D ty h px sa bt σ a0 a1 kk) ⟨callB_of 3 hg (gw_C m_511) rfl rfl rfl (hg _ m_18) (hg _ m_509) hd_JPb_checkIndex ⟨Nat.le_of_ble_eq_true rfl, Nat.le_of_ble_eq_true rfl⟩, hg _ m_510⟩ (zz_preS hM hN hK hP) rfl rfl hl.1 rfl (lv_room (Nat.le_of_ble_eq_true rfl)) d_JS_checkIndex_5 ⟨Nat.le_of_ble_eq_true rfl, Nat.le_of_ble_eq_true rfl⟩) ?_
    refine lv_pop hx hb d_JS_checkIndex_8 rfl ?_
    exact W.vret hx hb hr (fun t ht hW => ⟨rfl, ht⟩) (fun q h => nomatch h) d_JS_checkIndex_9
