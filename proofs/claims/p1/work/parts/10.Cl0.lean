-- java/lang/String.coder()B
abbrev b_JS_coder : ByteArray := prog_24_method_152_code
def y_JS_coder : MethodName := ⟨"java/lang/String", "coder", "()B"⟩
theorem hd_JS_coder : y_JS_coder.cls ≠ "java/lang/invoke/MethodHandle" ∧ y_JS_coder.cls ≠ "java/lang/invoke/VarHandle" ∧ (parseMethodDescriptor y_JS_coder.desc).map (fun d => d.parameters.length) = some 0 := by decide +kernel
theorem d_JS_coder_0 : decode b_JS_coder 0 = .ok (.getstatic 38, 3) := by decide +kernel
theorem d_JS_coder_3 : decode b_JS_coder 3 = .ok (.ifCond .eq 10, 3) := by decide +kernel
theorem d_JS_coder_6 : decode b_JS_coder 6 = .ok (.aload_n 0, 1) := by decide +kernel
theorem d_JS_coder_7 : decode b_JS_coder 7 = .ok (.getfield 15, 3) := by decide +kernel
theorem d_JS_coder_10 : decode b_JS_coder 10 = .ok (.goto 4, 3) := by decide +kernel
theorem d_JS_coder_13 : decode b_JS_coder 13 = .ok (.iconst 1, 1) := by decide +kernel
theorem d_JS_coder_14 : decode b_JS_coder 14 = .ok (.ireturn, 1) := by decide +kernel
def f_JS_coder_14 (s0 : Int32) (σ : St) : Int32 := s0
def k_JS_coder_14 (s0 : Int32) (σ : St) : Prop := (narrow .byte (.int s0) = .int s0) ∧ True
def f_JS_coder (σ : St) : Int32 := if (1 : Int32) = 0 then (f_JS_coder_14 1 σ) else (f_JS_coder_14 (0 : Int32) σ)
def k_JS_coder (σ : St) : Prop := ((1 : Int32) = 0 → (k_JS_coder_14 1 σ)) ∧ (¬ (1 : Int32) = 0 → (k_JS_coder_14 (0 : Int32) σ))
abbrev w_JS_coder : List Cond := Cond.code y_JS_coder b_JS_coder 1 (some .byte) :: gw
abbrev rm_JS_coder : Room := { frames := 0, cells := 0, slots := 0, locals := 0 }
set_option maxHeartbeats 4000000 in
set_option maxRecDepth 100000 in
theorem c_JS_coder (l : Launch) (D : va_G) (ty : Nat → ClassId) (h : Nat → Nat) (px : va_W) (sa : Nat → Nat) (σ : St) (hk : k_JS_coder σ) : Met l y_JS_coder w_JS_coder rm_JS_coder (va_Pc [.ref (sa 4)] (fun U => va_P D classes (Wc ty h σ px) U.heap ∧ va_K D classes (Ta ty) U ∧ NW U ∧ MK sa (fun _ => False) U U.heap)) (k2_QcV (.int (f_JS_coder σ))) 0 0 (fun _ => False) := by
  refine Met.ofWF (cc := b_JS_coder) (maxL := 1) (ret := (some .byte)) (by decide +kernel) rfl ?_
  intro p e s m args below meth c s₁ B hml hv
  obtain ⟨ha, hP, hK, hN, hM⟩ := hv
  have hx := B.exec
  have hb := B.bytes
  have hr := B.returns
  have hg : ∀ w ∈ gw, w.before args s = true := fun w h9 => atoms_spec (ws := w_JS_coder) B.pre w (List.mem_cons_of_mem _ h9)
  have hown : s.vm.findClass "java/lang/String" = some m.cls := findClass_of_methodNamed B.named
  have hlocks := B.notSynchronized
  have he : entryFrame m args 1 = entryFrame m ([.ref (sa 4)] : List Value).toArray 1 := by rw [ha]
  rw [he, lg_entry_eq]
  have hl := lv_entry ([.ref (sa 4)]) (n := 1) (Nat.le_of_ble_eq_true rfl)
  generalize (lg_sl ([.ref (sa 4)]) ++ List.replicate (1 - (lg_sl ([.ref (sa 4)])).length) Slot.unset).toArray = ls at hl ⊢
  have hl : lv_has ls 1 [(0, .ref (sa 4))] := hl
  generalize hv : f_JS_coder σ = v
  replace hv := hv.symm
  have B14 : ∀ (ls : Array Slot) (s0 : Int32), v = f_JS_coder_14 s0 σ → k_JS_coder_14 s0 σ → lv_has ls 1 [] → W p l e (headSpec w_JS_coder rm_JS_coder).room s m args below meth c s.heap [] 0 0 (MQ below (k2_QcV (.int v)) args s 0 0 (fun _ => False)) (F0 m 14 ls [.int s0]) := by
    intro ls s0 hv hk hl
    unfold f_JS_coder_14 at hv
    unfold k_JS_coder_14 at hk
    obtain ⟨hk0, hk⟩ := hk
    exact W.zret hx hb hr hk0 (fun t ht hW => ⟨by rw [hv], ht⟩) (fun q h => nomatch h) d_JS_coder_14
  unfold f_JS_coder at hv
  unfold k_JS_coder at hk
  refine va_gets hx hb hM.2.1 va_S.rf hown (hg _ m_490) (fun _ h9 => h9) d_JS_coder_0 ?_
  refine lv_if_eq (tgt := 13) hx hb d_JS_coder_3 (by decide) (fun hc => ?_) (fun hc => ?_)
  · have hv := hv.trans (if_pos hc)
    have hk := hk.1 hc
    refine lv_iconst (v := 1) hx hb d_JS_coder_13 (by decide) ?_
    exact B14 _ 1 hv hk (lv_sub hl [] rfl)
  · have hv := hv.trans (if_neg hc)
    have hk := hk.2 hc
    refine lv_aload_n hx hb d_JS_coder_6 rfl (lv_at hl 0 rfl) ?_
    refine vk_getf hx hb (hM.1.1 0 (by decide)).2.1 va_S.rf hown (hg _ m_1675) (fun _ h9 => h9) d_JS_coder_7 ?_
    refine lv_goto (tgt := 14) hx hb d_JS_coder_10 (by decide) ?_
    exact B14 _ (0 : Int32) hv hk (lv_sub hl [] rfl)

-- java/lang/String.length()I
abbrev b_JS_length : ByteArray := prog_24_method_54_code
def y_JS_length : MethodName := ⟨"java/lang/String", "length", "()I"⟩
theorem hd_JS_length : y_JS_length.cls ≠ "java/lang/invoke/MethodHandle" ∧ y_JS_length.cls ≠ "java/lang/invoke/VarHandle" ∧ (parseMethodDescriptor y_JS_length.desc).map (fun d => d.parameters.length) = some 0 := by decide +kernel
theorem d_JS_length_0 : decode b_JS_length 0 = .ok (.aload_n 0, 1) := by decide +kernel
theorem d_JS_length_1 : decode b_JS_length 1 = .ok (.getfield 9, 3) := by decide +kernel
theorem d_JS_length_4 : decode b_JS_length 4 = .ok (.arraylength, 1) := by decide +kernel
theorem d_JS_length_5 : decode b_JS_length 5 = .ok (.aload_n 0, 1) := by decide +kernel
theorem d_JS_length_6 : decode b_JS_length 6 = .ok (.invokevirtual 335, 3) := by decide +kernel
theorem d_JS_length_9 : decode b_JS_length 9 = .ok (.ishr, 1) := by decide +kernel
theorem d_JS_length_10 : decode b_JS_length 10 = .ok (.ireturn, 1) := by decide +kernel
def f_JS_length (σ : St) : Int32 := (8 : Int32) >>> ((f_JS_coder σ) &&& 31)
def k_JS_length (σ : St) : Prop := (k_JS_coder σ) ∧ True
abbrev w_JS_length : List Cond := Cond.code y_JS_length b_JS_length 1 (some .int) :: gw
abbrev rm_JS_length : Room := { frames := 1, cells := 0, slots := 0, locals := 20 }
set_option maxHeartbeats 4000000 in
set_option maxRecDepth 100000 in
theorem c_JS_length (l : Launch) (D : va_G) (ty : Nat → ClassId) (h : Nat → Nat) (px : va_W) (sa : Nat → Nat) (σ : St) (hk : k_JS_length σ) : Met l y_JS_length w_JS_length rm_JS_length (va_Pc [.ref (sa 4)] (fun U => va_P D classes (Wc ty h σ px) U.heap ∧ va_K D classes (Ta ty) U ∧ NW U ∧ MK sa (fun _ => False) U U.heap)) (k2_QcV (.int (f_JS_length σ))) 0 0 (fun _ => False) := by
  refine Met.ofWF (cc := b_JS_length) (maxL := 1) (ret := (some .int)) (by decide +kernel) rfl ?_
  intro p e s m args below meth c s₁ B hml hv
  obtain ⟨ha, hP, hK, hN, hM⟩ := hv
  have hx := B.exec
  have hb := B.bytes
  have hr := B.returns
  have hg : ∀ w ∈ gw, w.before args s = true := fun w h9 => atoms_spec (ws := w_JS_length) B.pre w (List.mem_cons_of_mem _ h9)
  have hown : s.vm.findClass "java/lang/String" = some m.cls := findClass_of_methodNamed B.named
  have hlocks := B.notSynchronized
  have he : entryFrame m args 1 = entryFrame m ([.ref (sa 4)] : List Value).toArray 1 := by rw [ha]
  rw [he, lg_entry_eq]
  have hl := lv_entry ([.ref (sa 4)]) (n := 1) (Nat.le_of_ble_eq_true rfl)
  generalize (lg_sl ([.ref (sa 4)]) ++ List.replicate (1 - (lg_sl ([.ref (sa 4)])).length) Slot.unset).toArray = ls at hl ⊢
  have hl : lv_has ls 1 [(0, .ref (sa 4))] := hl
  generalize hv : f_JS_length σ = v
  replace hv := hv.symm
  unfold f_JS_length at hv
  unfold k_JS_length at hk
  refine lv_aload_n hx hb d_JS_length_0 rfl (lv_at hl 0 rfl) ?_
  refine vk_getf hx hb (hM.1.1 0 (by decide)).2.2.1 va_S.rf hown (hg _ m_1676) (fun _ h9 => h9) d_JS_length_1 ?_
  refine va_tlen (v := 8) hx hb (hM.1.1 0 (by decide)).2.2.2 va_S.rf (by decide) d_JS_length_4 ?_
  refine lv_aload_n hx hb d_JS_length_5 rfl (lv_at hl 0 rfl) ?_
  obtain ⟨hk0, hk⟩ := hk
  refine zz_callV (va_runV (As := []) (rest := [.int (8 : Int32)]) ⟨hx, hb, hml, hown, hg⟩ (c_JS_coder l D ty h px sa σ  hk0) ⟨callB_of 0 hg (gw_C m_489) rfl rfl rfl (hg _ m_15) (hg _ m_486) hd_JS_coder ⟨Nat.le_of_ble_eq_true rfl, Nat.le_of_ble_eq_true rfl⟩, hg _ m_487, hg _ m_488⟩ (zz_preT hM hN hK hP) rfl rfl hl.1 rfl (lv_room (Nat.le_of_ble_eq_true rfl)) d_JS_length_6 ⟨Nat.le_of_ble_eq_true rfl, Nat.le_of_ble_eq_true rfl⟩) ?_
  refine lv_ishr hx hb d_JS_length_9 ?_
  exact W.iret hx hb hr (fun t ht hW => ⟨by rw [hv], ht⟩) (fun q h => nomatch h) d_JS_length_10

-- java/lang/String.isLatin1()Z
abbrev b_JS_isLatin1 : ByteArray := prog_24_method_154_code
def y_JS_isLatin1 : MethodName := ⟨"java/lang/String", "isLatin1", "()Z"⟩
theorem hd_JS_isLatin1 : y_JS_isLatin1.cls ≠ "java/lang/invoke/MethodHandle" ∧ y_JS_isLatin1.cls ≠ "java/lang/invoke/VarHandle" ∧ (parseMethodDescriptor y_JS_isLatin1.desc).map (fun d => d.parameters.length) = some 0 := by decide +kernel
theorem d_JS_isLatin1_0 : decode b_JS_isLatin1 0 = .ok (.getstatic 38, 3) := by decide +kernel
theorem d_JS_isLatin1_3 : decode b_JS_isLatin1 3 = .ok (.ifCond .eq 14, 3) := by decide +kernel
theorem d_JS_isLatin1_6 : decode b_JS_isLatin1 6 = .ok (.aload_n 0, 1) := by decide +kernel
theorem d_JS_isLatin1_7 : decode b_JS_isLatin1 7 = .ok (.getfield 15, 3) := by decide +kernel
theorem d_JS_isLatin1_10 : decode b_JS_isLatin1 10 = .ok (.ifCond .ne 7, 3) := by decide +kernel
theorem d_JS_isLatin1_13 : decode b_JS_isLatin1 13 = .ok (.iconst 1, 1) := by decide +kernel
theorem d_JS_isLatin1_14 : decode b_JS_isLatin1 14 = .ok (.goto 4, 3) := by decide +kernel
theorem d_JS_isLatin1_17 : decode b_JS_isLatin1 17 = .ok (.iconst 0, 1) := by decide +kernel
theorem d_JS_isLatin1_18 : decode b_JS_isLatin1 18 = .ok (.ireturn, 1) := by decide +kernel
def f_JS_isLatin1_18 (s0 : Int32) (σ : St) : Int32 := s0
def k_JS_isLatin1_18 (s0 : Int32) (σ : St) : Prop := (narrow .boolean (.int s0) = .int s0) ∧ True
def f_JS_isLatin1_17 (σ : St) : Int32 := f_JS_isLatin1_18 0 σ
def k_JS_isLatin1_17 (σ : St) : Prop := k_JS_isLatin1_18 0 σ
def f_JS_isLatin1 (σ : St) : Int32 := if (1 : Int32) = 0 then (f_JS_isLatin1_17 σ) else (if (0 : Int32) = 0 then (f_JS_isLatin1_18 1 σ) else (f_JS_isLatin1_17 σ))
def k_JS_isLatin1 (σ : St) : Prop := ((1 : Int32) = 0 → (k_JS_isLatin1_17 σ)) ∧ (¬ (1 : Int32) = 0 → (((0 : Int32) = 0 → (k_JS_isLatin1_18 1 σ)) ∧ (¬ (0 : Int32) = 0 → (k_JS_isLatin1_17 σ))))
abbrev w_JS_isLatin1 : List Cond := Cond.code y_JS_isLatin1 b_JS_isLatin1 1 (some .boolean) :: gw
abbrev rm_JS_isLatin1 : Room := { frames := 0, cells := 0, slots := 0, locals := 0 }
set_option maxHeartbeats 4000000 in
set_option maxRecDepth 100000 in
theorem c_JS_isLatin1 (l : Launch) (D : va_G) (ty : Nat → ClassId) (h : Nat → Nat) (px : va_W) (sa : Nat → Nat) (σ : St) (hk : k_JS_isLatin1 σ) : Met l y_JS_isLatin1 w_JS_isLatin1 rm_JS_isLatin1 (va_Pc [.ref (sa 4)] (fun U => va_P D classes (Wc ty h σ px) U.heap ∧ va_K D classes (Ta ty) U ∧ NW U ∧ MK sa (fun _ => False) U U.heap)) (k2_QcV (.int (f_JS_isLatin1 σ))) 0 0 (fun _ => False) := by
  refine Met.ofWF (cc := b_JS_isLatin1) (maxL := 1) (ret := (some .boolean)) (by decide +kernel) rfl ?_
  intro p e s m args below meth c s₁ B hml hv
  obtain ⟨ha, hP, hK, hN, hM⟩ := hv
  have hx := B.exec
  have hb := B.bytes
  have hr := B.returns
  have hg : ∀ w ∈ gw, w.before args s = true := fun w h9 => atoms_spec (ws := w_JS_isLatin1) B.pre w (List.mem_cons_of_mem _ h9)
  have hown : s.vm.findClass "java/lang/String" = some m.cls := findClass_of_methodNamed B.named
  have hlocks := B.notSynchronized
  have he : entryFrame m args 1 = entryFrame m ([.ref (sa 4)] : List Value).toArray 1 := by rw [ha]
  rw [he, lg_entry_eq]
  have hl := lv_entry ([.ref (sa 4)]) (n := 1) (Nat.le_of_ble_eq_true rfl)
  generalize (lg_sl ([.ref (sa 4)]) ++ List.replicate (1 - (lg_sl ([.ref (sa 4)])).length) Slot.unset).toArray = ls at hl ⊢
  have hl : lv_has ls 1 [(0, .ref (sa 4))] := hl
  generalize hv : f_JS_isLatin1 σ = v
  replace hv := hv.symm
  have B18 : ∀ (ls : Array Slot) (s0 : Int32), v = f_JS_isLatin1_18 s0 σ → k_JS_isLatin1_18 s0 σ → lv_has ls 1 [] → W p l e (headSpec w_JS_isLatin1 rm_JS_isLatin1).room s m args below meth c s.heap [] 0 0 (MQ below (k2_QcV (.int v)) args s 0 0 (fun _ => False)) (F0 m 18 ls [.int s0]) := by
    intro ls s0 hv hk hl
    unfold f_JS_isLatin1_18 at hv
    unfold k_JS_isLatin1_18 at hk
    obtain ⟨hk0, hk⟩ := hk
    exact W.zret hx hb hr hk0 (fun t ht hW => ⟨by rw [hv], ht⟩) (fun q h => nomatch h) d_JS_isLatin1_18
  have B17 : ∀ (ls : Array Slot), v = f_JS_isLatin1_17 σ → k_JS_isLatin1_17 σ → lv_has ls 1 [] → W p l e (headSpec w_JS_isLatin1 rm_JS_isLatin1).room s m args below meth c s.heap [] 0 0 (MQ below (k2_QcV (.int v)) args s 0 0 (fun _ => False)) (F0 m 17 ls []) := by
    intro ls hv hk hl
    unfold f_JS_isLatin1_17 at hv
    unfold k_JS_isLatin1_17 at hk
    refine lv_iconst (v := 0) hx hb d_JS_isLatin1_17 (by decide) ?_
    exact B18 _ 0 hv hk (lv_sub hl [] rfl)
  unfold f_JS_isLatin1 at hv
  unfold k_JS_isLatin1 at hk
  refine va_gets hx hb hM.2.1 va_S.rf hown (hg _ m_490) (fun _ h9 => h9) d_JS_isLatin1_0 ?_
  refine lv_if_eq (tgt := 17) hx hb d_JS_isLatin1_3 (by decide) (fun hc => ?_) (fun hc => ?_)
  · have hv := hv.trans (if_pos hc)
    have hk := hk.1 hc
    exact B17 _  hv hk (lv_sub hl [] rfl)
  · have hv := hv.trans (if_neg hc)
    have hk := hk.2 hc
    refine lv_aload_n hx hb d_JS_isLatin1_6 rfl (lv_at hl 0 rfl) ?_
    refine vk_getf hx hb (hM.1.1 0 (by decide)).2.1 va_S.rf hown (hg _ m_1675) (fun _ h9 => h9) d_JS_isLatin1_7 ?_
    refine lv_if_ne (tgt := 17) hx hb d_JS_isLatin1_10 (by decide) (fun hc => ?_) (fun hc => ?_)
    · have hv := hv.trans (if_neg hc)
      have hk := hk.2 hc
      exact B17 _  hv hk (lv_sub hl [] rfl)
    · have hv := hv.trans (if_pos hc)
      have hk := hk.1 hc
      refine lv_iconst (v := 1) hx hb d_JS_isLatin1_13 (by decide) ?_
      refine lv_goto (tgt := 18) hx hb d_JS_isLatin1_14 (by decide) ?_
      exact B18 _ 1 hv hk (lv_sub hl [] rfl)

-- java/lang/StringLatin1.charAt([BI)C
abbrev b_JT_charAt : ByteArray := prog_25_method_2_code
def y_JT_charAt : MethodName := ⟨"java/lang/StringLatin1", "charAt", "([BI)C"⟩
theorem hd_JT_charAt : y_JT_charAt.cls ≠ "java/lang/invoke/MethodHandle" ∧ y_JT_charAt.cls ≠ "java/lang/invoke/VarHandle" ∧ (parseMethodDescriptor y_JT_charAt.desc).map (fun d => d.parameters.length) = some 2 := by decide +kernel
theorem d_JT_charAt_0 : decode b_JT_charAt 0 = .ok (.iload_n 1, 1) := by decide +kernel
theorem d_JT_charAt_1 : decode b_JT_charAt 1 = .ok (.aload_n 0, 1) := by decide +kernel
theorem d_JT_charAt_2 : decode b_JT_charAt 2 = .ok (.arraylength, 1) := by decide +kernel
theorem d_JT_charAt_3 : decode b_JT_charAt 3 = .ok (.invokestatic 9, 3) := by decide +kernel
theorem d_JT_charAt_6 : decode b_JT_charAt 6 = .ok (.aload_n 0, 1) := by decide +kernel
theorem d_JT_charAt_7 : decode b_JT_charAt 7 = .ok (.iload_n 1, 1) := by decide +kernel
theorem d_JT_charAt_8 : decode b_JT_charAt 8 = .ok (.baload, 1) := by decide +kernel
theorem d_JT_charAt_9 : decode b_JT_charAt 9 = .ok (.sipush 255, 3) := by decide +kernel
theorem d_JT_charAt_12 : decode b_JT_charAt 12 = .ok (.iand, 1) := by decide +kernel
theorem d_JT_charAt_13 : decode b_JT_charAt 13 = .ok (.i2c, 1) := by decide +kernel
theorem d_JT_charAt_14 : decode b_JT_charAt 14 = .ok (.ireturn, 1) := by decide +kernel
def f_JT_charAt (a1 : Int32) (σ : St) : Int32 := (((mkB.getD a1.toNatClampNeg 0) &&& 255).toUInt32 % 65536).toInt32
def k_JT_charAt (a1 : Int32) (σ : St) : Prop := (¬ a1 < 0 ∧ a1 < (8 : Int32)) ∧ (vp_in a1 8 ∧ ((narrow .char (.int ((((mkB.getD a1.toNatClampNeg 0) &&& 255).toUInt32 % 65536).toInt32)) = .int ((((mkB.getD a1.toNatClampNeg 0) &&& 255).toUInt32 % 65536).toInt32)) ∧ True))
abbrev w_JT_charAt : List Cond := Cond.code y_JT_charAt b_JT_charAt 2 (some .char) :: gw
abbrev rm_JT_charAt : Room := { frames := 6, cells := 0, slots := 0, locals := 170 }
set_option maxHeartbeats 4000000 in
set_option maxRecDepth 100000 in
theorem c_JT_charAt (l : Launch) (D : va_G) (ty : Nat → ClassId) (h : Nat → Nat) (px : va_W) (sa : Nat → Nat) (σ : St) (a1 : Int32) (hk : k_JT_charAt a1 σ) : Met l y_JT_charAt w_JT_charAt rm_JT_charAt (va_Pc [.ref (sa 5), .int a1] (fun U => va_P D classes (Wc ty h σ px) U.heap ∧ va_K D classes (Ta ty) U ∧ NW U ∧ MK sa (fun _ => False) U U.heap)) (k2_QcV (.int (f_JT_charAt a1 σ))) 0 0 (fun _ => False) := by
  refine Met.ofWF (cc := b_JT_charAt) (maxL := 2) (ret := (some .char)) (by decide +kernel) rfl ?_
  intro p e s m args below meth c s₁ B hml hv
  obtain ⟨ha, hP, hK, hN, hM⟩ := hv
  have hx := B.exec
  have hb := B.bytes
  have hr := B.returns
  have hg : ∀ w ∈ gw, w.before args s = true := fun w h9 => atoms_spec (ws := w_JT_charAt) B.pre w (List.mem_cons_of_mem _ h9)
  have hown : s.vm.findClass "java/lang/StringLatin1" = some m.cls := findClass_of_methodNamed B.named
  have hlocks := B.notSynchronized
  have he : entryFrame m args 2 = entryFrame m ([.ref (sa 5), .int a1] : List Value).toArray 2 := by rw [ha]
  rw [he, lg_entry_eq]
  have hl := lv_entry ([.ref (sa 5), .int a1]) (n := 2) (Nat.le_of_ble_eq_true rfl)
  generalize (lg_sl ([.ref (sa 5), .int a1]) ++ List.replicate (2 - (lg_sl ([.ref (sa 5), .int a1])).length) Slot.unset).toArray = ls at hl ⊢
  have hl : lv_has ls 2 [(0, .ref (sa 5)), (1, .int a1)] := hl
  generalize hv : f_JT_charAt a1 σ = v
  replace hv := hv.symm
  unfold f_JT_charAt at hv
  unfold k_JT_charAt at hk
  refine lv_iload_n hx hb d_JT_charAt_0 rfl (lv_at hl 1 rfl) ?_
  refine lv_aload_n hx hb d_JT_charAt_1 rfl (lv_at hl 0 rfl) ?_
  refine va_tlen (v := 8) hx hb (hM.1.1 0 (by decide)).2.2.2 va_S.rf (by decide) d_JT_charAt_2 ?_
  obtain ⟨hk0, hk⟩ := hk
  refine zz_callN (va_runS (As := [.int a1, .int (8 : Int32)]) (rest := []) ⟨hx, hb, hml, hown, hg⟩ (c_JS_checkIndex l D ty h px sa σ a1 (8 : Int32) hk0.1 hk0.2) ⟨callB_of 2 hg (gw_C m_506) rfl rfl rfl (hg _ m_15) (hg _ m_504) hd_JS_checkIndex ⟨Nat.le_of_ble_eq_true rfl, Nat.le_of_ble_eq_true rfl⟩, hg _ m_505⟩ (zz_preS hM hN hK hP) rfl rfl hl.1 rfl (lv_room (Nat.le_of_ble_eq_true rfl)) d_JT_charAt_3 ⟨Nat.le_of_ble_eq_true rfl, Nat.le_of_ble_eq_true rfl⟩) ?_
  refine lv_aload_n hx hb d_JT_charAt_6 rfl (lv_at hl 0 rfl) ?_
  refine lv_iload_n hx hb d_JT_charAt_7 rfl (lv_at hl 1 rfl) ?_
  obtain ⟨hk0, hk⟩ := hk
  refine va_tb (v := .int (mkB.getD a1.toNatClampNeg 0)) hx hb (hM.1.1 0 (by decide)).2.2.2 va_S.rf hk0 rfl d_JT_charAt_8 ?_
  refine lv_sipush (v := 255) hx hb d_JT_charAt_9 (by decide) ?_
  refine lv_iand hx hb d_JT_charAt_12 ?_
  refine lv_i2c hx hb d_JT_charAt_13 rfl ?_
  obtain ⟨hk0, hk⟩ := hk
  exact W.zret hx hb hr hk0 (fun t ht hW => ⟨by rw [hv], ht⟩) (fun q h => nomatch h) d_JT_charAt_14

-- java/lang/String.charAt(I)C
abbrev b_JS_charAt : ByteArray := prog_24_method_56_code
def y_JS_charAt : MethodName := ⟨"java/lang/String", "charAt", "(I)C"⟩
theorem hd_JS_charAt : y_JS_charAt.cls ≠ "java/lang/invoke/MethodHandle" ∧ y_JS_charAt.cls ≠ "java/lang/invoke/VarHandle" ∧ (parseMethodDescriptor y_JS_charAt.desc).map (fun d => d.parameters.length) = some 1 := by decide +kernel
theorem d_JS_charAt_0 : decode b_JS_charAt 0 = .ok (.aload_n 0, 1) := by decide +kernel
theorem d_JS_charAt_1 : decode b_JS_charAt 1 = .ok (.invokevirtual 492, 3) := by decide +kernel
theorem d_JS_charAt_4 : decode b_JS_charAt 4 = .ok (.ifCond .eq 12, 3) := by decide +kernel
theorem d_JS_charAt_7 : decode b_JS_charAt 7 = .ok (.aload_n 0, 1) := by decide +kernel
theorem d_JS_charAt_8 : decode b_JS_charAt 8 = .ok (.getfield 9, 3) := by decide +kernel
theorem d_JS_charAt_11 : decode b_JS_charAt 11 = .ok (.iload_n 1, 1) := by decide +kernel
theorem d_JS_charAt_12 : decode b_JS_charAt 12 = .ok (.invokestatic 495, 3) := by decide +kernel
theorem d_JS_charAt_15 : decode b_JS_charAt 15 = .ok (.ireturn, 1) := by decide +kernel
theorem d_JS_charAt_16 : decode b_JS_charAt 16 = .ok (.aload_n 0, 1) := by decide +kernel
theorem d_JS_charAt_17 : decode b_JS_charAt 17 = .ok (.getfield 9, 3) := by decide +kernel
theorem d_JS_charAt_20 : decode b_JS_charAt 20 = .ok (.iload_n 1, 1) := by decide +kernel
theorem d_JS_charAt_21 : decode b_JS_charAt 21 = .ok (.invokestatic 498, 3) := by decide +kernel
theorem d_JS_charAt_24 : decode b_JS_charAt 24 = .ok (.ireturn, 1) := by decide +kernel
def f_JS_charAt (a1 : Int32) (σ : St) : Int32 := if (f_JS_isLatin1 σ) = 0 then 0 else (f_JT_charAt a1 σ)
def k_JS_charAt (a1 : Int32) (σ : St) : Prop := (k_JS_isLatin1 σ) ∧ (((f_JS_isLatin1 σ) = 0 → False) ∧ (¬ (f_JS_isLatin1 σ) = 0 → ((k_JT_charAt a1 σ) ∧ ((narrow .char (.int (f_JT_charAt a1 σ)) = .int (f_JT_charAt a1 σ)) ∧ True))))
abbrev w_JS_charAt : List Cond := Cond.code y_JS_charAt b_JS_charAt 2 (some .char) :: gw
abbrev rm_JS_charAt : Room := { frames := 7, cells := 0, slots := 0, locals := 191 }
set_option maxHeartbeats 4000000 in
set_option maxRecDepth 100000 in
theorem c_JS_charAt (l : Launch) (D : va_G) (ty : Nat → ClassId) (h : Nat → Nat) (px : va_W) (sa : Nat → Nat) (σ : St) (a1 : Int32) (hk : k_JS_charAt a1 σ) : Met l y_JS_charAt w_JS_charAt rm_JS_charAt (va_Pc [.ref (sa 4), .int a1] (fun U => va_P D classes (Wc ty h σ px) U.heap ∧ va_K D classes (Ta ty) U ∧ NW U ∧ MK sa (fun _ => False) U U.heap)) (k2_QcV (.int (f_JS_charAt a1 σ))) 0 0 (fun _ => False) := by
  refine Met.ofWF (cc := b_JS_charAt) (maxL := 2) (ret := (some .char)) (by decide +kernel) rfl ?_
  intro p e s m args below meth c s₁ B hml hv
  obtain ⟨ha, hP, hK, hN, hM⟩ := hv
  have hx := B.exec
  have hb := B.bytes
  have hr := B.returns
  have hg : ∀ w ∈ gw, w.before args s = true := fun w h9 => atoms_spec (ws := w_JS_charAt) B.pre w (List.mem_cons_of_mem _ h9)
  have hown : s.vm.findClass "java/lang/String" = some m.cls := findClass_of_methodNamed B.named
  have hlocks := B.notSynchronized
  have he : entryFrame m args 2 = entryFrame m ([.ref (sa 4), .int a1] : List Value).toArray 2 := by rw [ha]
  rw [he, lg_entry_eq]
  have hl := lv_entry ([.ref (sa 4), .int a1]) (n := 2) (Nat.le_of_ble_eq_true rfl)
  generalize (lg_sl ([.ref (sa 4), .int a1]) ++ List.replicate (2 - (lg_sl ([.ref (sa 4), .int a1])).length) Slot.unset).toArray = ls at hl ⊢
  have hl : lv_has ls 2 [(0, .ref (sa 4)), (1, .int a1)] := hl
  generalize hv : f_JS_charAt a1 σ = v
  replace hv := hv.symm
  unfold f_JS_charAt at hv
  unfold k_JS_charAt at hk
  refine lv_aload_n hx hb d_JS_charAt_0 rfl (lv_at hl 0 rfl) ?_
  obtain ⟨hk0, hk⟩ := hk
  refine zz_callV (va_runV (As := []) (rest := []) ⟨hx, hb, hml, hown, hg⟩ (c_JS_isLatin1 l D ty h px sa σ  hk0) ⟨callB_of 0 hg (gw_C m_500) rfl rfl rfl (hg _ m_15) (hg _ m_497) hd_JS_isLatin1 ⟨Nat.le_of_ble_eq_true rfl, Nat.le_of_ble_eq_true rfl⟩, hg _ m_498, hg _ m_499⟩ (zz_preT hM hN hK hP) rfl rfl hl.1 rfl (lv_room (Nat.le_of_ble_eq_true rfl)) d_JS_charAt_1 ⟨Nat.le_of_ble_eq_true rfl, Nat.le_of_ble_eq_true rfl⟩) ?_
  refine lv_if_eq (tgt := 16) hx hb d_JS_charAt_4 (by decide) (fun hc => ?_) (fun hc => ?_)
  · have hv := hv.trans (if_pos hc)
    have hk := hk.1 hc
    refine lv_aload_n hx hb d_JS_charAt_16 rfl (lv_at hl 0 rfl) ?_
    refine vk_getf hx hb (hM.1.1 0 (by decide)).2.2.1 va_S.rf hown (hg _ m_1676) (fun _ h9 => h9) d_JS_charAt_17 ?_
    refine lv_iload_n hx hb d_JS_charAt_20 rfl (lv_at hl 1 rfl) ?_
    exact hk.elim
  · have hv := hv.trans (if_neg hc)
    have hk := hk.2 hc
    refine lv_aload_n hx hb d_JS_charAt_7 rfl (lv_at hl 0 rfl) ?_
    refine vk_getf hx hb (hM.1.1 0 (by decide)).2.2.1 va_S.rf hown (hg _ m_1676) (fun _ h9 => h9) d_JS_charAt_8 ?_
    refine lv_iload_n hx hb d_JS_charAt_11 rfl (lv_at hl 1 rfl) ?_
    obtain ⟨hk0, hk⟩ := hk
    refine zz_callV (va_runS (As := [.ref (sa 5), .int a1]) (rest := []) ⟨hx, hb, hml, hown, hg⟩ (c_JT_charAt l D ty h px sa σ a1 hk0) ⟨callB_of 2 hg (gw_C m_503) rfl rfl rfl (hg _ m_16) (hg _ m_501) hd_JT_charAt ⟨Nat.le_of_ble_eq_true rfl, Nat.le_of_ble_eq_true rfl⟩, hg _ m_502⟩ (zz_preS hM hN hK hP) rfl rfl hl.1 rfl (lv_room (Nat.le_of_ble_eq_true rfl)) d_JS_charAt_12 ⟨Nat.le_of_ble_eq_true rfl, Nat.le_of_ble_eq_true rfl⟩) ?_
    obtain ⟨hk0, hk⟩ := hk
    exact W.zret hx hb hr hk0 (fun t ht hW => ⟨by rw [hv], ht⟩) (fun q h => nomatch h) d_JS_charAt_15

-- java/lang/StringLatin1.canEncode(I)Z
abbrev b_JT_canEncode : ByteArray := prog_25_method_4_code
def y_JT_canEncode : MethodName := ⟨"java/lang/StringLatin1", "canEncode", "(I)Z"⟩
theorem hd_JT_canEncode : y_JT_canEncode.cls ≠ "java/lang/invoke/MethodHandle" ∧ y_JT_canEncode.cls ≠ "java/lang/invoke/VarHandle" ∧ (parseMethodDescriptor y_JT_canEncode.desc).map (fun d => d.parameters.length) = some 1 := by decide +kernel
theorem d_JT_canEncode_0 : decode b_JT_canEncode 0 = .ok (.iload_n 0, 1) := by decide +kernel
theorem d_JT_canEncode_1 : decode b_JT_canEncode 1 = .ok (.ifCond .lt 14, 3) := by decide +kernel
theorem d_JT_canEncode_4 : decode b_JT_canEncode 4 = .ok (.iload_n 0, 1) := by decide +kernel
theorem d_JT_canEncode_5 : decode b_JT_canEncode 5 = .ok (.sipush 255, 3) := by decide +kernel
theorem d_JT_canEncode_8 : decode b_JT_canEncode 8 = .ok (.if_icmp .gt 7, 3) := by decide +kernel
theorem d_JT_canEncode_11 : decode b_JT_canEncode 11 = .ok (.iconst 1, 1) := by decide +kernel
theorem d_JT_canEncode_12 : decode b_JT_canEncode 12 = .ok (.goto 4, 3) := by decide +kernel
theorem d_JT_canEncode_15 : decode b_JT_canEncode 15 = .ok (.iconst 0, 1) := by decide +kernel
theorem d_JT_canEncode_16 : decode b_JT_canEncode 16 = .ok (.ireturn, 1) := by decide +kernel
def f_JT_canEncode_16 (s0 : Int32) (σ : St) : Int32 := s0
def k_JT_canEncode_16 (s0 : Int32) (σ : St) : Prop := (narrow .boolean (.int s0) = .int s0) ∧ True
def f_JT_canEncode_15 (σ : St) : Int32 := f_JT_canEncode_16 0 σ
def k_JT_canEncode_15 (σ : St) : Prop := k_JT_canEncode_16 0 σ
def f_JT_canEncode (a0 : Int32) (σ : St) : Int32 := if a0 < 0 then (f_JT_canEncode_15 σ) else (if 255 < a0 then (f_JT_canEncode_15 σ) else (f_JT_canEncode_16 1 σ))
def k_JT_canEncode (a0 : Int32) (σ : St) : Prop := (a0 < 0 → (k_JT_canEncode_15 σ)) ∧ (¬ a0 < 0 → ((255 < a0 → (k_JT_canEncode_15 σ)) ∧ (¬ 255 < a0 → (k_JT_canEncode_16 1 σ))))
abbrev w_JT_canEncode : List Cond := Cond.code y_JT_canEncode b_JT_canEncode 1 (some .boolean) :: gw
abbrev rm_JT_canEncode : Room := { frames := 0, cells := 0, slots := 0, locals := 0 }
set_option maxHeartbeats 4000000 in
set_option maxRecDepth 100000 in
theorem c_JT_canEncode (l : Launch) (D : va_G) (ty : Nat → ClassId) (h : Nat → Nat) (px : va_W) (sa : Nat → Nat) (σ : St) (a0 : Int32) (hk : k_JT_canEncode a0 σ) : Met l y_JT_canEncode w_JT_canEncode rm_JT_canEncode (va_Pc [.int a0] (fun U => va_P D classes (Wc ty h σ px) U.heap ∧ va_K D classes (Ta ty) U ∧ NW U ∧ MK sa (fun _ => False) U U.heap)) (k2_QcV (.int (f_JT_canEncode a0 σ))) 0 0 (fun _ => False) := by
  refine Met.ofWF (cc := b_JT_canEncode) (maxL := 1) (ret := (some .boolean)) (by decide +kernel) rfl ?_
  intro p e s m args below meth c s₁ B hml hv
  obtain ⟨ha, hP, hK, hN, hM⟩ := hv
  have hx := B.exec
  have hb := B.bytes
  have hr := B.returns
  have hg : ∀ w ∈ gw, w.before args s = true := fun w h9 => atoms_spec (ws := w_JT_canEncode) B.pre w (List.mem_cons_of_mem _ h9)
  have hown : s.vm.findClass "java/lang/StringLatin1" = some m.cls := findClass_of_methodNamed B.named
  have hlocks := B.notSynchronized
  have he : entryFrame m args 1 = entryFrame m ([.int a0] : List Value).toArray 1 := by rw [ha]
  rw [he, lg_entry_eq]
  have hl := lv_entry ([.int a0]) (n := 1) (Nat.le_of_ble_eq_true rfl)
  generalize (lg_sl ([.int a0]) ++ List.replicate (1 - (lg_sl ([.int a0])).length) Slot.unset).toArray = ls at hl ⊢
  have hl : lv_has ls 1 [(0, .int a0)] := hl
  generalize hv : f_JT_canEncode a0 σ = v
  replace hv := hv.symm
  have B16 : ∀ (ls : Array Slot) (s0 : Int32), v = f_JT_canEncode_16 s0 σ → k_JT_canEncode_16 s0 σ → lv_has ls 1 [] → W p l e (headSpec w_JT_canEncode rm_JT_canEncode).room s m args below meth c s.heap [] 0 0 (MQ below (k2_QcV (.int v)) args s 0 0 (fun _ => False)) (F0 m 16 ls [.int s0]) := by
    intro ls s0 hv hk hl
    unfold f_JT_canEncode_16 at hv
    unfold k_JT_canEncode_16 at hk
    obtain ⟨hk0, hk⟩ := hk
    exact W.zret hx hb hr hk0 (fun t ht hW => ⟨by rw [hv], ht⟩) (fun q h => nomatch h) d_JT_canEncode_16
  have B15 : ∀ (ls : Array Slot), v = f_JT_canEncode_15 σ → k_JT_canEncode_15 σ → lv_has ls 1 [] → W p l e (headSpec w_JT_canEncode rm_JT_canEncode).room s m args below meth c s.heap [] 0 0 (MQ below (k2_QcV (.int v)) args s 0 0 (fun _ => False)) (F0 m 15 ls []) := by
    intro ls hv hk hl
    unfold f_JT_canEncode_15 at hv
    unfold k_JT_canEncode_15 at hk
    refine lv_iconst (v := 0) hx hb d_JT_canEncode_15 (by decide) ?_
    exact B16 _ 0 hv hk (lv_sub hl [] rfl)
  unfold f_JT_canEncode at hv
  unfold k_JT_canEncode at hk
  refine lv_iload_n hx hb d_JT_canEncode_0 rfl (lv_at hl 0 rfl) ?_
  refine lv_if_lt (tgt := 15) hx hb d_JT_canEncode_1 (by decide) (fun hc => ?_) (fun hc => ?_)
  · have hv := hv.trans (if_pos hc)
    have hk := hk.1 hc
    exact B15 _  hv hk (lv_sub hl [] rfl)
  · have hv := hv.trans (if_neg hc)
    have hk := hk.2 hc
    refine lv_iload_n hx hb d_JT_canEncode_4 rfl (lv_at hl 0 rfl) ?_
    refine lv_sipush (v := 255) hx hb d_JT_canEncode_5 (by decide) ?_
    refine lv_icmp_gt (tgt := 15) hx hb d_JT_canEncode_8 (by decide) (fun hc => ?_) (fun hc => ?_)
    · have hv := hv.trans (if_pos hc)
      have hk := hk.1 hc
      exact B15 _  hv hk (lv_sub hl [] rfl)
    · have hv := hv.trans (if_neg hc)
      have hk := hk.2 hc
      refine lv_iconst (v := 1) hx hb d_JT_canEncode_11 (by decide) ?_
      refine lv_goto (tgt := 16) hx hb d_JT_canEncode_12 (by decide) ?_
      exact B16 _ 1 hv hk (lv_sub hl [] rfl)

-- java/lang/StringLatin1.indexOfChar([BIII)I
abbrev b_JT_indexOfChar : ByteArray := prog_25_method_23_code
def y_JT_indexOfChar : MethodName := ⟨"java/lang/StringLatin1", "indexOfChar", "([BIII)I"⟩
theorem hd_JT_indexOfChar : y_JT_indexOfChar.cls ≠ "java/lang/invoke/MethodHandle" ∧ y_JT_indexOfChar.cls ≠ "java/lang/invoke/VarHandle" ∧ (parseMethodDescriptor y_JT_indexOfChar.desc).map (fun d => d.parameters.length) = some 4 := by decide +kernel
theorem d_JT_indexOfChar_0 : decode b_JT_indexOfChar 0 = .ok (.iload_n 1, 1) := by decide +kernel
theorem d_JT_indexOfChar_1 : decode b_JT_indexOfChar 1 = .ok (.i2b, 1) := by decide +kernel
theorem d_JT_indexOfChar_2 : decode b_JT_indexOfChar 2 = .ok (.istore 4, 2) := by decide +kernel
theorem d_JT_indexOfChar_4 : decode b_JT_indexOfChar 4 = .ok (.iload_n 2, 1) := by decide +kernel
theorem d_JT_indexOfChar_5 : decode b_JT_indexOfChar 5 = .ok (.istore 5, 2) := by decide +kernel
theorem d_JT_indexOfChar_7 : decode b_JT_indexOfChar 7 = .ok (.iload 5, 2) := by decide +kernel
theorem d_JT_indexOfChar_9 : decode b_JT_indexOfChar 9 = .ok (.iload_n 3, 1) := by decide +kernel
theorem d_JT_indexOfChar_10 : decode b_JT_indexOfChar 10 = .ok (.if_icmp .ge 21, 3) := by decide +kernel
theorem d_JT_indexOfChar_13 : decode b_JT_indexOfChar 13 = .ok (.aload_n 0, 1) := by decide +kernel
theorem d_JT_indexOfChar_14 : decode b_JT_indexOfChar 14 = .ok (.iload 5, 2) := by decide +kernel
theorem d_JT_indexOfChar_16 : decode b_JT_indexOfChar 16 = .ok (.baload, 1) := by decide +kernel
theorem d_JT_indexOfChar_17 : decode b_JT_indexOfChar 17 = .ok (.iload 4, 2) := by decide +kernel
theorem d_JT_indexOfChar_19 : decode b_JT_indexOfChar 19 = .ok (.if_icmp .ne 6, 3) := by decide +kernel
theorem d_JT_indexOfChar_22 : decode b_JT_indexOfChar 22 = .ok (.iload 5, 2) := by decide +kernel
theorem d_JT_indexOfChar_24 : decode b_JT_indexOfChar 24 = .ok (.ireturn, 1) := by decide +kernel
theorem d_JT_indexOfChar_25 : decode b_JT_indexOfChar 25 = .ok (.iinc 5 1, 3) := by decide +kernel
theorem d_JT_indexOfChar_28 : decode b_JT_indexOfChar 28 = .ok (.goto (-21), 3) := by decide +kernel
theorem d_JT_indexOfChar_31 : decode b_JT_indexOfChar 31 = .ok (.iconst (-1), 1) := by decide +kernel
theorem d_JT_indexOfChar_32 : decode b_JT_indexOfChar 32 = .ok (.ireturn, 1) := by decide +kernel
def f_JT_indexOfChar_7 : Nat → Int32 → Int32 → Int32 → St → Int32
  | 0, _, _, _, σ => 0
  | n + 1, x3, x4, x5, σ => if x3 ≤ x5 then (-1) else (if (mkB.getD x5.toNatClampNeg 0) = x4 then x5 else ((f_JT_indexOfChar_7 n) x3 x4 (x5 + 1) σ))
def k_JT_indexOfChar_7 : Nat → Int32 → Int32 → Int32 → St → Prop
  | 0, _, _, _, _ => False
  | n + 1, x3, x4, x5, σ => (x3 ≤ x5 → True) ∧ (¬ x3 ≤ x5 → (vp_in x5 8 ∧ (((mkB.getD x5.toNatClampNeg 0) = x4 → True) ∧ (¬ (mkB.getD x5.toNatClampNeg 0) = x4 → ((k_JT_indexOfChar_7 n) x3 x4 (x5 + 1) σ)))))
def f_JT_indexOfChar (a1 : Int32) (a2 : Int32) (a3 : Int32) (σ : St) : Int32 := f_JT_indexOfChar_7 1000 a3 a1.toInt8.toInt32 a2 σ
def k_JT_indexOfChar (a1 : Int32) (a2 : Int32) (a3 : Int32) (σ : St) : Prop := k_JT_indexOfChar_7 1000 a3 a1.toInt8.toInt32 a2 σ
abbrev w_JT_indexOfChar : List Cond := Cond.code y_JT_indexOfChar b_JT_indexOfChar 6 (some .int) :: gw
abbrev rm_JT_indexOfChar : Room := { frames := 0, cells := 0, slots := 0, locals := 0 }
set_option maxHeartbeats 4000000 in
set_option maxRecDepth 100000 in
theorem c_JT_indexOfChar (l : Launch) (D : va_G) (ty : Nat → ClassId) (h : Nat → Nat) (px : va_W) (sa : Nat → Nat) (σ : St) (a1 : Int32) (a2 : Int32) (a3 : Int32) (hk : k_JT_indexOfChar a1 a2 a3 σ) : Met l y_JT_indexOfChar w_JT_indexOfChar rm_JT_indexOfChar (va_Pc [.ref (sa 5), .int a1, .int a2, .int a3] (fun U => va_P D classes (Wc ty h σ px) U.heap ∧ va_K D classes (Ta ty) U ∧ NW U ∧ MK sa (fun _ => False) U U.heap)) (k2_QcV (.int (f_JT_indexOfChar a1 a2 a3 σ))) 0 0 (fun _ => False) := by
  refine Met.ofWF (cc := b_JT_indexOfChar) (maxL := 6) (ret := (some .int)) (by decide +kernel) rfl ?_
  intro p e s m args below meth c s₁ B hml hv
  obtain ⟨ha, hP, hK, hN, hM⟩ := hv
  have hx := B.exec
  have hb := B.bytes
  have hr := B.returns
  have hg : ∀ w ∈ gw, w.before args s = true := fun w h9 => atoms_spec (ws := w_JT_indexOfChar) B.pre w (List.mem_cons_of_mem _ h9)
  have hown : s.vm.findClass "java/lang/StringLatin1" = some m.cls := findClass_of_methodNamed B.named
  have hlocks := B.notSynchronized
  have he : entryFrame m args 6 = entryFrame m ([.ref (sa 5), .int a1, .int a2, .int a3] : List Value).toArray 6 := by rw [ha]
  rw [he, lg_entry_eq]
  have hl := lv_entry ([.ref (sa 5), .int a1, .int a2, .int a3]) (n := 6) (Nat.le_of_ble_eq_true rfl)
  generalize (lg_sl ([.ref (sa 5), .int a1, .int a2, .int a3]) ++ List.replicate (6 - (lg_sl ([.ref (sa 5), .int a1, .int a2, .int a3])).length) Slot.unset).toArray = ls at hl ⊢
  have hl : lv_has ls 6 [(0, .ref (sa 5)), (1, .int a1), (2, .int a2), (3, .int a3)] := hl
  generalize hv : f_JT_indexOfChar a1 a2 a3 σ = v
  replace hv := hv.symm
  have B7 : ∀ (n7 : Nat) (ls : Array Slot) (x3 : Int32) (x4 : Int32) (x5 : Int32), v = f_JT_indexOfChar_7 n7 x3 x4 x5 σ → k_JT_indexOfChar_7 n7 x3 x4 x5 σ → lv_has ls 6 [(0, .ref (sa 5)), (3, .int x3), (4, .int x4), (5, .int x5)] → W p l e (headSpec w_JT_indexOfChar rm_JT_indexOfChar).room s m args below meth c s.heap [] 0 0 (MQ below (k2_QcV (.int v)) args s 0 0 (fun _ => False)) (F0 m 7 ls []) := by
    intro n7
    induction n7 with
    | zero => intro ls x3 x4 x5 hv hk hl; exact hk.elim
    | succ n7 ih7 =>
      intro ls x3 x4 x5 hv hk hl
      rw [f_JT_indexOfChar_7] at hv
      rw [k_JT_indexOfChar_7] at hk
      refine lv_iload hx hb d_JT_indexOfChar_7 (lv_at hl 3 rfl) ?_
      refine lv_iload_n hx hb d_JT_indexOfChar_9 rfl (lv_at hl 1 rfl) ?_
      refine lv_icmp_ge (tgt := 31) hx hb d_JT_indexOfChar_10 (by decide) (fun hc => ?_) (fun hc => ?_)
      · have hv := hv.trans (if_pos hc)
        have hk := hk.1 hc
        refine lv_iconst (v := -1) hx hb d_JT_indexOfChar_31 (by decide) ?_
        exact W.iret hx hb hr (fun t ht hW => ⟨by rw [hv], ht⟩) (fun q h => nomatch h) d_JT_indexOfChar_32
      · have hv := hv.trans (if_neg hc)
        have hk := hk.2 hc
        refine lv_aload_n hx hb d_JT_indexOfChar_13 rfl (lv_at hl 0 rfl) ?_
        refine lv_iload hx hb d_JT_indexOfChar_14 (lv_at hl 3 rfl) ?_
        obtain ⟨hk0, hk⟩ := hk
        refine va_tb (v := .int (mkB.getD x5.toNatClampNeg 0)) hx hb (hM.1.1 0 (by decide)).2.2.2 va_S.rf hk0 rfl d_JT_indexOfChar_16 ?_
        refine lv_iload hx hb d_JT_indexOfChar_17 (lv_at hl 2 rfl) ?_
        refine lv_icmp_ne (tgt := 25) hx hb d_JT_indexOfChar_19 (by decide) (fun hc => ?_) (fun hc => ?_)
        · have hv := hv.trans (if_neg hc)
          have hk := hk.2 hc
          refine lv_iinc (k := 3) (v := x5 + 1) (lv' := [(5, .int (x5 + 1)), (0, .ref (sa 5)), (3, .int x3), (4, .int x4)]) hx hb d_JT_indexOfChar_25 hl rfl (by first | rfl | simp [lit1, litm1]) (by decide) rfl (fun ls hl => ?_)
          refine lv_goto (tgt := 7) hx hb d_JT_indexOfChar_28 (by decide) ?_
          exact ih7 _ x3 x4 (x5 + 1) hv hk (lv_sub hl [1, 2, 3, 0] rfl)
        · have hv := hv.trans (if_pos hc)
          have hk := hk.1 hc
          refine lv_iload hx hb d_JT_indexOfChar_22 (lv_at hl 3 rfl) ?_
          exact W.iret hx hb hr (fun t ht hW => ⟨by rw [hv], ht⟩) (fun q h => nomatch h) d_JT_indexOfChar_24
  unfold f_JT_indexOfChar at hv
  unfold k_JT_indexOfChar at hk
  refine lv_iload_n hx hb d_JT_indexOfChar_0 rfl (lv_at hl 1 rfl) ?_
  refine lv_i2b hx hb d_JT_indexOfChar_1 rfl ?_
  refine lv_istore (lv' := [(4, .int a1.toInt8.toInt32), (0, .ref (sa 5)), (1, .int a1), (2, .int a2), (3, .int a3)]) hx hb d_JT_indexOfChar_2 hl (by decide) rfl (fun ls hl => ?_)
  refine lv_iload_n hx hb d_JT_indexOfChar_4 rfl (lv_at hl 3 rfl) ?_
  refine lv_istore (lv' := [(5, .int a2), (4, .int a1.toInt8.toInt32), (0, .ref (sa 5)), (1, .int a1), (2, .int a2), (3, .int a3)]) hx hb d_JT_indexOfChar_5 hl (by decide) rfl (fun ls hl => ?_)
  exact B7 1000 _ a3 a1.toInt8.toInt32 a2 hv hk (lv_sub hl [2, 5, 1, 0] rfl)

-- java/lang/StringLatin1.indexOf([BIII)I
abbrev b_JT_indexOf : ByteArray := prog_25_method_22_code
def y_JT_indexOf : MethodName := ⟨"java/lang/StringLatin1", "indexOf", "([BIII)I"⟩
theorem hd_JT_indexOf : y_JT_indexOf.cls ≠ "java/lang/invoke/MethodHandle" ∧ y_JT_indexOf.cls ≠ "java/lang/invoke/VarHandle" ∧ (parseMethodDescriptor y_JT_indexOf.desc).map (fun d => d.parameters.length) = some 4 := by decide +kernel
theorem d_JT_indexOf_0 : decode b_JT_indexOf 0 = .ok (.iload_n 1, 1) := by decide +kernel
theorem d_JT_indexOf_1 : decode b_JT_indexOf 1 = .ok (.invokestatic 88, 3) := by decide +kernel
theorem d_JT_indexOf_4 : decode b_JT_indexOf 4 = .ok (.ifCond .ne 5, 3) := by decide +kernel
theorem d_JT_indexOf_7 : decode b_JT_indexOf 7 = .ok (.iconst (-1), 1) := by decide +kernel
theorem d_JT_indexOf_8 : decode b_JT_indexOf 8 = .ok (.ireturn, 1) := by decide +kernel
theorem d_JT_indexOf_9 : decode b_JT_indexOf 9 = .ok (.iload_n 2, 1) := by decide +kernel
theorem d_JT_indexOf_10 : decode b_JT_indexOf 10 = .ok (.iconst 0, 1) := by decide +kernel
theorem d_JT_indexOf_11 : decode b_JT_indexOf 11 = .ok (.invokestatic 92, 3) := by decide +kernel
theorem d_JT_indexOf_14 : decode b_JT_indexOf 14 = .ok (.istore_n 2, 1) := by decide +kernel
theorem d_JT_indexOf_15 : decode b_JT_indexOf 15 = .ok (.iload_n 3, 1) := by decide +kernel
theorem d_JT_indexOf_16 : decode b_JT_indexOf 16 = .ok (.aload_n 0, 1) := by decide +kernel
theorem d_JT_indexOf_17 : decode b_JT_indexOf 17 = .ok (.arraylength, 1) := by decide +kernel
theorem d_JT_indexOf_18 : decode b_JT_indexOf 18 = .ok (.invokestatic 38, 3) := by decide +kernel
theorem d_JT_indexOf_21 : decode b_JT_indexOf 21 = .ok (.istore_n 3, 1) := by decide +kernel
theorem d_JT_indexOf_22 : decode b_JT_indexOf 22 = .ok (.iload_n 2, 1) := by decide +kernel
theorem d_JT_indexOf_23 : decode b_JT_indexOf 23 = .ok (.iload_n 3, 1) := by decide +kernel
theorem d_JT_indexOf_24 : decode b_JT_indexOf 24 = .ok (.if_icmp .lt 5, 3) := by decide +kernel
theorem d_JT_indexOf_27 : decode b_JT_indexOf 27 = .ok (.iconst (-1), 1) := by decide +kernel
theorem d_JT_indexOf_28 : decode b_JT_indexOf 28 = .ok (.ireturn, 1) := by decide +kernel
theorem d_JT_indexOf_29 : decode b_JT_indexOf 29 = .ok (.aload_n 0, 1) := by decide +kernel
theorem d_JT_indexOf_30 : decode b_JT_indexOf 30 = .ok (.iload_n 1, 1) := by decide +kernel
theorem d_JT_indexOf_31 : decode b_JT_indexOf 31 = .ok (.iload_n 2, 1) := by decide +kernel
theorem d_JT_indexOf_32 : decode b_JT_indexOf 32 = .ok (.iload_n 3, 1) := by decide +kernel
theorem d_JT_indexOf_33 : decode b_JT_indexOf 33 = .ok (.invokestatic 95, 3) := by decide +kernel
theorem d_JT_indexOf_36 : decode b_JT_indexOf 36 = .ok (.ireturn, 1) := by decide +kernel
def f_JT_indexOf_22 (x1 : Int32) (x2 : Int32) (x3 : Int32) (σ : St) : Int32 := if x2 < x3 then (f_JT_indexOfChar x1 x2 x3 σ) else (-1)
def k_JT_indexOf_22 (x1 : Int32) (x2 : Int32) (x3 : Int32) (σ : St) : Prop := (x2 < x3 → ((k_JT_indexOfChar x1 x2 x3 σ) ∧ True)) ∧ (¬ x2 < x3 → True)
def f_JT_indexOf_15 (x1 : Int32) (x2 : Int32) (x3 : Int32) (σ : St) : Int32 := f_JT_indexOf_22 x1 x2 (if (8 : Int32) < x3 then (8 : Int32) else x3) σ
def k_JT_indexOf_15 (x1 : Int32) (x2 : Int32) (x3 : Int32) (σ : St) : Prop := k_JT_indexOf_22 x1 x2 (if (8 : Int32) < x3 then (8 : Int32) else x3) σ
def f_JT_indexOf (a1 : Int32) (a2 : Int32) (a3 : Int32) (σ : St) : Int32 := if (f_JT_canEncode a1 σ) = 0 then (-1) else (f_JT_indexOf_15 a1 (if a2 < 0 then 0 else a2) a3 σ)
def k_JT_indexOf (a1 : Int32) (a2 : Int32) (a3 : Int32) (σ : St) : Prop := (k_JT_canEncode a1 σ) ∧ (((f_JT_canEncode a1 σ) = 0 → True) ∧ (¬ (f_JT_canEncode a1 σ) = 0 → (k_JT_indexOf_15 a1 (if a2 < 0 then 0 else a2) a3 σ)))
abbrev w_JT_indexOf : List Cond := Cond.code y_JT_indexOf b_JT_indexOf 4 (some .int) :: gw
abbrev rm_JT_indexOf : Room := { frames := 1, cells := 0, slots := 0, locals := 25 }
set_option maxHeartbeats 4000000 in
set_option maxRecDepth 100000 in
theorem c_JT_indexOf (l : Launch) (D : va_G) (ty : Nat → ClassId) (h : Nat → Nat) (px : va_W) (sa : Nat → Nat) (σ : St) (a1 : Int32) (a2 : Int32) (a3 : Int32) (hk : k_JT_indexOf a1 a2 a3 σ) : Met l y_JT_indexOf w_JT_indexOf rm_JT_indexOf (va_Pc [.ref (sa 5), .int a1, .int a2, .int a3] (fun U => va_P D classes (Wc ty h σ px) U.heap ∧ va_K D classes (Ta ty) U ∧ NW U ∧ MK sa (fun _ => False) U U.heap)) (k2_QcV (.int (f_JT_indexOf a1 a2 a3 σ))) 0 0 (fun _ => False) := by
  refine Met.ofWF (cc := b_JT_indexOf) (maxL := 4) (ret := (some .int)) (by decide +kernel) rfl ?_
  intro p e s m args below meth c s₁ B hml hv
  obtain ⟨ha, hP, hK, hN, hM⟩ := hv
  have hx := B.exec
  have hb := B.bytes
  have hr := B.returns
  have hg : ∀ w ∈ gw, w.before args s = true := fun w h9 => atoms_spec (ws := w_JT_indexOf) B.pre w (List.mem_cons_of_mem _ h9)
  have hown : s.vm.findClass "java/lang/StringLatin1" = some m.cls := findClass_of_methodNamed B.named
  have hlocks := B.notSynchronized
  have he : entryFrame m args 4 = entryFrame m ([.ref (sa 5), .int a1, .int a2, .int a3] : List Value).toArray 4 := by rw [ha]
  rw [he, lg_entry_eq]
  have hl := lv_entry ([.ref (sa 5), .int a1, .int a2, .int a3]) (n := 4) (Nat.le_of_ble_eq_true rfl)
  generalize (lg_sl ([.ref (sa 5), .int a1, .int a2, .int a3]) ++ List.replicate (4 - (lg_sl ([.ref (sa 5), .int a1, .int a2, .int a3])).length) Slot.unset).toArray = ls at hl ⊢
  have hl : lv_has ls 4 [(0, .ref (sa 5)), (1, .int a1), (2, .int a2), (3, .int a3)] := hl
  generalize hv : f_JT_indexOf a1 a2 a3 σ = v
  replace hv := hv.symm
  have B22 : ∀ (ls : Array Slot) (x1 : Int32) (x2 : Int32) (x3 : Int32), v = f_JT_indexOf_22 x1 x2 x3 σ → k_JT_indexOf_22 x1 x2 x3 σ → lv_has ls 4 [(0, .ref (sa 5)), (1, .int x1), (2, .int x2), (3, .int x3)] → W p l e (headSpec w_JT_indexOf rm_JT_indexOf).room s m args below meth c s.heap [] 0 0 (MQ below (k2_QcV (.int v)) args s 0 0 (fun _ => False)) (F0 m 22 ls []) := by
    intro ls x1 x2 x3 hv hk hl
    unfold f_JT_indexOf_22 at hv
    unfold k_JT_indexOf_22 at hk
    refine lv_iload_n hx hb d_JT_indexOf_22 rfl (lv_at hl 2 rfl) ?_
    refine lv_iload_n hx hb d_JT_indexOf_23 rfl (lv_at hl 3 rfl) ?_
    refine lv_icmp_lt (tgt := 29) hx hb d_JT_indexOf_24 (by decide) (fun hc => ?_) (fun hc => ?_)
    · have hv := hv.trans (if_pos hc)
      have hk := hk.1 hc
      refine lv_aload_n hx hb d_JT_indexOf_29 rfl (lv_at hl 0 rfl) ?_
      refine lv_iload_n hx hb d_JT_indexOf_30 rfl (lv_at hl 1 rfl) ?_
      refine lv_iload_n hx hb d_JT_indexOf_31 rfl (lv_at hl 2 rfl) ?_
      refine lv_iload_n hx hb d_JT_indexOf_32 rfl (lv_at hl 3 rfl) ?_
      obtain ⟨hk0, hk⟩ := hk
      refine zz_callV (va_runS (As := [.ref (sa 5), .int x1, .int x2, .int x3]) (rest := []) ⟨hx, hb, hml, hown, hg⟩ (c_JT_indexOfChar l D ty h px sa σ x1 x2 x3 hk0) ⟨callB_of 4 hg (gw_C m_688) rfl rfl rfl (hg _ m_16) (hg _ m_686) hd_JT_indexOfChar ⟨Nat.le_of_ble_eq_true rfl, Nat.le_of_ble_eq_true rfl⟩, hg _ m_687⟩ (zz_preS hM hN hK hP) rfl rfl hl.1 rfl (lv_room (Nat.le_of_ble_eq_true rfl)) d_JT_indexOf_33 ⟨Nat.le_of_ble_eq_true rfl, Nat.le_of_ble_eq_true rfl⟩) ?_
      exact W.iret hx hb hr (fun t ht hW => ⟨by rw [hv], ht⟩) (fun q h => nomatch h) d_JT_indexOf_36
    · have hv := hv.trans (if_neg hc)
      have hk := hk.2 hc
      refine lv_iconst (v := -1) hx hb d_JT_indexOf_27 (by decide) ?_
      exact W.iret hx hb hr (fun t ht hW => ⟨by rw [hv], ht⟩) (fun q h => nomatch h) d_JT_indexOf_28
  have B15 : ∀ (ls : Array Slot) (x1 : Int32) (x2 : Int32) (x3 : Int32), v = f_JT_indexOf_15 x1 x2 x3 σ → k_JT_indexOf_15 x1 x2 x3 σ → lv_has ls 4 [(0, .ref (sa 5)), (1, .int x1), (2, .int x2), (3, .int x3)] → W p l e (headSpec w_JT_indexOf rm_JT_indexOf).room s m args below meth c s.heap [] 0 0 (MQ below (k2_QcV (.int v)) args s 0 0 (fun _ => False)) (F0 m 15 ls []) := by
    intro ls x1 x2 x3 hv hk hl
    unfold f_JT_indexOf_15 at hv
    unfold k_JT_indexOf_15 at hk
    refine lv_iload_n hx hb d_JT_indexOf_15 rfl (lv_at hl 3 rfl) ?_
    refine lv_aload_n hx hb d_JT_indexOf_16 rfl (lv_at hl 0 rfl) ?_
    refine va_tlen (v := 8) hx hb (hM.1.1 0 (by decide)).2.2.2 va_S.rf (by decide) d_JT_indexOf_17 ?_
    refine va_mmin hx hb (hml.trans hl.1.symm) hown (hg _ m_685) (hg _ m_640) (hg _ m_14) (hg _ m_641) (Nat.le_of_ble_eq_true rfl) (Nat.le_of_ble_eq_true rfl) (Nat.le_of_ble_eq_true rfl) (Nat.le_of_ble_eq_true rfl) d_JT_indexOf_18 ?_
    refine lv_istore_n (lv' := [(3, .int (if (8 : Int32) < x3 then (8 : Int32) else x3)), (0, .ref (sa 5)), (1, .int x1), (2, .int x2)]) hx hb d_JT_indexOf_21 rfl hl (by decide) rfl (fun ls hl => ?_)
    exact B22 _ x1 x2 (if (8 : Int32) < x3 then (8 : Int32) else x3) hv hk (lv_sub hl [1, 2, 3, 0] rfl)
  unfold f_JT_indexOf at hv
  unfold k_JT_indexOf at hk
  refine lv_iload_n hx hb d_JT_indexOf_0 rfl (lv_at hl 1 rfl) ?_
  obtain ⟨hk0, hk⟩ := hk
  refine zz_callV (va_runS (As := [.int a1]) (rest := []) ⟨hx, hb, hml, hown, hg⟩ (c_JT_canEncode l D ty h px sa σ a1 hk0) ⟨callB_of 1 hg (gw_C m_683) rfl rfl rfl (hg _ m_16) (hg _ m_681) hd_JT_canEncode ⟨Nat.le_of_ble_eq_true rfl, Nat.le_of_ble_eq_true rfl⟩, hg _ m_682⟩ (zz_preS hM hN hK hP) rfl rfl hl.1 rfl (lv_room (Nat.le_of_ble_eq_true rfl)) d_JT_indexOf_1 ⟨Nat.le_of_ble_eq_true rfl, Nat.le_of_ble_eq_true rfl⟩) ?_
  refine lv_if_ne (tgt := 9) hx hb d_JT_indexOf_4 (by decide) (fun hc => ?_) (fun hc => ?_)
  · have hv := hv.trans (if_neg hc)
    have hk := hk.2 hc
    refine lv_iload_n hx hb d_JT_indexOf_9 rfl (lv_at hl 2 rfl) ?_
    refine lv_iconst (v := 0) hx hb d_JT_indexOf_10 (by decide) ?_
    refine va_mmax hx hb (hml.trans hl.1.symm) hown (hg _ m_684) (hg _ m_629) (hg _ m_14) (hg _ m_630) (Nat.le_of_ble_eq_true rfl) (Nat.le_of_ble_eq_true rfl) (Nat.le_of_ble_eq_true rfl) (Nat.le_of_ble_eq_true rfl) d_JT_indexOf_11 ?_
    refine lv_istore_n (lv' := [(2, .int (if a2 < 0 then 0 else a2)), (0, .ref (sa 5)), (1, .int a1), (3, .int a3)]) hx hb d_JT_indexOf_14 rfl hl (by decide) rfl (fun ls hl => ?_)
    exact B15 _ a1 (if a2 < 0 then 0 else a2) a3 hv hk (lv_sub hl [1, 2, 0, 3] rfl)
  · have hv := hv.trans (if_pos hc)
    have hk := hk.1 hc
    refine lv_iconst (v := -1) hx hb d_JT_indexOf_7 (by decide) ?_
    exact W.iret hx hb hr (fun t ht hW => ⟨by rw [hv], ht⟩) (fun q h => nomatch h) d_JT_indexOf_8

-- java/lang/String.indexOf(II)I
abbrev b_JS_indexOf_7 : ByteArray := prog_24_method_80_code
def y_JS_indexOf_7 : MethodName := ⟨"java/lang/String", "indexOf", "(II)I"⟩
theorem hd_JS_indexOf_7 : y_JS_indexOf_7.cls ≠ "java/lang/invoke/MethodHandle" ∧ y_JS_indexOf_7.cls ≠ "java/lang/invoke/VarHandle" ∧ (parseMethodDescriptor y_JS_indexOf_7.desc).map (fun d => d.parameters.length) = some 2 := by decide +kernel
theorem d_JS_indexOf_7_0 : decode b_JS_indexOf_7 0 = .ok (.aload_n 0, 1) := by decide +kernel
theorem d_JS_indexOf_7_1 : decode b_JS_indexOf_7 1 = .ok (.invokevirtual 492, 3) := by decide +kernel
theorem d_JS_indexOf_7_4 : decode b_JS_indexOf_7 4 = .ok (.ifCond .eq 19, 3) := by decide +kernel
theorem d_JS_indexOf_7_7 : decode b_JS_indexOf_7 7 = .ok (.aload_n 0, 1) := by decide +kernel
theorem d_JS_indexOf_7_8 : decode b_JS_indexOf_7 8 = .ok (.getfield 9, 3) := by decide +kernel
theorem d_JS_indexOf_7_11 : decode b_JS_indexOf_7 11 = .ok (.iload_n 1, 1) := by decide +kernel
theorem d_JS_indexOf_7_12 : decode b_JS_indexOf_7 12 = .ok (.iload_n 2, 1) := by decide +kernel
theorem d_JS_indexOf_7_13 : decode b_JS_indexOf_7 13 = .ok (.aload_n 0, 1) := by decide +kernel
theorem d_JS_indexOf_7_14 : decode b_JS_indexOf_7 14 = .ok (.invokevirtual 505, 3) := by decide +kernel
theorem d_JS_indexOf_7_17 : decode b_JS_indexOf_7 17 = .ok (.invokestatic 637, 3) := by decide +kernel
theorem d_JS_indexOf_7_20 : decode b_JS_indexOf_7 20 = .ok (.goto 16, 3) := by decide +kernel
theorem d_JS_indexOf_7_23 : decode b_JS_indexOf_7 23 = .ok (.aload_n 0, 1) := by decide +kernel
theorem d_JS_indexOf_7_24 : decode b_JS_indexOf_7 24 = .ok (.getfield 9, 3) := by decide +kernel
theorem d_JS_indexOf_7_27 : decode b_JS_indexOf_7 27 = .ok (.iload_n 1, 1) := by decide +kernel
theorem d_JS_indexOf_7_28 : decode b_JS_indexOf_7 28 = .ok (.iload_n 2, 1) := by decide +kernel
theorem d_JS_indexOf_7_29 : decode b_JS_indexOf_7 29 = .ok (.aload_n 0, 1) := by decide +kernel
theorem d_JS_indexOf_7_30 : decode b_JS_indexOf_7 30 = .ok (.invokevirtual 505, 3) := by decide +kernel
theorem d_JS_indexOf_7_33 : decode b_JS_indexOf_7 33 = .ok (.invokestatic 640, 3) := by decide +kernel
theorem d_JS_indexOf_7_36 : decode b_JS_indexOf_7 36 = .ok (.ireturn, 1) := by decide +kernel
def f_JS_indexOf_7_36 (s0 : Int32) (σ : St) : Int32 := s0
def k_JS_indexOf_7_36 (s0 : Int32) (σ : St) : Prop := True
def f_JS_indexOf_7 (a1 : Int32) (a2 : Int32) (σ : St) : Int32 := if (f_JS_isLatin1 σ) = 0 then 0 else (f_JS_indexOf_7_36 (f_JT_indexOf a1 a2 (f_JS_length σ) σ) σ)
def k_JS_indexOf_7 (a1 : Int32) (a2 : Int32) (σ : St) : Prop := (k_JS_isLatin1 σ) ∧ (((f_JS_isLatin1 σ) = 0 → ((k_JS_length σ) ∧ False)) ∧ (¬ (f_JS_isLatin1 σ) = 0 → ((k_JS_length σ) ∧ ((k_JT_indexOf a1 a2 (f_JS_length σ) σ) ∧ (k_JS_indexOf_7_36 (f_JT_indexOf a1 a2 (f_JS_length σ) σ) σ)))))
abbrev w_JS_indexOf_7 : List Cond := Cond.code y_JS_indexOf_7 b_JS_indexOf_7 3 (some .int) :: gw
abbrev rm_JS_indexOf_7 : Room := { frames := 2, cells := 0, slots := 0, locals := 48 }
set_option maxHeartbeats 4000000 in
set_option maxRecDepth 100000 in
theorem c_JS_indexOf_7 (l : Launch) (D : va_G) (ty : Nat → ClassId) (h : Nat → Nat) (px : va_W) (sa : Nat → Nat) (σ : St) (a1 : Int32) (a2 : Int32) (hk : k_JS_indexOf_7 a1 a2 σ) : Met l y_JS_indexOf_7 w_JS_indexOf_7 rm_JS_indexOf_7 (va_Pc [.ref (sa 4), .int a1, .int a2] (fun U => va_P D classes (Wc ty h σ px) U.heap ∧ va_K D classes (Ta ty) U ∧ NW U ∧ MK sa (fun _ => False) U U.heap)) (k2_QcV (.int (f_JS_indexOf_7 a1 a2 σ))) 0 0 (fun _ => False) := by
  refine Met.ofWF (cc := b_JS_indexOf_7) (maxL := 3) (ret := (some .int)) (by decide +kernel) rfl ?_
  intro p e s m args below meth c s₁ B hml hv
  obtain ⟨ha, hP, hK, hN, hM⟩ := hv
  have hx := B.exec
  have hb := B.bytes
  have hr := B.returns
  have hg : ∀ w ∈ gw, w.before args s = true := fun w h9 => atoms_spec (ws := w_JS_indexOf_7) B.pre w (List.mem_cons_of_mem _ h9)
  have hown : s.vm.findClass "java/lang/String" = some m.cls := findClass_of_methodNamed B.named
  have hlocks := B.notSynchronized
  have he : entryFrame m args 3 = entryFrame m ([.ref (sa 4), .int a1, .int a2] : List Value).toArray 3 := by rw [ha]
  rw [he, lg_entry_eq]
  have hl := lv_entry ([.ref (sa 4), .int a1, .int a2]) (n := 3) (Nat.le_of_ble_eq_true rfl)
  generalize (lg_sl ([.ref (sa 4), .int a1, .int a2]) ++ List.replicate (3 - (lg_sl ([.ref (sa 4), .int a1, .int a2])).length) Slot.unset).toArray = ls at hl ⊢
  have hl : lv_has ls 3 [(0, .ref (sa 4)), (1, .int a1), (2, .int a2)] := hl
  generalize hv : f_JS_indexOf_7 a1 a2 σ = v
  replace hv := hv.symm
  have B36 : ∀ (ls : Array Slot) (s0 : Int32), v = f_JS_indexOf_7_36 s0 σ → k_JS_indexOf_7_36 s0 σ → lv_has ls 3 [] → W p l e (headSpec w_JS_indexOf_7 rm_JS_indexOf_7).room s m args below meth c s.heap [] 0 0 (MQ below (k2_QcV (.int v)) args s 0 0 (fun _ => False)) (F0 m 36 ls [.int s0]) := by
    intro ls s0 hv hk hl
    unfold f_JS_indexOf_7_36 at hv
    unfold k_JS_indexOf_7_36 at hk
    exact W.iret hx hb hr (fun t ht hW => ⟨by rw [hv], ht⟩) (fun q h => nomatch h) d_JS_indexOf_7_36
  unfold f_JS_indexOf_7 at hv
  unfold k_JS_indexOf_7 at hk
  refine lv_aload_n hx hb d_JS_indexOf_7_0 rfl (lv_at hl 0 rfl) ?_
  obtain ⟨hk0, hk⟩ := hk
  refine zz_callV (va_runV (As := []) (rest := []) ⟨hx, hb, hml, hown, hg⟩ (c_JS_isLatin1 l D ty h px sa σ  hk0) ⟨callB_of 0 hg (gw_C m_500) rfl rfl rfl (hg _ m_15) (hg _ m_497) hd_JS_isLatin1 ⟨Nat.le_of_ble_eq_true rfl, Nat.le_of_ble_eq_true rfl⟩, hg _ m_498, hg _ m_499⟩ (zz_preT hM hN hK hP) rfl rfl hl.1 rfl (lv_room (Nat.le_of_ble_eq_true rfl)) d_JS_indexOf_7_1 ⟨Nat.le_of_ble_eq_true rfl, Nat.le_of_ble_eq_true rfl⟩) ?_
  refine lv_if_eq (tgt := 23) hx hb d_JS_indexOf_7_4 (by decide) (fun hc => ?_) (fun hc => ?_)
  · have hv := hv.trans (if_pos hc)
    have hk := hk.1 hc
    refine lv_aload_n hx hb d_JS_indexOf_7_23 rfl (lv_at hl 0 rfl) ?_
    refine vk_getf hx hb (hM.1.1 0 (by decide)).2.2.1 va_S.rf hown (hg _ m_1676) (fun _ h9 => h9) d_JS_indexOf_7_24 ?_
    refine lv_iload_n hx hb d_JS_indexOf_7_27 rfl (lv_at hl 1 rfl) ?_
    refine lv_iload_n hx hb d_JS_indexOf_7_28 rfl (lv_at hl 2 rfl) ?_
    refine lv_aload_n hx hb d_JS_indexOf_7_29 rfl (lv_at hl 0 rfl) ?_
    obtain ⟨hk0, hk⟩ := hk
    refine zz_callV (va_runV (As := []) (rest := [.int a2, .int a1, .ref (sa 5)]) ⟨hx, hb, hml, hown, hg⟩ (c_JS_length l D ty h px sa σ  hk0) ⟨callB_of 0 hg (gw_C m_485) rfl rfl rfl (hg _ m_15) (hg _ m_677) hd_JS_length ⟨Nat.le_of_ble_eq_true rfl, Nat.le_of_ble_eq_true rfl⟩, hg _ m_483, hg _ m_484⟩ (zz_preT hM hN hK hP) rfl rfl hl.1 rfl (lv_room (Nat.le_of_ble_eq_true rfl)) d_JS_indexOf_7_30 ⟨Nat.le_of_ble_eq_true rfl, Nat.le_of_ble_eq_true rfl⟩) ?_
    exact hk.elim
  · have hv := hv.trans (if_neg hc)
    have hk := hk.2 hc
    refine lv_aload_n hx hb d_JS_indexOf_7_7 rfl (lv_at hl 0 rfl) ?_
    refine vk_getf hx hb (hM.1.1 0 (by decide)).2.2.1 va_S.rf hown (hg _ m_1676) (fun _ h9 => h9) d_JS_indexOf_7_8 ?_
    refine lv_iload_n hx hb d_JS_indexOf_7_11 rfl (lv_at hl 1 rfl) ?_
    refine lv_iload_n hx hb d_JS_indexOf_7_12 rfl (lv_at hl 2 rfl) ?_
    refine lv_aload_n hx hb d_JS_indexOf_7_13 rfl (lv_at hl 0 rfl) ?_
    obtain ⟨hk0, hk⟩ := hk
    refine zz_callV (va_runV (As := []) (rest := [.int a2, .int a1, .ref (sa 5)]) ⟨hx, hb, hml, hown, hg⟩ (c_JS_length l D ty h px sa σ  hk0) ⟨callB_of 0 hg (gw_C m_485) rfl rfl rfl (hg _ m_15) (hg _ m_677) hd_JS_length ⟨Nat.le_of_ble_eq_true rfl, Nat.le_of_ble_eq_true rfl⟩, hg _ m_483, hg _ m_484⟩ (zz_preT hM hN hK hP) rfl rfl hl.1 rfl (lv_room (Nat.le_of_ble_eq_true rfl)) d_JS_indexOf_7_14 ⟨Nat.le_of_ble_eq_true rfl, Nat.le_of_ble_eq_true rfl⟩) ?_
    obtain ⟨hk0, hk⟩ := hk
    refine zz_callV (va_runS (As := [.ref (sa 5), .int a1, .int a2, .int (f_JS_length σ)]) (rest := []) ⟨hx, hb, hml, hown, hg⟩ (c_JT_indexOf l D ty h px sa σ a1 a2 (f_JS_length σ) hk0) ⟨callB_of 4 hg (gw_C m_680) rfl rfl rfl (hg _ m_16) (hg _ m_678) hd_JT_indexOf ⟨Nat.le_of_ble_eq_true rfl, Nat.le_of_ble_eq_true rfl⟩, hg _ m_679⟩ (zz_preS hM hN hK hP) rfl rfl hl.1 rfl (lv_room (Nat.le_of_ble_eq_true rfl)) d_JS_indexOf_7_17 ⟨Nat.le_of_ble_eq_true rfl, Nat.le_of_ble_eq_true rfl⟩) ?_
    refine lv_goto (tgt := 36) hx hb d_JS_indexOf_7_20 (by decide) ?_
    exact B36 _ (f_JT_indexOf a1 a2 (f_JS_length σ) σ) hv hk (lv_sub hl [] rfl)

-- java/lang/String.indexOf(I)I
abbrev b_JS_indexOf_6 : ByteArray := prog_24_method_79_code
def y_JS_indexOf_6 : MethodName := ⟨"java/lang/String", "indexOf", "(I)I"⟩
theorem hd_JS_indexOf_6 : y_JS_indexOf_6.cls ≠ "java/lang/invoke/MethodHandle" ∧ y_JS_indexOf_6.cls ≠ "java/lang/invoke/VarHandle" ∧ (parseMethodDescriptor y_JS_indexOf_6.desc).map (fun d => d.parameters.length) = some 1 := by decide +kernel
theorem d_JS_indexOf_6_0 : decode b_JS_indexOf_6 0 = .ok (.aload_n 0, 1) := by decide +kernel
theorem d_JS_indexOf_6_1 : decode b_JS_indexOf_6 1 = .ok (.iload_n 1, 1) := by decide +kernel
theorem d_JS_indexOf_6_2 : decode b_JS_indexOf_6 2 = .ok (.iconst 0, 1) := by decide +kernel
theorem d_JS_indexOf_6_3 : decode b_JS_indexOf_6 3 = .ok (.invokevirtual 633, 3) := by decide +kernel
theorem d_JS_indexOf_6_6 : decode b_JS_indexOf_6 6 = .ok (.ireturn, 1) := by decide +kernel
def f_JS_indexOf_6 (a1 : Int32) (σ : St) : Int32 := f_JS_indexOf_7 a1 0 σ
def k_JS_indexOf_6 (a1 : Int32) (σ : St) : Prop := (k_JS_indexOf_7 a1 0 σ) ∧ True
abbrev w_JS_indexOf_6 : List Cond := Cond.code y_JS_indexOf_6 b_JS_indexOf_6 2 (some .int) :: gw
abbrev rm_JS_indexOf_6 : Room := { frames := 3, cells := 0, slots := 0, locals := 70 }
set_option maxHeartbeats 4000000 in
set_option maxRecDepth 100000 in
theorem c_JS_indexOf_6 (l : Launch) (D : va_G) (ty : Nat → ClassId) (h : Nat → Nat) (px : va_W) (sa : Nat → Nat) (σ : St) (a1 : Int32) (hk : k_JS_indexOf_6 a1 σ) : Met l y_JS_indexOf_6 w_JS_indexOf_6 rm_JS_indexOf_6 (va_Pc [.ref (sa 4), .int a1] (fun U => va_P D classes (Wc ty h σ px) U.heap ∧ va_K D classes (Ta ty) U ∧ NW U ∧ MK sa (fun _ => False) U U.heap)) (k2_QcV (.int (f_JS_indexOf_6 a1 σ))) 0 0 (fun _ => False) := by
  refine Met.ofWF (cc := b_JS_indexOf_6) (maxL := 2) (ret := (some .int)) (by decide +kernel) rfl ?_
  intro p e s m args below meth c s₁ B hml hv
  obtain ⟨ha, hP, hK, hN, hM⟩ := hv
  have hx := B.exec
  have hb := B.bytes
  have hr := B.returns
  have hg : ∀ w ∈ gw, w.before args s = true := fun w h9 => atoms_spec (ws := w_JS_indexOf_6) B.pre w (List.mem_cons_of_mem _ h9)
  have hown : s.vm.findClass "java/lang/String" = some m.cls := findClass_of_methodNamed B.named
  have hlocks := B.notSynchronized
  have he : entryFrame m args 2 = entryFrame m ([.ref (sa 4), .int a1] : List Value).toArray 2 := by rw [ha]
  rw [he, lg_entry_eq]
  have hl := lv_entry ([.ref (sa 4), .int a1]) (n := 2) (Nat.le_of_ble_eq_true rfl)
  generalize (lg_sl ([.ref (sa 4), .int a1]) ++ List.replicate (2 - (lg_sl ([.ref (sa 4), .int a1])).length) Slot.unset).toArray = ls at hl ⊢
  have hl : lv_has ls 2 [(0, .ref (sa 4)), (1, .int a1)] := hl
  generalize hv : f_JS_indexOf_6 a1 σ = v
  replace hv := hv.symm
  unfold f_JS_indexOf_6 at hv
  unfold k_JS_indexOf_6 at hk
  refine lv_aload_n hx hb d_JS_indexOf_6_0 rfl (lv_at hl 0 rfl) ?_
  refine lv_iload_n hx hb d_JS_indexOf_6_1 rfl (lv_at hl 1 rfl) ?_
  refine lv_iconst (v := 0) hx hb d_JS_indexOf_6_2 (by decide) ?_
  obtain ⟨hk0, hk⟩ := hk
  refine zz_callV (va_runV (As := [.int a1, .int 0]) (rest := []) ⟨hx, hb, hml, hown, hg⟩ (c_JS_indexOf_7 l D ty h px sa σ a1 0 hk0) ⟨callB_of 2 hg (gw_C m_676) rfl rfl rfl (hg _ m_15) (hg _ m_673) hd_JS_indexOf_7 ⟨Nat.le_of_ble_eq_true rfl, Nat.le_of_ble_eq_true rfl⟩, hg _ m_674, hg _ m_675⟩ (zz_preT hM hN hK hP) rfl rfl hl.1 rfl (lv_room (Nat.le_of_ble_eq_true rfl)) d_JS_indexOf_6_3 ⟨Nat.le_of_ble_eq_true rfl, Nat.le_of_ble_eq_true rfl⟩) ?_
  exact W.iret hx hb hr (fun t ht hW => ⟨by rw [hv], ht⟩) (fun q h => nomatch h) d_JS_indexOf_6_6

-- java/lang/Long.compare(JJ)I
abbrev b_JL_compare : ByteArray := prog_21_method_42_code
def y_JL_compare : MethodName := ⟨"java/lang/Long", "compare", "(JJ)I"⟩
theorem hd_JL_compare : y_JL_compare.cls ≠ "java/lang/invoke/MethodHandle" ∧ y_JL_compare.cls ≠ "java/lang/invoke/VarHandle" ∧ (parseMethodDescriptor y_JL_compare.desc).map (fun d => d.parameters.length) = some 2 := by decide +kernel
theorem d_JL_compare_0 : decode b_JL_compare 0 = .ok (.lload_n 0, 1) := by decide +kernel
theorem d_JL_compare_1 : decode b_JL_compare 1 = .ok (.lload_n 2, 1) := by decide +kernel
theorem d_JL_compare_2 : decode b_JL_compare 2 = .ok (.lcmp, 1) := by decide +kernel
theorem d_JL_compare_3 : decode b_JL_compare 3 = .ok (.ifCond .ge 7, 3) := by decide +kernel
theorem d_JL_compare_6 : decode b_JL_compare 6 = .ok (.iconst (-1), 1) := by decide +kernel
theorem d_JL_compare_7 : decode b_JL_compare 7 = .ok (.goto 14, 3) := by decide +kernel
theorem d_JL_compare_10 : decode b_JL_compare 10 = .ok (.lload_n 0, 1) := by decide +kernel
theorem d_JL_compare_11 : decode b_JL_compare 11 = .ok (.lload_n 2, 1) := by decide +kernel
theorem d_JL_compare_12 : decode b_JL_compare 12 = .ok (.lcmp, 1) := by decide +kernel
theorem d_JL_compare_13 : decode b_JL_compare 13 = .ok (.ifCond .ne 7, 3) := by decide +kernel
theorem d_JL_compare_16 : decode b_JL_compare 16 = .ok (.iconst 0, 1) := by decide +kernel
theorem d_JL_compare_17 : decode b_JL_compare 17 = .ok (.goto 4, 3) := by decide +kernel
theorem d_JL_compare_20 : decode b_JL_compare 20 = .ok (.iconst 1, 1) := by decide +kernel
theorem d_JL_compare_21 : decode b_JL_compare 21 = .ok (.ireturn, 1) := by decide +kernel
def f_JL_compare_21 (s0 : Int32) (σ : St) : Int32 := s0
def k_JL_compare_21 (s0 : Int32) (σ : St) : Prop := True
def f_JL_compare (a0 : Int64) (a2 : Int64) (σ : St) : Int32 := if 0 ≤ (lg_cmp a0 a2) then (if (lg_cmp a0 a2) = 0 then (f_JL_compare_21 0 σ) else (f_JL_compare_21 1 σ)) else (f_JL_compare_21 (-1) σ)
def k_JL_compare (a0 : Int64) (a2 : Int64) (σ : St) : Prop := (0 ≤ (lg_cmp a0 a2) → (((lg_cmp a0 a2) = 0 → (k_JL_compare_21 0 σ)) ∧ (¬ (lg_cmp a0 a2) = 0 → (k_JL_compare_21 1 σ)))) ∧ (¬ 0 ≤ (lg_cmp a0 a2) → (k_JL_compare_21 (-1) σ))
abbrev w_JL_compare : List Cond := Cond.code y_JL_compare b_JL_compare 4 (some .int) :: gw
abbrev rm_JL_compare : Room := { frames := 0, cells := 0, slots := 0, locals := 0 }
set_option maxHeartbeats 4000000 in
set_option maxRecDepth 100000 in
theorem c_JL_compare (l : Launch) (D : va_G) (ty : Nat → ClassId) (h : Nat → Nat) (px : va_W) (sa : Nat → Nat) (σ : St) (a0 : Int64) (a2 : Int64) (hk : k_JL_compare a0 a2 σ) : Met l y_JL_compare w_JL_compare rm_JL_compare (va_Pc [.long a0, .long a2] (fun U => va_P D classes (Wc ty h σ px) U.heap ∧ va_K D classes (Ta ty) U ∧ NW U ∧ MK sa (fun _ => False) U U.heap)) (k2_QcV (.int (f_JL_compare a0 a2 σ))) 0 0 (fun _ => False) := by
  refine Met.ofWF (cc := b_JL_compare) (maxL := 4) (ret := (some .int)) (by decide +kernel) rfl ?_
  intro p e s m args below meth c s₁ B hml hv
  obtain ⟨ha, hP, hK, hN, hM⟩ := hv
  have hx := B.exec
  have hb := B.bytes
  have hr := B.returns
  have hg : ∀ w ∈ gw, w.before args s = true := fun w h9 => atoms_spec (ws := w_JL_compare) B.pre w (List.mem_cons_of_mem _ h9)
  have hown : s.vm.findClass "java/lang/Long" = some m.cls := findClass_of_methodNamed B.named
  have hlocks := B.notSynchronized
  have he : entryFrame m args 4 = entryFrame m ([.long a0, .long a2] : List Value).toArray 4 := by rw [ha]
  rw [he, lg_entry_eq]
  have hl := lv_entry ([.long a0, .long a2]) (n := 4) (Nat.le_of_ble_eq_true rfl)
  generalize (lg_sl ([.long a0, .long a2]) ++ List.replicate (4 - (lg_sl ([.long a0, .long a2])).length) Slot.unset).toArray = ls at hl ⊢
  have hl : lv_has ls 4 [(0, .long a0), (2, .long a2)] := hl
  generalize hv : f_JL_compare a0 a2 σ = v
  replace hv := hv.symm
  have B21 : ∀ (ls : Array Slot) (s0 : Int32), v = f_JL_compare_21 s0 σ → k_JL_compare_21 s0 σ → lv_has ls 4 [] → W p l e (headSpec w_JL_compare rm_JL_compare).room s m args below meth c s.heap [] 0 0 (MQ below (k2_QcV (.int v)) args s 0 0 (fun _ => False)) (F0 m 21 ls [.int s0]) := by
    intro ls s0 hv hk hl
    unfold f_JL_compare_21 at hv
    unfold k_JL_compare_21 at hk
    exact W.iret hx hb hr (fun t ht hW => ⟨by rw [hv], ht⟩) (fun q h => nomatch h) d_JL_compare_21
  unfold f_JL_compare at hv
  unfold k_JL_compare at hk
  refine lv_lload_n hx hb d_JL_compare_0 rfl (lv_at hl 0 rfl) ?_
  refine lv_lload_n hx hb d_JL_compare_1 rfl (lv_at hl 1 rfl) ?_
  refine W.lcmp hx hb d_JL_compare_2 ?_
  refine lv_if_ge (tgt := 10) hx hb d_JL_compare_3 (by decide) (fun hc => ?_) (fun hc => ?_)
  · have hv := hv.trans (if_pos hc)
    have hk := hk.1 hc
    refine lv_lload_n hx hb d_JL_compare_10 rfl (lv_at hl 0 rfl) ?_
    refine lv_lload_n hx hb d_JL_compare_11 rfl (lv_at hl 1 rfl) ?_
    refine W.lcmp hx hb d_JL_compare_12 ?_
    refine lv_if_ne (tgt := 20) hx hb d_JL_compare_13 (by decide) (fun hc => ?_) (fun hc => ?_)
    · have hv := hv.trans (if_neg hc)
      have hk := hk.2 hc
      refine lv_iconst (v := 1) hx hb d_JL_compare_20 (by decide) ?_
      exact B21 _ 1 hv hk (lv_sub hl [] rfl)
    · have hv := hv.trans (if_pos hc)
      have hk := hk.1 hc
      refine lv_iconst (v := 0) hx hb d_JL_compare_16 (by decide) ?_
      refine lv_goto (tgt := 21) hx hb d_JL_compare_17 (by decide) ?_
      exact B21 _ 0 hv hk (lv_sub hl [] rfl)
  · have hv := hv.trans (if_neg hc)
    have hk := hk.2 hc
    refine lv_iconst (v := -1) hx hb d_JL_compare_6 (by decide) ?_
    refine lv_goto (tgt := 21) hx hb d_JL_compare_7 (by decide) ?_
    exact B21 _ (-1) hv hk (lv_sub hl [] rfl)

-- java/util/Arrays.fill([II)V
abbrev b_JA_fill : ByteArray := prog_28_method_103_code
def y_JA_fill : MethodName := ⟨"java/util/Arrays", "fill", "([II)V"⟩
theorem hd_JA_fill : y_JA_fill.cls ≠ "java/lang/invoke/MethodHandle" ∧ y_JA_fill.cls ≠ "java/lang/invoke/VarHandle" ∧ (parseMethodDescriptor y_JA_fill.desc).map (fun d => d.parameters.length) = some 2 := by decide +kernel
theorem d_JA_fill_0 : decode b_JA_fill 0 = .ok (.iconst 0, 1) := by decide +kernel
theorem d_JA_fill_1 : decode b_JA_fill 1 = .ok (.istore_n 2, 1) := by decide +kernel
theorem d_JA_fill_2 : decode b_JA_fill 2 = .ok (.aload_n 0, 1) := by decide +kernel
theorem d_JA_fill_3 : decode b_JA_fill 3 = .ok (.arraylength, 1) := by decide +kernel
theorem d_JA_fill_4 : decode b_JA_fill 4 = .ok (.istore_n 3, 1) := by decide +kernel
theorem d_JA_fill_5 : decode b_JA_fill 5 = .ok (.iload_n 2, 1) := by decide +kernel
theorem d_JA_fill_6 : decode b_JA_fill 6 = .ok (.iload_n 3, 1) := by decide +kernel
theorem d_JA_fill_7 : decode b_JA_fill 7 = .ok (.if_icmp .ge 13, 3) := by decide +kernel
theorem d_JA_fill_10 : decode b_JA_fill 10 = .ok (.aload_n 0, 1) := by decide +kernel
theorem d_JA_fill_11 : decode b_JA_fill 11 = .ok (.iload_n 2, 1) := by decide +kernel
theorem d_JA_fill_12 : decode b_JA_fill 12 = .ok (.iload_n 1, 1) := by decide +kernel
theorem d_JA_fill_13 : decode b_JA_fill 13 = .ok (.iastore, 1) := by decide +kernel
theorem d_JA_fill_14 : decode b_JA_fill 14 = .ok (.iinc 2 1, 3) := by decide +kernel
theorem d_JA_fill_17 : decode b_JA_fill 17 = .ok (.goto (-12), 3) := by decide +kernel
theorem d_JA_fill_20 : decode b_JA_fill 20 = .ok (.return_, 1) := by decide +kernel
def f_JA_fill_14 (F5 : (Int32 → Int32 → Int32 → St → St)) (x1 : Int32) (x2 : Int32) (x3 : Int32) (σ : St) : St := F5 x1 (x2 + 1) x3 σ
def k_JA_fill_14 (K5 : (Int32 → Int32 → Int32 → St → Prop)) (x1 : Int32) (x2 : Int32) (x3 : Int32) (σ : St) : Prop := K5 x1 (x2 + 1) x3 σ
def f_JA_fill_5 : Nat → Int32 → Int32 → Int32 → St → St
  | 0, _, _, _, σ => σ
  | n + 1, x1, x2, x3, σ => if x3 ≤ x2 then σ else (f_JA_fill_14 (f_JA_fill_5 n) x1 x2 x3 (sA σ 23 x2 x1))
def k_JA_fill_5 : Nat → Int32 → Int32 → Int32 → St → Prop
  | 0, _, _, _, _ => False
  | n + 1, x1, x2, x3, σ => (x3 ≤ x2 → True) ∧ (¬ x3 ≤ x2 → (vp_in x2 100 ∧ (k_JA_fill_14 (k_JA_fill_5 n) x1 x2 x3 (sA σ 23 x2 x1))))
def f_JA_fill (a1 : Int32) (σ : St) : St := f_JA_fill_5 1000 a1 0 100 σ
def k_JA_fill (a1 : Int32) (σ : St) : Prop := k_JA_fill_5 1000 a1 0 100 σ
abbrev w_JA_fill : List Cond := Cond.code y_JA_fill b_JA_fill 4 none :: gw
abbrev rm_JA_fill : Room := { frames := 0, cells := 0, slots := 0, locals := 0 }
set_option maxHeartbeats 4000000 in
set_option maxRecDepth 100000 in
theorem c_JA_fill (l : Launch) (D : va_G) (ty : Nat → ClassId) (h : Nat → Nat) (px : va_W) (sa : Nat → Nat) (σ : St) (sz : Nat) (a1 : Int32) (hk : k_JA_fill a1 σ) : Met l y_JA_fill w_JA_fill rm_JA_fill (va_Pc [.ref (h 23), .int a1] (fun U => U.heap.size = sz ∧ va_P D classes (Wc ty h σ px) U.heap ∧ va_K D classes (Ta ty) U ∧ NW U ∧ MK sa (va_A (Wc ty h σ px) sz) U U.heap ∧ va_D (fun _ => True) (Wc ty h σ px))) (va_Qv (fun u : St => u = f_JA_fill a1 σ) (fun u t => va_P D classes (Wc ty h u px) t.heap) (va_A (Wc ty h σ px) sz)) 0 0 (va_A (Wc ty h σ px) sz) := by
  refine Met.ofWF (cc := b_JA_fill) (maxL := 4) (ret := none) (by decide +kernel) rfl ?_
  intro p e s m args below meth c s₁ B hml hv
  obtain ⟨ha, hsz, hP, hK, hN, hM, hD0⟩ := hv
  have hx := B.exec
  have hb := B.bytes
  have hr := B.returns
  have hg : ∀ w ∈ gw, w.before args s = true := fun w h9 => atoms_spec (ws := w_JA_fill) B.pre w (List.mem_cons_of_mem _ h9)
  have hown : s.vm.findClass "java/util/Arrays" = some m.cls := findClass_of_methodNamed B.named
  have hlocks := B.notSynchronized
  subst hsz
  have hD := hD0.self (sz := s.heap.size)
  generalize hAe : va_A (Wc ty h σ px) s.heap.size = A at hD hM ⊢
  have hA : ∀ q : Nat, s.heap.size ≤ q → A q := fun q h9 => by rw [← hAe]; exact Or.inr h9
  have hS : va_S A s.heap s.heap [] := va_S.rf
  have he : entryFrame m args 4 = entryFrame m ([.ref (h 23), .int a1] : List Value).toArray 4 := by rw [ha]
  rw [he, lg_entry_eq]
  have hl := lv_entry ([.ref (h 23), .int a1]) (n := 4) (Nat.le_of_ble_eq_true rfl)
  generalize (lg_sl ([.ref (h 23), .int a1]) ++ List.replicate (4 - (lg_sl ([.ref (h 23), .int a1])).length) Slot.unset).toArray = ls at hl ⊢
  have hl : lv_has ls 4 [(0, .ref (h 23)), (1, .int a1)] := hl
  generalize hv : f_JA_fill a1 σ = v
  replace hv := hv.symm
  have B5 : ∀ (n5 : Nat) (H : Heap) (locs : List Loc) (ls : Array Slot) (x1 : Int32) (x2 : Int32) (x3 : Int32) (σ : St), v = f_JA_fill_5 n5 x1 x2 x3 σ → k_JA_fill_5 n5 x1 x2 x3 σ → lv_has ls 4 [(0, .ref (h 23)), (1, .int x1), (2, .int x2), (3, .int x3)] → va_P D classes (Wc ty h σ px) H → va_D A (Wc ty h σ px) → va_S A s.heap H locs → W p l e (headSpec w_JA_fill rm_JA_fill).room s m args below meth c H locs 0 0 (MQ below (va_Qv (fun u : St => u = v) (fun u t => va_P D classes (Wc ty h u px) t.heap) A) args s 0 0 A) (F0 m 5 ls []) := by
    intro n5
    induction n5 with
    | zero => intro H locs ls x1 x2 x3 σ hv hk hl hP hD hS; exact hk.elim
    | succ n5 ih5 =>
      have B14 : ∀ (H : Heap) (locs : List Loc) (ls : Array Slot) (x1 : Int32) (x2 : Int32) (x3 : Int32) (σ : St), v = f_JA_fill_14 (f_JA_fill_5 n5) x1 x2 x3 σ → k_JA_fill_14 (k_JA_fill_5 n5) x1 x2 x3 σ → lv_has ls 4 [(0, .ref (h 23)), (1, .int x1), (2, .int x2), (3, .int x3)] → va_P D classes (Wc ty h σ px) H → va_D A (Wc ty h σ px) → va_S A s.heap H locs → W p l e (headSpec w_JA_fill rm_JA_fill).room s m args below meth c H locs 0 0 (MQ below (va_Qv (fun u : St => u = v) (fun u t => va_P D classes (Wc ty h u px) t.heap) A) args s 0 0 A) (F0 m 14 ls []) := by
        intro H locs ls x1 x2 x3 σ hv hk hl hP hD hS
        unfold f_JA_fill_14 at hv
        unfold k_JA_fill_14 at hk
        refine lv_iinc (k := 2) (v := x2 + 1) (lv' := [(2, .int (x2 + 1)), (0, .ref (h 23)), (1, .int x1), (3, .int x3)]) hx hb d_JA_fill_14 hl rfl (by first | rfl | simp [lit1, litm1]) (by decide) rfl (fun ls hl => ?_)
        refine lv_goto (tgt := 5) hx hb d_JA_fill_17 (by decide) ?_
        exact ih5 _ _ _ x1 (x2 + 1) x3 σ hv hk (lv_sub hl [1, 2, 0, 3] rfl) hP hD hS
      intro H locs ls x1 x2 x3 σ hv hk hl hP hD hS
      rw [f_JA_fill_5] at hv
      rw [k_JA_fill_5] at hk
      refine lv_iload_n hx hb d_JA_fill_5 rfl (lv_at hl 2 rfl) ?_
      refine lv_iload_n hx hb d_JA_fill_6 rfl (lv_at hl 3 rfl) ?_
      refine lv_icmp_ge (tgt := 20) hx hb d_JA_fill_7 (by decide) (fun hc => ?_) (fun hc => ?_)
      · have hv := hv.trans (if_pos hc)
        have hk := hk.1 hc
        exact W.vret hx hb hr (fun t ht hW => ⟨⟨_, rfl, hv.symm, by dsimp only; rw [ht]; exact hP⟩, hS.F ht⟩) hS.2.2 d_JA_fill_20
      · have hv := hv.trans (if_neg hc)
        have hk := hk.2 hc
        refine lv_aload_n hx hb d_JA_fill_10 rfl (lv_at hl 0 rfl) ?_
        refine lv_iload_n hx hb d_JA_fill_11 rfl (lv_at hl 2 rfl) ?_
        refine lv_iload_n hx hb d_JA_fill_12 rfl (lv_at hl 1 rfl) ?_
        obtain ⟨hk0, hk⟩ := hk
        refine va_iast hx hb hK hP hD hS 23 0 rfl rfl hk0 d_JA_fill_13 (fun H locs hP hD hS => ?_)
        have hP : va_P D classes (Wc ty h (sA σ 23 x2 x1) px) H := hP
        have hD : va_D A (Wc ty h (sA σ 23 x2 x1) px) := hD
        exact B14 _ _ _ x1 x2 x3 (sA σ 23 x2 x1) hv hk (lv_sub hl [0, 1, 2, 3] rfl) hP hD hS
  unfold f_JA_fill at hv
  unfold k_JA_fill at hk
  refine lv_iconst (v := 0) hx hb d_JA_fill_0 (by decide) ?_
  refine lv_istore_n (lv' := [(2, .int 0), (0, .ref (h 23)), (1, .int a1)]) hx hb d_JA_fill_1 rfl hl (by decide) rfl (fun ls hl => ?_)
  refine lv_aload_n hx hb d_JA_fill_2 rfl (lv_at hl 1 rfl) ?_
  refine va_alen (v := 100) hx hb hK hP 23 0 rfl rfl rfl d_JA_fill_3 ?_
  refine lv_istore_n (lv' := [(3, .int 100), (2, .int 0), (0, .ref (h 23)), (1, .int a1)]) hx hb d_JA_fill_4 rfl hl (by decide) rfl (fun ls hl => ?_)
  exact B5 1000 _ _ _ a1 0 100 σ hv hk (lv_sub hl [2, 3, 1, 0] rfl) hP hD hS

-- ClauseLedger$Signature.addSort()I
abbrev b_Sg_addSort : ByteArray := prog_8_method_2_code
def y_Sg_addSort : MethodName := ⟨"ClauseLedger$Signature", "addSort", "()I"⟩
theorem hd_Sg_addSort : y_Sg_addSort.cls ≠ "java/lang/invoke/MethodHandle" ∧ y_Sg_addSort.cls ≠ "java/lang/invoke/VarHandle" ∧ (parseMethodDescriptor y_Sg_addSort.desc).map (fun d => d.parameters.length) = some 0 := by decide +kernel
theorem d_Sg_addSort_0 : decode b_Sg_addSort 0 = .ok (.aload_n 0, 1) := by decide +kernel
theorem d_Sg_addSort_1 : decode b_Sg_addSort 1 = .ok (.getfield 24, 3) := by decide +kernel
theorem d_Sg_addSort_4 : decode b_Sg_addSort 4 = .ok (.iconst 5, 1) := by decide +kernel
theorem d_Sg_addSort_5 : decode b_Sg_addSort 5 = .ok (.if_icmp .lt 5, 3) := by decide +kernel
theorem d_Sg_addSort_8 : decode b_Sg_addSort 8 = .ok (.iconst (-1), 1) := by decide +kernel
theorem d_Sg_addSort_9 : decode b_Sg_addSort 9 = .ok (.ireturn, 1) := by decide +kernel
theorem d_Sg_addSort_10 : decode b_Sg_addSort 10 = .ok (.aload_n 0, 1) := by decide +kernel
theorem d_Sg_addSort_11 : decode b_Sg_addSort 11 = .ok (.dup, 1) := by decide +kernel
theorem d_Sg_addSort_12 : decode b_Sg_addSort 12 = .ok (.getfield 24, 3) := by decide +kernel
theorem d_Sg_addSort_15 : decode b_Sg_addSort 15 = .ok (.iconst 1, 1) := by decide +kernel
theorem d_Sg_addSort_16 : decode b_Sg_addSort 16 = .ok (.iadd, 1) := by decide +kernel
theorem d_Sg_addSort_17 : decode b_Sg_addSort 17 = .ok (.putfield 24, 3) := by decide +kernel
theorem d_Sg_addSort_20 : decode b_Sg_addSort 20 = .ok (.aload_n 0, 1) := by decide +kernel
theorem d_Sg_addSort_21 : decode b_Sg_addSort 21 = .ok (.getfield 24, 3) := by decide +kernel
theorem d_Sg_addSort_24 : decode b_Sg_addSort 24 = .ok (.iconst 1, 1) := by decide +kernel
theorem d_Sg_addSort_25 : decode b_Sg_addSort 25 = .ok (.isub, 1) := by decide +kernel
theorem d_Sg_addSort_26 : decode b_Sg_addSort 26 = .ok (.ireturn, 1) := by decide +kernel
def f_Sg_addSort_20 (σ : St) : Int32 × St := ((σ.1 1 4) - 1, σ)
def k_Sg_addSort_20 (σ : St) : Prop := True
def f_Sg_addSort (σ : St) : Int32 × St := if (σ.1 1 4) < 5 then (f_Sg_addSort_20 (sF σ 1 4 ((σ.1 1 4) + 1))) else ((-1), σ)
def k_Sg_addSort (σ : St) : Prop := ((σ.1 1 4) < 5 → (k_Sg_addSort_20 (sF σ 1 4 ((σ.1 1 4) + 1)))) ∧ (¬ (σ.1 1 4) < 5 → True)
abbrev w_Sg_addSort : List Cond := Cond.code y_Sg_addSort b_Sg_addSort 1 (some .int) :: gw
abbrev rm_Sg_addSort : Room := { frames := 0, cells := 0, slots := 0, locals := 0 }
set_option maxHeartbeats 4000000 in
set_option maxRecDepth 100000 in
theorem c_Sg_addSort (l : Launch) (D : va_G) (ty : Nat → ClassId) (h : Nat → Nat) (px : va_W) (sa : Nat → Nat) (σ : St) (sz : Nat) (hk : k_Sg_addSort σ) : Met l y_Sg_addSort w_Sg_addSort rm_Sg_addSort (va_Pc [.ref (h 1)] (fun U => U.heap.size = sz ∧ va_P D classes (Wc ty h σ px) U.heap ∧ va_K D classes (Ta ty) U ∧ NW U ∧ MK sa (va_A (Wc ty h σ px) sz) U U.heap ∧ va_D (fun _ => True) (Wc ty h σ px))) (va_Qi (fun r (u : St) => (r, u) = f_Sg_addSort σ) (fun u t => va_P D classes (Wc ty h u px) t.heap) (va_A (Wc ty h σ px) sz)) 0 0 (va_A (Wc ty h σ px) sz) := by
  refine Met.ofW (cc := b_Sg_addSort) (maxL := 1) (ret := (some .int)) (by decide) rfl ?_
  intro p e s m args below meth c s₁ B hml hv
  obtain ⟨ha, hsz, hP, hK, hN, hM, hD0⟩ := hv
  have hx := B.exec
  have hb := B.bytes
  have hr := B.returns
  have hg : ∀ w ∈ gw, w.before args s = true := fun w h9 => atoms_spec (ws := w_Sg_addSort) B.pre w (List.mem_cons_of_mem _ h9)
  have hown : s.vm.findClass "ClauseLedger$Signature" = some m.cls := findClass_of_methodNamed B.named
  have hlocks := B.notSynchronized
  subst hsz
  have hD := hD0.self (sz := s.heap.size)
  generalize hAe : va_A (Wc ty h σ px) s.heap.size = A at hD hM ⊢
  have hA : ∀ q : Nat, s.heap.size ≤ q → A q := fun q h9 => by rw [← hAe]; exact Or.inr h9
  have hS : va_S A s.heap s.heap [] := va_S.rf
  have he : entryFrame m args 1 = entryFrame m ([.ref (h 1)] : List Value).toArray 1 := by rw [ha]
  rw [he, lg_entry_eq]
  have hl := lv_entry ([.ref (h 1)]) (n := 1) (Nat.le_of_ble_eq_true rfl)
  generalize (lg_sl ([.ref (h 1)]) ++ List.replicate (1 - (lg_sl ([.ref (h 1)])).length) Slot.unset).toArray = ls at hl ⊢
  have hl : lv_has ls 1 [(0, .ref (h 1))] := hl
  generalize hv : f_Sg_addSort σ = v
  replace hv := hv.symm
  have B20 : ∀ (H : Heap) (locs : List Loc) (ls : Array Slot) (σ : St), v = f_Sg_addSort_20 σ → k_Sg_addSort_20 σ → lv_has ls 1 [(0, .ref (h 1))] → va_P D classes (Wc ty h σ px) H → va_D A (Wc ty h σ px) → va_S A s.heap H locs → W p l e (headSpec w_Sg_addSort rm_Sg_addSort).room s m args below meth c H locs 0 0 (MQ below (va_Qi (fun r (u : St) => (r, u) = v) (fun u t => va_P D classes (Wc ty h u px) t.heap) A) args s 0 0 A) (F0 m 20 ls []) := by
    intro H locs ls σ hv hk hl hP hD hS
    unfold f_Sg_addSort_20 at hv
    unfold k_Sg_addSort_20 at hk
    refine lv_aload_n hx hb d_Sg_addSort_20 rfl (lv_at hl 0 rfl) ?_
    refine va_get (v := .int (σ.1 1 4)) (C := R_Sg) (T := T_Sg) (N := 6) hx hb hg in_Sg hown hK hP 1 rfl rfl 4 (by decide) (hg _ m_47) (fun _ h9 => h9) rfl d_Sg_addSort_21 ?_
    refine lv_iconst (v := 1) hx hb d_Sg_addSort_24 (by decide) ?_
    refine lv_isub hx hb d_Sg_addSort_25 ?_
    exact W.iret hx hb hr (fun t ht hW => ⟨⟨_, _, rfl, hv.symm, by dsimp only; rw [ht]; exact hP⟩, hS.F ht⟩) hS.2.2 d_Sg_addSort_26
  unfold f_Sg_addSort at hv
  unfold k_Sg_addSort at hk
  refine lv_aload_n hx hb d_Sg_addSort_0 rfl (lv_at hl 0 rfl) ?_
  refine va_get (v := .int (σ.1 1 4)) (C := R_Sg) (T := T_Sg) (N := 6) hx hb hg in_Sg hown hK hP 1 rfl rfl 4 (by decide) (hg _ m_47) (fun _ h9 => h9) rfl d_Sg_addSort_1 ?_
  refine lv_iconst (v := 5) hx hb d_Sg_addSort_4 (by decide) ?_
  refine lv_icmp_lt (tgt := 10) hx hb d_Sg_addSort_5 (by decide) (fun hc => ?_) (fun hc => ?_)
  · have hv := hv.trans (if_pos hc)
    have hk := hk.1 hc
    refine lv_aload_n hx hb d_Sg_addSort_10 rfl (lv_at hl 0 rfl) ?_
    refine lv_dup hx hb d_Sg_addSort_11 rfl ?_
    refine va_get (v := .int (σ.1 1 4)) (C := R_Sg) (T := T_Sg) (N := 6) hx hb hg in_Sg hown hK hP 1 rfl rfl 4 (by decide) (hg _ m_47) (fun _ h9 => h9) rfl d_Sg_addSort_12 ?_
    refine lv_iconst (v := 1) hx hb d_Sg_addSort_15 (by decide) ?_
    refine lv_iadd hx hb d_Sg_addSort_16 ?_
    refine va_put (v := .int ((σ.1 1 4) + 1)) (ty := .int) (C := R_Sg) (T := T_Sg) (N := 6) hx hb hg in_Sg ty_Sg ok_Sg nm_Sg hown hK hP hD hS 1 rfl rfl 4 (by decide) (hg _ m_47) (fun _ h9 => h9) rfl (by decide +kernel) rfl rfl (Nat.le_of_ble_eq_true rfl) d_Sg_addSort_17 (fun H locs hP hD hS => ?_)
    have hP : va_P D classes (Wc ty h (sF σ 1 4 ((σ.1 1 4) + 1)) px) H := hP
    have hD : va_D A (Wc ty h (sF σ 1 4 ((σ.1 1 4) + 1)) px) := hD
    exact B20 _ _ _  (sF σ 1 4 ((σ.1 1 4) + 1)) hv hk (lv_sub hl [0] rfl) hP hD hS
  · have hv := hv.trans (if_neg hc)
    have hk := hk.2 hc
    refine lv_iconst (v := -1) hx hb d_Sg_addSort_8 (by decide) ?_
    exact W.iret hx hb hr (fun t ht hW => ⟨⟨_, _, rfl, hv.symm, by dsimp only; rw [ht]; exact hP⟩, hS.F ht⟩) hS.2.2 d_Sg_addSort_9

-- ClauseLedger.sort()I
abbrev b_CL_sort : ByteArray := prog_1_method_2_code
def y_CL_sort : MethodName := ⟨"ClauseLedger", "sort", "()I"⟩
theorem hd_CL_sort : y_CL_sort.cls ≠ "java/lang/invoke/MethodHandle" ∧ y_CL_sort.cls ≠ "java/lang/invoke/VarHandle" ∧ (parseMethodDescriptor y_CL_sort.desc).map (fun d => d.parameters.length) = some 0 := by decide +kernel
theorem d_CL_sort_0 : decode b_CL_sort 0 = .ok (.aload_n 0, 1) := by decide +kernel
theorem d_CL_sort_1 : decode b_CL_sort 1 = .ok (.getfield 10, 3) := by decide +kernel
theorem d_CL_sort_4 : decode b_CL_sort 4 = .ok (.invokevirtual 83, 3) := by decide +kernel
theorem d_CL_sort_7 : decode b_CL_sort 7 = .ok (.ireturn, 1) := by decide +kernel
def f_CL_sort_7 (s0 : Int32) (σ : St) : Int32 × St := (s0, σ)
def k_CL_sort_7 (s0 : Int32) (σ : St) : Prop := True
def f_CL_sort (σ : St) : Int32 × St := f_CL_sort_7 ((f_Sg_addSort σ).1) ((f_Sg_addSort σ).2)
def k_CL_sort (σ : St) : Prop := (k_Sg_addSort σ) ∧ (k_CL_sort_7 ((f_Sg_addSort σ).1) ((f_Sg_addSort σ).2))
abbrev w_CL_sort : List Cond := Cond.code y_CL_sort b_CL_sort 1 (some .int) :: gw
abbrev rm_CL_sort : Room := { frames := 1, cells := 0, slots := 0, locals := 20 }
set_option maxHeartbeats 4000000 in
set_option maxRecDepth 100000 in
theorem c_CL_sort (l : Launch) (D : va_G) (ty : Nat → ClassId) (h : Nat → Nat) (px : va_W) (sa : Nat → Nat) (σ : St) (sz : Nat) (hk : k_CL_sort σ) : Met l y_CL_sort w_CL_sort rm_CL_sort (va_Pc [.ref (h 0)] (fun U => U.heap.size = sz ∧ va_P D classes (Wc ty h σ px) U.heap ∧ va_K D classes (Ta ty) U ∧ NW U ∧ MK sa (va_A (Wc ty h σ px) sz) U U.heap ∧ va_D (fun _ => True) (Wc ty h σ px))) (va_Qi (fun r (u : St) => (r, u) = f_CL_sort σ) (fun u t => va_P D classes (Wc ty h u px) t.heap) (va_A (Wc ty h σ px) sz)) 0 0 (va_A (Wc ty h σ px) sz) := by
  refine Met.ofW (cc := b_CL_sort) (maxL := 1) (ret := (some .int)) (by decide) rfl ?_
  intro p e s m args below meth c s₁ B hml hv
  obtain ⟨ha, hsz, hP, hK, hN, hM, hD0⟩ := hv
  have hx := B.exec
  have hb := B.bytes
  have hr := B.returns
  have hg : ∀ w ∈ gw, w.before args s = true := fun w h9 => atoms_spec (ws := w_CL_sort) B.pre w (List.mem_cons_of_mem _ h9)
  have hown : s.vm.findClass "ClauseLedger" = some m.cls := findClass_of_methodNamed B.named
  have hlocks := B.notSynchronized
  subst hsz
  have hD := hD0.self (sz := s.heap.size)
  generalize hAe : va_A (Wc ty h σ px) s.heap.size = A at hD hM ⊢
  have hA : ∀ q : Nat, s.heap.size ≤ q → A q := fun q h9 => by rw [← hAe]; exact Or.inr h9
  have hS : va_S A s.heap s.heap [] := va_S.rf
  have he : entryFrame m args 1 = entryFrame m ([.ref (h 0)] : List Value).toArray 1 := by rw [ha]
  rw [he, lg_entry_eq]
  have hl := lv_entry ([.ref (h 0)]) (n := 1) (Nat.le_of_ble_eq_true rfl)
  generalize (lg_sl ([.ref (h 0)]) ++ List.replicate (1 - (lg_sl ([.ref (h 0)])).length) Slot.unset).toArray = ls at hl ⊢
  have hl : lv_has ls 1 [(0, .ref (h 0))] := hl
  generalize hv : f_CL_sort σ = v
  replace hv := hv.symm
  have B7 : ∀ (H : Heap) (locs : List Loc) (ls : Array Slot) (s0 : Int32) (σ : St), v = f_CL_sort_7 s0 σ → k_CL_sort_7 s0 σ → lv_has ls 1 [] → va_P D classes (Wc ty h σ px) H → va_D A (Wc ty h σ px) → va_S A s.heap H locs → W p l e (headSpec w_CL_sort rm_CL_sort).room s m args below meth c H locs 0 0 (MQ below (va_Qi (fun r (u : St) => (r, u) = v) (fun u t => va_P D classes (Wc ty h u px) t.heap) A) args s 0 0 A) (F0 m 7 ls [.int s0]) := by
    intro H locs ls s0 σ hv hk hl hP hD hS
    unfold f_CL_sort_7 at hv
    unfold k_CL_sort_7 at hk
    exact W.iret hx hb hr (fun t ht hW => ⟨⟨_, _, rfl, hv.symm, by dsimp only; rw [ht]; exact hP⟩, hS.F ht⟩) hS.2.2 d_CL_sort_7
  unfold f_CL_sort at hv
  unfold k_CL_sort at hk
  refine lv_aload_n hx hb d_CL_sort_0 rfl (lv_at hl 0 rfl) ?_
  refine va_get (v := .ref (h 1)) (C := R_CL) (T := T_CL) (N := 11) hx hb hg in_CL hown hK hP 0 rfl rfl 0 (by decide) (hg _ m_284) (fun _ h9 => h9) rfl d_CL_sort_1 ?_
  obtain ⟨hk0, hk⟩ := hk
  refine va_calli (va_runV (As := []) (rest := []) ⟨hx, hb, hml, hown, hg⟩ (c_Sg_addSort l D ty h px sa σ s.heap.size  hk0) ⟨callB_of 0 hg (gw_C m_325) rfl rfl rfl (hg _ m_2) (hg _ m_322) hd_Sg_addSort ⟨Nat.le_of_ble_eq_true rfl, Nat.le_of_ble_eq_true rfl⟩, hg _ m_323, hg _ m_324⟩ (zz_preVW hM hS hA hN hK hP hD 1 rfl rfl) rfl rfl hl.1 rfl (lv_room (Nat.le_of_ble_eq_true rfl)) d_CL_sort_4 ⟨Nat.le_of_ble_eq_true rfl, Nat.le_of_ble_eq_true rfl⟩) hS (fun q _ h => zz_free hD hS hA q h) (zz_free hD hS hA) (fun r4 u4 t H locs ht hvm hp hP1 hz hk1 hS => ?_)
  rw [ht] at hP1
  rw [← hp] at hv hk
  have hD : va_D A (Wc ty h u4 px) := zz_D hD rfl
  have hP := hP1
  exact B7 _ _ _ r4 u4 hv hk (lv_sub hl [] rfl) hP hD hS

-- ClauseLedger$Signature.isSort(I)Z
abbrev b_Sg_isSort : ByteArray := prog_8_method_11_code
def y_Sg_isSort : MethodName := ⟨"ClauseLedger$Signature", "isSort", "(I)Z"⟩
theorem hd_Sg_isSort : y_Sg_isSort.cls ≠ "java/lang/invoke/MethodHandle" ∧ y_Sg_isSort.cls ≠ "java/lang/invoke/VarHandle" ∧ (parseMethodDescriptor y_Sg_isSort.desc).map (fun d => d.parameters.length) = some 1 := by decide +kernel
theorem d_Sg_isSort_0 : decode b_Sg_isSort 0 = .ok (.iload_n 1, 1) := by decide +kernel
theorem d_Sg_isSort_1 : decode b_Sg_isSort 1 = .ok (.ifCond .lt 15, 3) := by decide +kernel
theorem d_Sg_isSort_4 : decode b_Sg_isSort 4 = .ok (.iload_n 1, 1) := by decide +kernel
theorem d_Sg_isSort_5 : decode b_Sg_isSort 5 = .ok (.aload_n 0, 1) := by decide +kernel
theorem d_Sg_isSort_6 : decode b_Sg_isSort 6 = .ok (.getfield 24, 3) := by decide +kernel
theorem d_Sg_isSort_9 : decode b_Sg_isSort 9 = .ok (.if_icmp .ge 7, 3) := by decide +kernel
theorem d_Sg_isSort_12 : decode b_Sg_isSort 12 = .ok (.iconst 1, 1) := by decide +kernel
theorem d_Sg_isSort_13 : decode b_Sg_isSort 13 = .ok (.goto 4, 3) := by decide +kernel
theorem d_Sg_isSort_16 : decode b_Sg_isSort 16 = .ok (.iconst 0, 1) := by decide +kernel
theorem d_Sg_isSort_17 : decode b_Sg_isSort 17 = .ok (.ireturn, 1) := by decide +kernel
def f_Sg_isSort_17 (s0 : Int32) (σ : St) : Int32 := s0
def k_Sg_isSort_17 (s0 : Int32) (σ : St) : Prop := (narrow .boolean (.int s0) = .int s0) ∧ True
def f_Sg_isSort_16 (σ : St) : Int32 := f_Sg_isSort_17 0 σ
def k_Sg_isSort_16 (σ : St) : Prop := k_Sg_isSort_17 0 σ
def f_Sg_isSort (a1 : Int32) (σ : St) : Int32 := if a1 < 0 then (f_Sg_isSort_16 σ) else (if (σ.1 1 4) ≤ a1 then (f_Sg_isSort_16 σ) else (f_Sg_isSort_17 1 σ))
def k_Sg_isSort (a1 : Int32) (σ : St) : Prop := (a1 < 0 → (k_Sg_isSort_16 σ)) ∧ (¬ a1 < 0 → (((σ.1 1 4) ≤ a1 → (k_Sg_isSort_16 σ)) ∧ (¬ (σ.1 1 4) ≤ a1 → (k_Sg_isSort_17 1 σ))))
abbrev w_Sg_isSort : List Cond := Cond.code y_Sg_isSort b_Sg_isSort 2 (some .boolean) :: gw
abbrev rm_Sg_isSort : Room := { frames := 0, cells := 0, slots := 0, locals := 0 }
set_option maxHeartbeats 4000000 in
set_option maxRecDepth 100000 in
theorem c_Sg_isSort (l : Launch) (D : va_G) (ty : Nat → ClassId) (h : Nat → Nat) (px : va_W) (sa : Nat → Nat) (σ : St) (a1 : Int32) (hk : k_Sg_isSort a1 σ) : Met l y_Sg_isSort w_Sg_isSort rm_Sg_isSort (va_Pc [.ref (h 1), .int a1] (fun U => va_P D classes (Wc ty h σ px) U.heap ∧ va_K D classes (Ta ty) U ∧ NW U ∧ MK sa (fun _ => False) U U.heap)) (k2_QcV (.int (f_Sg_isSort a1 σ))) 0 0 (fun _ => False) := by
  refine Met.ofW (cc := b_Sg_isSort) (maxL := 2) (ret := (some .boolean)) (by decide) rfl ?_
  intro p e s m args below meth c s₁ B hml hv
  obtain ⟨ha, hP, hK, hN, hM⟩ := hv
  have hx := B.exec
  have hb := B.bytes
  have hr := B.returns
  have hg : ∀ w ∈ gw, w.before args s = true := fun w h9 => atoms_spec (ws := w_Sg_isSort) B.pre w (List.mem_cons_of_mem _ h9)
  have hown : s.vm.findClass "ClauseLedger$Signature" = some m.cls := findClass_of_methodNamed B.named
  have hlocks := B.notSynchronized
  have he : entryFrame m args 2 = entryFrame m ([.ref (h 1), .int a1] : List Value).toArray 2 := by rw [ha]
  rw [he, lg_entry_eq]
  have hl := lv_entry ([.ref (h 1), .int a1]) (n := 2) (Nat.le_of_ble_eq_true rfl)
  generalize (lg_sl ([.ref (h 1), .int a1]) ++ List.replicate (2 - (lg_sl ([.ref (h 1), .int a1])).length) Slot.unset).toArray = ls at hl ⊢
  have hl : lv_has ls 2 [(0, .ref (h 1)), (1, .int a1)] := hl
  generalize hv : f_Sg_isSort a1 σ = v
  replace hv := hv.symm
  have B17 : ∀ (ls : Array Slot) (s0 : Int32), v = f_Sg_isSort_17 s0 σ → k_Sg_isSort_17 s0 σ → lv_has ls 2 [] → W p l e (headSpec w_Sg_isSort rm_Sg_isSort).room s m args below meth c s.heap [] 0 0 (MQ below (k2_QcV (.int v)) args s 0 0 (fun _ => False)) (F0 m 17 ls [.int s0]) := by
    intro ls s0 hv hk hl
    unfold f_Sg_isSort_17 at hv
    unfold k_Sg_isSort_17 at hk
    obtain ⟨hk0, hk⟩ := hk
    exact W.zret hx hb hr hk0 (fun t ht hW => ⟨by rw [hv], ht⟩) (fun q h => nomatch h) d_Sg_isSort_17
  have B16 : ∀ (ls : Array Slot), v = f_Sg_isSort_16 σ → k_Sg_isSort_16 σ → lv_has ls 2 [] → W p l e (headSpec w_Sg_isSort rm_Sg_isSort).room s m args below meth c s.heap [] 0 0 (MQ below (k2_QcV (.int v)) args s 0 0 (fun _ => False)) (F0 m 16 ls []) := by
    intro ls hv hk hl
    unfold f_Sg_isSort_16 at hv
    unfold k_Sg_isSort_16 at hk
    refine lv_iconst (v := 0) hx hb d_Sg_isSort_16 (by decide) ?_
    exact B17 _ 0 hv hk (lv_sub hl [] rfl)
  unfold f_Sg_isSort at hv
  unfold k_Sg_isSort at hk
  refine lv_iload_n hx hb d_Sg_isSort_0 rfl (lv_at hl 1 rfl) ?_
  refine lv_if_lt (tgt := 16) hx hb d_Sg_isSort_1 (by decide) (fun hc => ?_) (fun hc => ?_)
  · have hv := hv.trans (if_pos hc)
    have hk := hk.1 hc
    exact B16 _  hv hk (lv_sub hl [] rfl)
  · have hv := hv.trans (if_neg hc)
    have hk := hk.2 hc
    refine lv_iload_n hx hb d_Sg_isSort_4 rfl (lv_at hl 1 rfl) ?_
    refine lv_aload_n hx hb d_Sg_isSort_5 rfl (lv_at hl 0 rfl) ?_
    refine va_get (v := .int (σ.1 1 4)) (C := R_Sg) (T := T_Sg) (N := 6) hx hb hg in_Sg hown hK hP 1 rfl rfl 4 (by decide) (hg _ m_47) (fun _ h9 => h9) rfl d_Sg_isSort_6 ?_
    refine lv_icmp_ge (tgt := 16) hx hb d_Sg_isSort_9 (by decide) (fun hc => ?_) (fun hc => ?_)
    · have hv := hv.trans (if_pos hc)
      have hk := hk.1 hc
      exact B16 _  hv hk (lv_sub hl [] rfl)
    · have hv := hv.trans (if_neg hc)
      have hk := hk.2 hc
      refine lv_iconst (v := 1) hx hb d_Sg_isSort_12 (by decide) ?_
      refine lv_goto (tgt := 17) hx hb d_Sg_isSort_13 (by decide) ?_
      exact B17 _ 1 hv hk (lv_sub hl [] rfl)

-- ClauseLedger$Signature.isSortOrNone(I)Z
abbrev b_Sg_isSortOrNone : ByteArray := prog_8_method_12_code
def y_Sg_isSortOrNone : MethodName := ⟨"ClauseLedger$Signature", "isSortOrNone", "(I)Z"⟩
theorem hd_Sg_isSortOrNone : y_Sg_isSortOrNone.cls ≠ "java/lang/invoke/MethodHandle" ∧ y_Sg_isSortOrNone.cls ≠ "java/lang/invoke/VarHandle" ∧ (parseMethodDescriptor y_Sg_isSortOrNone.desc).map (fun d => d.parameters.length) = some 1 := by decide +kernel
theorem d_Sg_isSortOrNone_0 : decode b_Sg_isSortOrNone 0 = .ok (.iload_n 1, 1) := by decide +kernel
theorem d_Sg_isSortOrNone_1 : decode b_Sg_isSortOrNone 1 = .ok (.iconst (-1), 1) := by decide +kernel
theorem d_Sg_isSortOrNone_2 : decode b_Sg_isSortOrNone 2 = .ok (.if_icmp .eq 11, 3) := by decide +kernel
theorem d_Sg_isSortOrNone_5 : decode b_Sg_isSortOrNone 5 = .ok (.aload_n 0, 1) := by decide +kernel
theorem d_Sg_isSortOrNone_6 : decode b_Sg_isSortOrNone 6 = .ok (.iload_n 1, 1) := by decide +kernel
theorem d_Sg_isSortOrNone_7 : decode b_Sg_isSortOrNone 7 = .ok (.invokevirtual 31, 3) := by decide +kernel
theorem d_Sg_isSortOrNone_10 : decode b_Sg_isSortOrNone 10 = .ok (.ifCond .eq 7, 3) := by decide +kernel
theorem d_Sg_isSortOrNone_13 : decode b_Sg_isSortOrNone 13 = .ok (.iconst 1, 1) := by decide +kernel
theorem d_Sg_isSortOrNone_14 : decode b_Sg_isSortOrNone 14 = .ok (.goto 4, 3) := by decide +kernel
theorem d_Sg_isSortOrNone_17 : decode b_Sg_isSortOrNone 17 = .ok (.iconst 0, 1) := by decide +kernel
theorem d_Sg_isSortOrNone_18 : decode b_Sg_isSortOrNone 18 = .ok (.ireturn, 1) := by decide +kernel
def f_Sg_isSortOrNone_18 (s0 : Int32) (σ : St) : Int32 := s0
def k_Sg_isSortOrNone_18 (s0 : Int32) (σ : St) : Prop := (narrow .boolean (.int s0) = .int s0) ∧ True
def f_Sg_isSortOrNone_13 (σ : St) : Int32 := f_Sg_isSortOrNone_18 1 σ
def k_Sg_isSortOrNone_13 (σ : St) : Prop := k_Sg_isSortOrNone_18 1 σ
def f_Sg_isSortOrNone (a1 : Int32) (σ : St) : Int32 := if a1 = (-1) then (f_Sg_isSortOrNone_13 σ) else (if (f_Sg_isSort a1 σ) = 0 then (f_Sg_isSortOrNone_18 0 σ) else (f_Sg_isSortOrNone_13 σ))
def k_Sg_isSortOrNone (a1 : Int32) (σ : St) : Prop := (a1 = (-1) → (k_Sg_isSortOrNone_13 σ)) ∧ (¬ a1 = (-1) → ((k_Sg_isSort a1 σ) ∧ (((f_Sg_isSort a1 σ) = 0 → (k_Sg_isSortOrNone_18 0 σ)) ∧ (¬ (f_Sg_isSort a1 σ) = 0 → (k_Sg_isSortOrNone_13 σ)))))
abbrev w_Sg_isSortOrNone : List Cond := Cond.code y_Sg_isSortOrNone b_Sg_isSortOrNone 2 (some .boolean) :: gw
abbrev rm_Sg_isSortOrNone : Room := { frames := 1, cells := 0, slots := 0, locals := 21 }
set_option maxHeartbeats 4000000 in
set_option maxRecDepth 100000 in
theorem c_Sg_isSortOrNone (l : Launch) (D : va_G) (ty : Nat → ClassId) (h : Nat → Nat) (px : va_W) (sa : Nat → Nat) (σ : St) (a1 : Int32) (hk : k_Sg_isSortOrNone a1 σ) : Met l y_Sg_isSortOrNone w_Sg_isSortOrNone rm_Sg_isSortOrNone (va_Pc [.ref (h 1), .int a1] (fun U => va_P D classes (Wc ty h σ px) U.heap ∧ va_K D classes (Ta ty) U ∧ NW U ∧ MK sa (fun _ => False) U U.heap)) (k2_QcV (.int (f_Sg_isSortOrNone a1 σ))) 0 0 (fun _ => False) := by
  refine Met.ofW (cc := b_Sg_isSortOrNone) (maxL := 2) (ret := (some .boolean)) (by decide) rfl ?_
  intro p e s m args below meth c s₁ B hml hv
  obtain ⟨ha, hP, hK, hN, hM⟩ := hv
  have hx := B.exec
  have hb := B.bytes
  have hr := B.returns
  have hg : ∀ w ∈ gw, w.before args s = true := fun w h9 => atoms_spec (ws := w_Sg_isSortOrNone) B.pre w (List.mem_cons_of_mem _ h9)
  have hown : s.vm.findClass "ClauseLedger$Signature" = some m.cls := findClass_of_methodNamed B.named
  have hlocks := B.notSynchronized
  have he : entryFrame m args 2 = entryFrame m ([.ref (h 1), .int a1] : List Value).toArray 2 := by rw [ha]
  rw [he, lg_entry_eq]
  have hl := lv_entry ([.ref (h 1), .int a1]) (n := 2) (Nat.le_of_ble_eq_true rfl)
  generalize (lg_sl ([.ref (h 1), .int a1]) ++ List.replicate (2 - (lg_sl ([.ref (h 1), .int a1])).length) Slot.unset).toArray = ls at hl ⊢
  have hl : lv_has ls 2 [(0, .ref (h 1)), (1, .int a1)] := hl
  generalize hv : f_Sg_isSortOrNone a1 σ = v
  replace hv := hv.symm
  have B18 : ∀ (ls : Array Slot) (s0 : Int32), v = f_Sg_isSortOrNone_18 s0 σ → k_Sg_isSortOrNone_18 s0 σ → lv_has ls 2 [] → W p l e (headSpec w_Sg_isSortOrNone rm_Sg_isSortOrNone).room s m args below meth c s.heap [] 0 0 (MQ below (k2_QcV (.int v)) args s 0 0 (fun _ => False)) (F0 m 18 ls [.int s0]) := by
    intro ls s0 hv hk hl
    unfold f_Sg_isSortOrNone_18 at hv
    unfold k_Sg_isSortOrNone_18 at hk
    obtain ⟨hk0, hk⟩ := hk
    exact W.zret hx hb hr hk0 (fun t ht hW => ⟨by rw [hv], ht⟩) (fun q h => nomatch h) d_Sg_isSortOrNone_18
  have B13 : ∀ (ls : Array Slot), v = f_Sg_isSortOrNone_13 σ → k_Sg_isSortOrNone_13 σ → lv_has ls 2 [] → W p l e (headSpec w_Sg_isSortOrNone rm_Sg_isSortOrNone).room s m args below meth c s.heap [] 0 0 (MQ below (k2_QcV (.int v)) args s 0 0 (fun _ => False)) (F0 m 13 ls []) := by
    intro ls hv hk hl
    unfold f_Sg_isSortOrNone_13 at hv
    unfold k_Sg_isSortOrNone_13 at hk
    refine lv_iconst (v := 1) hx hb d_Sg_isSortOrNone_13 (by decide) ?_
    refine lv_goto (tgt := 18) hx hb d_Sg_isSortOrNone_14 (by decide) ?_
    exact B18 _ 1 hv hk (lv_sub hl [] rfl)
  unfold f_Sg_isSortOrNone at hv
  unfold k_Sg_isSortOrNone at hk
  refine lv_iload_n hx hb d_Sg_isSortOrNone_0 rfl (lv_at hl 1 rfl) ?_
  refine lv_iconst (v := -1) hx hb d_Sg_isSortOrNone_1 (by decide) ?_
  refine lv_icmp_eq (tgt := 13) hx hb d_Sg_isSortOrNone_2 (by decide) (fun hc => ?_) (fun hc => ?_)
  · have hv := hv.trans (if_pos hc)
    have hk := hk.1 hc
    exact B13 _  hv hk (lv_sub hl [] rfl)
  · have hv := hv.trans (if_neg hc)
    have hk := hk.2 hc
    refine lv_aload_n hx hb d_Sg_isSortOrNone_5 rfl (lv_at hl 0 rfl) ?_
    refine lv_iload_n hx hb d_Sg_isSortOrNone_6 rfl (lv_at hl 1 rfl) ?_
    obtain ⟨hk0, hk⟩ := hk
    refine zz_callV (va_runV (As := [.int a1]) (rest := []) ⟨hx, hb, hml, hown, hg⟩ (c_Sg_isSort l D ty h px sa σ a1 hk0) ⟨callB_of 1 hg (gw_C m_337) rfl rfl rfl (hg _ m_2) (hg _ m_334) hd_Sg_isSort ⟨Nat.le_of_ble_eq_true rfl, Nat.le_of_ble_eq_true rfl⟩, hg _ m_336, hg _ ms_0⟩ (zz_preV hM hN hK hP 1 rfl rfl) rfl rfl hl.1 rfl (lv_room (Nat.le_of_ble_eq_true rfl)) d_Sg_isSortOrNone_7 ⟨Nat.le_of_ble_eq_true rfl, Nat.le_of_ble_eq_true rfl⟩) ?_
    refine lv_if_eq (tgt := 17) hx hb d_Sg_isSortOrNone_10 (by decide) (fun hc => ?_) (fun hc => ?_)
    · have hv := hv.trans (if_pos hc)
      have hk := hk.1 hc
      refine lv_iconst (v := 0) hx hb d_Sg_isSortOrNone_17 (by decide) ?_
      exact B18 _ 0 hv hk (lv_sub hl [] rfl)
    · have hv := hv.trans (if_neg hc)
      have hk := hk.2 hc
      exact B13 _  hv hk (lv_sub hl [] rfl)

-- ClauseLedger$Signature.addSymbol(III)I
abbrev b_Sg_addSymbol : ByteArray := prog_8_method_3_code
def y_Sg_addSymbol : MethodName := ⟨"ClauseLedger$Signature", "addSymbol", "(III)I"⟩
theorem hd_Sg_addSymbol : y_Sg_addSymbol.cls ≠ "java/lang/invoke/MethodHandle" ∧ y_Sg_addSymbol.cls ≠ "java/lang/invoke/VarHandle" ∧ (parseMethodDescriptor y_Sg_addSymbol.desc).map (fun d => d.parameters.length) = some 3 := by decide +kernel
theorem d_Sg_addSymbol_0 : decode b_Sg_addSymbol 0 = .ok (.aload_n 0, 1) := by decide +kernel
theorem d_Sg_addSymbol_1 : decode b_Sg_addSymbol 1 = .ok (.getfield 28, 3) := by decide +kernel
theorem d_Sg_addSymbol_4 : decode b_Sg_addSymbol 4 = .ok (.bipush 12, 2) := by decide +kernel
theorem d_Sg_addSymbol_6 : decode b_Sg_addSymbol 6 = .ok (.if_icmp .ge 37, 3) := by decide +kernel
theorem d_Sg_addSymbol_9 : decode b_Sg_addSymbol 9 = .ok (.aload_n 0, 1) := by decide +kernel
theorem d_Sg_addSymbol_10 : decode b_Sg_addSymbol 10 = .ok (.iload_n 1, 1) := by decide +kernel
theorem d_Sg_addSymbol_11 : decode b_Sg_addSymbol 11 = .ok (.invokevirtual 31, 3) := by decide +kernel
theorem d_Sg_addSymbol_14 : decode b_Sg_addSymbol 14 = .ok (.ifCond .eq 29, 3) := by decide +kernel
theorem d_Sg_addSymbol_17 : decode b_Sg_addSymbol 17 = .ok (.aload_n 0, 1) := by decide +kernel
theorem d_Sg_addSymbol_18 : decode b_Sg_addSymbol 18 = .ok (.iload_n 2, 1) := by decide +kernel
theorem d_Sg_addSymbol_19 : decode b_Sg_addSymbol 19 = .ok (.invokevirtual 35, 3) := by decide +kernel
theorem d_Sg_addSymbol_22 : decode b_Sg_addSymbol 22 = .ok (.ifCond .eq 21, 3) := by decide +kernel
theorem d_Sg_addSymbol_25 : decode b_Sg_addSymbol 25 = .ok (.aload_n 0, 1) := by decide +kernel
theorem d_Sg_addSymbol_26 : decode b_Sg_addSymbol 26 = .ok (.iload_n 3, 1) := by decide +kernel
theorem d_Sg_addSymbol_27 : decode b_Sg_addSymbol 27 = .ok (.invokevirtual 35, 3) := by decide +kernel
theorem d_Sg_addSymbol_30 : decode b_Sg_addSymbol 30 = .ok (.ifCond .eq 13, 3) := by decide +kernel
theorem d_Sg_addSymbol_33 : decode b_Sg_addSymbol 33 = .ok (.iload_n 2, 1) := by decide +kernel
theorem d_Sg_addSymbol_34 : decode b_Sg_addSymbol 34 = .ok (.iconst (-1), 1) := by decide +kernel
theorem d_Sg_addSymbol_35 : decode b_Sg_addSymbol 35 = .ok (.if_icmp .ne 10, 3) := by decide +kernel
theorem d_Sg_addSymbol_38 : decode b_Sg_addSymbol 38 = .ok (.iload_n 3, 1) := by decide +kernel
theorem d_Sg_addSymbol_39 : decode b_Sg_addSymbol 39 = .ok (.iconst (-1), 1) := by decide +kernel
theorem d_Sg_addSymbol_40 : decode b_Sg_addSymbol 40 = .ok (.if_icmp .eq 5, 3) := by decide +kernel
theorem d_Sg_addSymbol_43 : decode b_Sg_addSymbol 43 = .ok (.iconst (-1), 1) := by decide +kernel
theorem d_Sg_addSymbol_44 : decode b_Sg_addSymbol 44 = .ok (.ireturn, 1) := by decide +kernel
theorem d_Sg_addSymbol_45 : decode b_Sg_addSymbol 45 = .ok (.aload_n 0, 1) := by decide +kernel
theorem d_Sg_addSymbol_46 : decode b_Sg_addSymbol 46 = .ok (.getfield 11, 3) := by decide +kernel
theorem d_Sg_addSymbol_49 : decode b_Sg_addSymbol 49 = .ok (.aload_n 0, 1) := by decide +kernel
theorem d_Sg_addSymbol_50 : decode b_Sg_addSymbol 50 = .ok (.getfield 28, 3) := by decide +kernel
theorem d_Sg_addSymbol_53 : decode b_Sg_addSymbol 53 = .ok (.iload_n 1, 1) := by decide +kernel
theorem d_Sg_addSymbol_54 : decode b_Sg_addSymbol 54 = .ok (.iastore, 1) := by decide +kernel
theorem d_Sg_addSymbol_55 : decode b_Sg_addSymbol 55 = .ok (.aload_n 0, 1) := by decide +kernel
theorem d_Sg_addSymbol_56 : decode b_Sg_addSymbol 56 = .ok (.getfield 15, 3) := by decide +kernel
theorem d_Sg_addSymbol_59 : decode b_Sg_addSymbol 59 = .ok (.aload_n 0, 1) := by decide +kernel
theorem d_Sg_addSymbol_60 : decode b_Sg_addSymbol 60 = .ok (.getfield 28, 3) := by decide +kernel
theorem d_Sg_addSymbol_63 : decode b_Sg_addSymbol 63 = .ok (.iload_n 2, 1) := by decide +kernel
theorem d_Sg_addSymbol_64 : decode b_Sg_addSymbol 64 = .ok (.iastore, 1) := by decide +kernel
theorem d_Sg_addSymbol_65 : decode b_Sg_addSymbol 65 = .ok (.aload_n 0, 1) := by decide +kernel
theorem d_Sg_addSymbol_66 : decode b_Sg_addSymbol 66 = .ok (.getfield 18, 3) := by decide +kernel
theorem d_Sg_addSymbol_69 : decode b_Sg_addSymbol 69 = .ok (.aload_n 0, 1) := by decide +kernel
theorem d_Sg_addSymbol_70 : decode b_Sg_addSymbol 70 = .ok (.getfield 28, 3) := by decide +kernel
theorem d_Sg_addSymbol_73 : decode b_Sg_addSymbol 73 = .ok (.iload_n 3, 1) := by decide +kernel
theorem d_Sg_addSymbol_74 : decode b_Sg_addSymbol 74 = .ok (.iastore, 1) := by decide +kernel
theorem d_Sg_addSymbol_75 : decode b_Sg_addSymbol 75 = .ok (.aload_n 0, 1) := by decide +kernel
theorem d_Sg_addSymbol_76 : decode b_Sg_addSymbol 76 = .ok (.dup, 1) := by decide +kernel
theorem d_Sg_addSymbol_77 : decode b_Sg_addSymbol 77 = .ok (.getfield 28, 3) := by decide +kernel
theorem d_Sg_addSymbol_80 : decode b_Sg_addSymbol 80 = .ok (.iconst 1, 1) := by decide +kernel
theorem d_Sg_addSymbol_81 : decode b_Sg_addSymbol 81 = .ok (.iadd, 1) := by decide +kernel
theorem d_Sg_addSymbol_82 : decode b_Sg_addSymbol 82 = .ok (.putfield 28, 3) := by decide +kernel
theorem d_Sg_addSymbol_85 : decode b_Sg_addSymbol 85 = .ok (.aload_n 0, 1) := by decide +kernel
theorem d_Sg_addSymbol_86 : decode b_Sg_addSymbol 86 = .ok (.getfield 28, 3) := by decide +kernel
theorem d_Sg_addSymbol_89 : decode b_Sg_addSymbol 89 = .ok (.iconst 1, 1) := by decide +kernel
theorem d_Sg_addSymbol_90 : decode b_Sg_addSymbol 90 = .ok (.isub, 1) := by decide +kernel
theorem d_Sg_addSymbol_91 : decode b_Sg_addSymbol 91 = .ok (.ireturn, 1) := by decide +kernel
def f_Sg_addSymbol_43 (σ : St) : Int32 × St := ((-1), σ)
def k_Sg_addSymbol_43 (σ : St) : Prop := True
def f_Sg_addSymbol_85 (σ : St) : Int32 × St := ((σ.1 1 5) - 1, σ)
def k_Sg_addSymbol_85 (σ : St) : Prop := True
def f_Sg_addSymbol_75 (σ : St) : Int32 × St := f_Sg_addSymbol_85 (sF σ 1 5 ((σ.1 1 5) + 1))
def k_Sg_addSymbol_75 (σ : St) : Prop := k_Sg_addSymbol_85 (sF σ 1 5 ((σ.1 1 5) + 1))
def f_Sg_addSymbol_65 (x3 : Int32) (σ : St) : Int32 × St := f_Sg_addSymbol_75 (sA σ 4 (σ.1 1 5) x3)
def k_Sg_addSymbol_65 (x3 : Int32) (σ : St) : Prop := vp_in (σ.1 1 5) 12 ∧ (k_Sg_addSymbol_75 (sA σ 4 (σ.1 1 5) x3))
def f_Sg_addSymbol_55 (x2 : Int32) (x3 : Int32) (σ : St) : Int32 × St := f_Sg_addSymbol_65 x3 (sA σ 3 (σ.1 1 5) x2)
def k_Sg_addSymbol_55 (x2 : Int32) (x3 : Int32) (σ : St) : Prop := vp_in (σ.1 1 5) 12 ∧ (k_Sg_addSymbol_65 x3 (sA σ 3 (σ.1 1 5) x2))
def f_Sg_addSymbol_45 (x1 : Int32) (x2 : Int32) (x3 : Int32) (σ : St) : Int32 × St := f_Sg_addSymbol_55 x2 x3 (sA σ 2 (σ.1 1 5) x1)
def k_Sg_addSymbol_45 (x1 : Int32) (x2 : Int32) (x3 : Int32) (σ : St) : Prop := vp_in (σ.1 1 5) 12 ∧ (k_Sg_addSymbol_55 x2 x3 (sA σ 2 (σ.1 1 5) x1))
def f_Sg_addSymbol (a1 : Int32) (a2 : Int32) (a3 : Int32) (σ : St) : Int32 × St := if 12 ≤ (σ.1 1 5) then (f_Sg_addSymbol_43 σ) else (if (f_Sg_isSort a1 σ) = 0 then (f_Sg_addSymbol_43 σ) else (if (f_Sg_isSortOrNone a2 σ) = 0 then (f_Sg_addSymbol_43 σ) else (if (f_Sg_isSortOrNone a3 σ) = 0 then (f_Sg_addSymbol_43 σ) else (if a2 = (-1) then (if a3 = (-1) then (f_Sg_addSymbol_45 a1 a2 a3 σ) else (f_Sg_addSymbol_43 σ)) else (f_Sg_addSymbol_45 a1 a2 a3 σ)))))
def k_Sg_addSymbol (a1 : Int32) (a2 : Int32) (a3 : Int32) (σ : St) : Prop := (12 ≤ (σ.1 1 5) → (k_Sg_addSymbol_43 σ)) ∧ (¬ 12 ≤ (σ.1 1 5) → ((k_Sg_isSort a1 σ) ∧ (((f_Sg_isSort a1 σ) = 0 → (k_Sg_addSymbol_43 σ)) ∧ (¬ (f_Sg_isSort a1 σ) = 0 → ((k_Sg_isSortOrNone a2 σ) ∧ (((f_Sg_isSortOrNone a2 σ) = 0 → (k_Sg_addSymbol_43 σ)) ∧ (¬ (f_Sg_isSortOrNone a2 σ) = 0 → ((k_Sg_isSortOrNone a3 σ) ∧ (((f_Sg_isSortOrNone a3 σ) = 0 → (k_Sg_addSymbol_43 σ)) ∧ (¬ (f_Sg_isSortOrNone a3 σ) = 0 → ((a2 = (-1) → ((a3 = (-1) → (k_Sg_addSymbol_45 a1 a2 a3 σ)) ∧ (¬ a3 = (-1) → (k_Sg_addSymbol_43 σ)))) ∧ (¬ a2 = (-1) → (k_Sg_addSymbol_45 a1 a2 a3 σ)))))))))))))
abbrev w_Sg_addSymbol : List Cond := Cond.code y_Sg_addSymbol b_Sg_addSymbol 4 (some .int) :: gw
abbrev rm_Sg_addSymbol : Room := { frames := 2, cells := 0, slots := 0, locals := 42 }
set_option maxHeartbeats 4000000 in
set_option maxRecDepth 100000 in
theorem c_Sg_addSymbol (l : Launch) (D : va_G) (ty : Nat → ClassId) (h : Nat → Nat) (px : va_W) (sa : Nat → Nat) (σ : St) (sz : Nat) (a1 : Int32) (a2 : Int32) (a3 : Int32) (hk : k_Sg_addSymbol a1 a2 a3 σ) : Met l y_Sg_addSymbol w_Sg_addSymbol rm_Sg_addSymbol (va_Pc [.ref (h 1), .int a1, .int a2, .int a3] (fun U => U.heap.size = sz ∧ va_P D classes (Wc ty h σ px) U.heap ∧ va_K D classes (Ta ty) U ∧ NW U ∧ MK sa (va_A (Wc ty h σ px) sz) U U.heap ∧ va_D (fun _ => True) (Wc ty h σ px))) (va_Qi (fun r (u : St) => (r, u) = f_Sg_addSymbol a1 a2 a3 σ) (fun u t => va_P D classes (Wc ty h u px) t.heap) (va_A (Wc ty h σ px) sz)) 0 0 (va_A (Wc ty h σ px) sz) := by
  refine Met.ofW (cc := b_Sg_addSymbol) (maxL := 4) (ret := (some .int)) (by decide) rfl ?_
  intro p e s m args below meth c s₁ B hml hv
  obtain ⟨ha, hsz, hP, hK, hN, hM, hD0⟩ := hv
  have hx := B.exec
  have hb := B.bytes
  have hr := B.returns
  have hg : ∀ w ∈ gw, w.before args s = true := fun w h9 => atoms_spec (ws := w_Sg_addSymbol) B.pre w (List.mem_cons_of_mem _ h9)
  have hown : s.vm.findClass "ClauseLedger$Signature" = some m.cls := findClass_of_methodNamed B.named
  have hlocks := B.notSynchronized
  subst hsz
  have hD := hD0.self (sz := s.heap.size)
  generalize hAe : va_A (Wc ty h σ px) s.heap.size = A at hD hM ⊢
  have hA : ∀ q : Nat, s.heap.size ≤ q → A q := fun q h9 => by rw [← hAe]; exact Or.inr h9
  have hS : va_S A s.heap s.heap [] := va_S.rf
  have he : entryFrame m args 4 = entryFrame m ([.ref (h 1), .int a1, .int a2, .int a3] : List Value).toArray 4 := by rw [ha]
  rw [he, lg_entry_eq]
  have hl := lv_entry ([.ref (h 1), .int a1, .int a2, .int a3]) (n := 4) (Nat.le_of_ble_eq_true rfl)
  generalize (lg_sl ([.ref (h 1), .int a1, .int a2, .int a3]) ++ List.replicate (4 - (lg_sl ([.ref (h 1), .int a1, .int a2, .int a3])).length) Slot.unset).toArray = ls at hl ⊢
  have hl : lv_has ls 4 [(0, .ref (h 1)), (1, .int a1), (2, .int a2), (3, .int a3)] := hl
  generalize hv : f_Sg_addSymbol a1 a2 a3 σ = v
  replace hv := hv.symm
  have B43 : ∀ (H : Heap) (locs : List Loc) (ls : Array Slot) (σ : St), v = f_Sg_addSymbol_43 σ → k_Sg_addSymbol_43 σ → lv_has ls 4 [] → va_P D classes (Wc ty h σ px) H → va_D A (Wc ty h σ px) → va_S A s.heap H locs → W p l e (headSpec w_Sg_addSymbol rm_Sg_addSymbol).room s m args below meth c H locs 0 0 (MQ below (va_Qi (fun r (u : St) => (r, u) = v) (fun u t => va_P D classes (Wc ty h u px) t.heap) A) args s 0 0 A) (F0 m 43 ls []) := by
    intro H locs ls σ hv hk hl hP hD hS
    unfold f_Sg_addSymbol_43 at hv
    unfold k_Sg_addSymbol_43 at hk
    refine lv_iconst (v := -1) hx hb d_Sg_addSymbol_43 (by decide) ?_
    exact W.iret hx hb hr (fun t ht hW => ⟨⟨_, _, rfl, hv.symm, by dsimp only; rw [ht]; exact hP⟩, hS.F ht⟩) hS.2.2 d_Sg_addSymbol_44
  have B85 : ∀ (H : Heap) (locs : List Loc) (ls : Array Slot) (σ : St), v = f_Sg_addSymbol_85 σ → k_Sg_addSymbol_85 σ → lv_has ls 4 [(0, .ref (h 1))] → va_P D classes (Wc ty h σ px) H → va_D A (Wc ty h σ px) → va_S A s.heap H locs → W p l e (headSpec w_Sg_addSymbol rm_Sg_addSymbol).room s m args below meth c H locs 0 0 (MQ below (va_Qi (fun r (u : St) => (r, u) = v) (fun u t => va_P D classes (Wc ty h u px) t.heap) A) args s 0 0 A) (F0 m 85 ls []) := by
    intro H locs ls σ hv hk hl hP hD hS
    unfold f_Sg_addSymbol_85 at hv
    unfold k_Sg_addSymbol_85 at hk
    refine lv_aload_n hx hb d_Sg_addSymbol_85 rfl (lv_at hl 0 rfl) ?_
    refine va_get (v := .int (σ.1 1 5)) (C := R_Sg) (T := T_Sg) (N := 6) hx hb hg in_Sg hown hK hP 1 rfl rfl 5 (by decide) (hg _ m_48) (fun _ h9 => h9) rfl d_Sg_addSymbol_86 ?_
    refine lv_iconst (v := 1) hx hb d_Sg_addSymbol_89 (by decide) ?_
    refine lv_isub hx hb d_Sg_addSymbol_90 ?_
    exact W.iret hx hb hr (fun t ht hW => ⟨⟨_, _, rfl, hv.symm, by dsimp only; rw [ht]; exact hP⟩, hS.F ht⟩) hS.2.2 d_Sg_addSymbol_91
  have B75 : ∀ (H : Heap) (locs : List Loc) (ls : Array Slot) (σ : St), v = f_Sg_addSymbol_75 σ → k_Sg_addSymbol_75 σ → lv_has ls 4 [(0, .ref (h 1))] → va_P D classes (Wc ty h σ px) H → va_D A (Wc ty h σ px) → va_S A s.heap H locs → W p l e (headSpec w_Sg_addSymbol rm_Sg_addSymbol).room s m args below meth c H locs 0 0 (MQ below (va_Qi (fun r (u : St) => (r, u) = v) (fun u t => va_P D classes (Wc ty h u px) t.heap) A) args s 0 0 A) (F0 m 75 ls []) := by
    intro H locs ls σ hv hk hl hP hD hS
    unfold f_Sg_addSymbol_75 at hv
    unfold k_Sg_addSymbol_75 at hk
    refine lv_aload_n hx hb d_Sg_addSymbol_75 rfl (lv_at hl 0 rfl) ?_
    refine lv_dup hx hb d_Sg_addSymbol_76 rfl ?_
    refine va_get (v := .int (σ.1 1 5)) (C := R_Sg) (T := T_Sg) (N := 6) hx hb hg in_Sg hown hK hP 1 rfl rfl 5 (by decide) (hg _ m_48) (fun _ h9 => h9) rfl d_Sg_addSymbol_77 ?_
    refine lv_iconst (v := 1) hx hb d_Sg_addSymbol_80 (by decide) ?_
    refine lv_iadd hx hb d_Sg_addSymbol_81 ?_
    refine va_put (v := .int ((σ.1 1 5) + 1)) (ty := .int) (C := R_Sg) (T := T_Sg) (N := 6) hx hb hg in_Sg ty_Sg ok_Sg nm_Sg hown hK hP hD hS 1 rfl rfl 5 (by decide) (hg _ m_48) (fun _ h9 => h9) rfl (by decide +kernel) rfl rfl (Nat.le_of_ble_eq_true rfl) d_Sg_addSymbol_82 (fun H locs hP hD hS => ?_)
    have hP : va_P D classes (Wc ty h (sF σ 1 5 ((σ.1 1 5) + 1)) px) H := hP
    have hD : va_D A (Wc ty h (sF σ 1 5 ((σ.1 1 5) + 1)) px) := hD
    exact B85 _ _ _  (sF σ 1 5 ((σ.1 1 5) + 1)) hv hk (lv_sub hl [0] rfl) hP hD hS
  have B65 : ∀ (H : Heap) (locs : List Loc) (ls : Array Slot) (x3 : Int32) (σ : St), v = f_Sg_addSymbol_65 x3 σ → k_Sg_addSymbol_65 x3 σ → lv_has ls 4 [(0, .ref (h 1)), (3, .int x3)] → va_P D classes (Wc ty h σ px) H → va_D A (Wc ty h σ px) → va_S A s.heap H locs → W p l e (headSpec w_Sg_addSymbol rm_Sg_addSymbol).room s m args below meth c H locs 0 0 (MQ below (va_Qi (fun r (u : St) => (r, u) = v) (fun u t => va_P D classes (Wc ty h u px) t.heap) A) args s 0 0 A) (F0 m 65 ls []) := by
    intro H locs ls x3 σ hv hk hl hP hD hS
    unfold f_Sg_addSymbol_65 at hv
    unfold k_Sg_addSymbol_65 at hk
    refine lv_aload_n hx hb d_Sg_addSymbol_65 rfl (lv_at hl 0 rfl) ?_
    refine va_get (v := .ref (h 4)) (C := R_Sg) (T := T_Sg) (N := 6) hx hb hg in_Sg hown hK hP 1 rfl rfl 2 (by decide) (hg _ m_45) (fun _ h9 => h9) rfl d_Sg_addSymbol_66 ?_
    refine lv_aload_n hx hb d_Sg_addSymbol_69 rfl (lv_at hl 0 rfl) ?_
    refine va_get (v := .int (σ.1 1 5)) (C := R_Sg) (T := T_Sg) (N := 6) hx hb hg in_Sg hown hK hP 1 rfl rfl 5 (by decide) (hg _ m_48) (fun _ h9 => h9) rfl d_Sg_addSymbol_70 ?_
    refine lv_iload_n hx hb d_Sg_addSymbol_73 rfl (lv_at hl 1 rfl) ?_
    obtain ⟨hk0, hk⟩ := hk
    refine va_iast hx hb hK hP hD hS 4 0 rfl rfl hk0 d_Sg_addSymbol_74 (fun H locs hP hD hS => ?_)
    have hP : va_P D classes (Wc ty h (sA σ 4 (σ.1 1 5) x3) px) H := hP
    have hD : va_D A (Wc ty h (sA σ 4 (σ.1 1 5) x3) px) := hD
    exact B75 _ _ _  (sA σ 4 (σ.1 1 5) x3) hv hk (lv_sub hl [0] rfl) hP hD hS
  have B55 : ∀ (H : Heap) (locs : List Loc) (ls : Array Slot) (x2 : Int32) (x3 : Int32) (σ : St), v = f_Sg_addSymbol_55 x2 x3 σ → k_Sg_addSymbol_55 x2 x3 σ → lv_has ls 4 [(0, .ref (h 1)), (2, .int x2), (3, .int x3)] → va_P D classes (Wc ty h σ px) H → va_D A (Wc ty h σ px) → va_S A s.heap H locs → W p l e (headSpec w_Sg_addSymbol rm_Sg_addSymbol).room s m args below meth c H locs 0 0 (MQ below (va_Qi (fun r (u : St) => (r, u) = v) (fun u t => va_P D classes (Wc ty h u px) t.heap) A) args s 0 0 A) (F0 m 55 ls []) := by
    intro H locs ls x2 x3 σ hv hk hl hP hD hS
    unfold f_Sg_addSymbol_55 at hv
    unfold k_Sg_addSymbol_55 at hk
    refine lv_aload_n hx hb d_Sg_addSymbol_55 rfl (lv_at hl 0 rfl) ?_
    refine va_get (v := .ref (h 3)) (C := R_Sg) (T := T_Sg) (N := 6) hx hb hg in_Sg hown hK hP 1 rfl rfl 1 (by decide) (hg _ m_44) (fun _ h9 => h9) rfl d_Sg_addSymbol_56 ?_
    refine lv_aload_n hx hb d_Sg_addSymbol_59 rfl (lv_at hl 0 rfl) ?_
    refine va_get (v := .int (σ.1 1 5)) (C := R_Sg) (T := T_Sg) (N := 6) hx hb hg in_Sg hown hK hP 1 rfl rfl 5 (by decide) (hg _ m_48) (fun _ h9 => h9) rfl d_Sg_addSymbol_60 ?_
    refine lv_iload_n hx hb d_Sg_addSymbol_63 rfl (lv_at hl 1 rfl) ?_
    obtain ⟨hk0, hk⟩ := hk
    refine va_iast hx hb hK hP hD hS 3 0 rfl rfl hk0 d_Sg_addSymbol_64 (fun H locs hP hD hS => ?_)
    have hP : va_P D classes (Wc ty h (sA σ 3 (σ.1 1 5) x2) px) H := hP
    have hD : va_D A (Wc ty h (sA σ 3 (σ.1 1 5) x2) px) := hD
    exact B65 _ _ _ x3 (sA σ 3 (σ.1 1 5) x2) hv hk (lv_sub hl [0, 2] rfl) hP hD hS
  have B45 : ∀ (H : Heap) (locs : List Loc) (ls : Array Slot) (x1 : Int32) (x2 : Int32) (x3 : Int32) (σ : St), v = f_Sg_addSymbol_45 x1 x2 x3 σ → k_Sg_addSymbol_45 x1 x2 x3 σ → lv_has ls 4 [(0, .ref (h 1)), (1, .int x1), (2, .int x2), (3, .int x3)] → va_P D classes (Wc ty h σ px) H → va_D A (Wc ty h σ px) → va_S A s.heap H locs → W p l e (headSpec w_Sg_addSymbol rm_Sg_addSymbol).room s m args below meth c H locs 0 0 (MQ below (va_Qi (fun r (u : St) => (r, u) = v) (fun u t => va_P D classes (Wc ty h u px) t.heap) A) args s 0 0 A) (F0 m 45 ls []) := by
    intro H locs ls x1 x2 x3 σ hv hk hl hP hD hS
    unfold f_Sg_addSymbol_45 at hv
    unfold k_Sg_addSymbol_45 at hk
    refine lv_aload_n hx hb d_Sg_addSymbol_45 rfl (lv_at hl 0 rfl) ?_
    refine va_get (v := .ref (h 2)) (C := R_Sg) (T := T_Sg) (N := 6) hx hb hg in_Sg hown hK hP 1 rfl rfl 0 (by decide) (hg _ m_43) (fun _ h9 => h9) rfl d_Sg_addSymbol_46 ?_
    refine lv_aload_n hx hb d_Sg_addSymbol_49 rfl (lv_at hl 0 rfl) ?_
    refine va_get (v := .int (σ.1 1 5)) (C := R_Sg) (T := T_Sg) (N := 6) hx hb hg in_Sg hown hK hP 1 rfl rfl 5 (by decide) (hg _ m_48) (fun _ h9 => h9) rfl d_Sg_addSymbol_50 ?_
    refine lv_iload_n hx hb d_Sg_addSymbol_53 rfl (lv_at hl 1 rfl) ?_
    obtain ⟨hk0, hk⟩ := hk
    refine va_iast hx hb hK hP hD hS 2 0 rfl rfl hk0 d_Sg_addSymbol_54 (fun H locs hP hD hS => ?_)
    have hP : va_P D classes (Wc ty h (sA σ 2 (σ.1 1 5) x1) px) H := hP
    have hD : va_D A (Wc ty h (sA σ 2 (σ.1 1 5) x1) px) := hD
    exact B55 _ _ _ x2 x3 (sA σ 2 (σ.1 1 5) x1) hv hk (lv_sub hl [0, 2, 3] rfl) hP hD hS
  unfold f_Sg_addSymbol at hv
  unfold k_Sg_addSymbol at hk
  refine lv_aload_n hx hb d_Sg_addSymbol_0 rfl (lv_at hl 0 rfl) ?_
  refine va_get (v := .int (σ.1 1 5)) (C := R_Sg) (T := T_Sg) (N := 6) hx hb hg in_Sg hown hK hP 1 rfl rfl 5 (by decide) (hg _ m_48) (fun _ h9 => h9) rfl d_Sg_addSymbol_1 ?_
  refine lv_bipush (v := 12) hx hb d_Sg_addSymbol_4 (by decide) ?_
  refine lv_icmp_ge (tgt := 43) hx hb d_Sg_addSymbol_6 (by decide) (fun hc => ?_) (fun hc => ?_)
  · have hv := hv.trans (if_pos hc)
    have hk := hk.1 hc
    exact B43 _ _ _  σ hv hk (lv_sub hl [] rfl) hP hD hS
  · have hv := hv.trans (if_neg hc)
    have hk := hk.2 hc
    refine lv_aload_n hx hb d_Sg_addSymbol_9 rfl (lv_at hl 0 rfl) ?_
    refine lv_iload_n hx hb d_Sg_addSymbol_10 rfl (lv_at hl 1 rfl) ?_
    obtain ⟨hk0, hk⟩ := hk
    refine zz_callV (va_runV (As := [.int a1]) (rest := []) ⟨hx, hb, hml, hown, hg⟩ (c_Sg_isSort l D ty h px sa σ a1 hk0) ⟨callB_of 1 hg (gw_C m_337) rfl rfl rfl (hg _ m_2) (hg _ m_334) hd_Sg_isSort ⟨Nat.le_of_ble_eq_true rfl, Nat.le_of_ble_eq_true rfl⟩, hg _ m_336, hg _ ms_0⟩ (zz_preV (hM.at hS) hN hK hP 1 rfl rfl) rfl rfl hl.1 rfl (lv_room (Nat.le_of_ble_eq_true rfl)) d_Sg_addSymbol_11 ⟨Nat.le_of_ble_eq_true rfl, Nat.le_of_ble_eq_true rfl⟩) ?_
    refine lv_if_eq (tgt := 43) hx hb d_Sg_addSymbol_14 (by decide) (fun hc => ?_) (fun hc => ?_)
    · have hv := hv.trans (if_pos hc)
      have hk := hk.1 hc
      exact B43 _ _ _  σ hv hk (lv_sub hl [] rfl) hP hD hS
    · have hv := hv.trans (if_neg hc)
      have hk := hk.2 hc
      refine lv_aload_n hx hb d_Sg_addSymbol_17 rfl (lv_at hl 0 rfl) ?_
      refine lv_iload_n hx hb d_Sg_addSymbol_18 rfl (lv_at hl 2 rfl) ?_
      obtain ⟨hk0, hk⟩ := hk
      refine zz_callV (va_runV (As := [.int a2]) (rest := []) ⟨hx, hb, hml, hown, hg⟩ (c_Sg_isSortOrNone l D ty h px sa σ a2 hk0) ⟨callB_of 1 hg (gw_C m_341) rfl rfl rfl (hg _ m_2) (hg _ m_338) hd_Sg_isSortOrNone ⟨Nat.le_of_ble_eq_true rfl, Nat.le_of_ble_eq_true rfl⟩, hg _ m_340, hg _ ms_1⟩ (zz_preV (hM.at hS) hN hK hP 1 rfl rfl) rfl rfl hl.1 rfl (lv_room (Nat.le_of_ble_eq_true rfl)) d_Sg_addSymbol_19 ⟨Nat.le_of_ble_eq_true rfl, Nat.le_of_ble_eq_true rfl⟩) ?_
      refine lv_if_eq (tgt := 43) hx hb d_Sg_addSymbol_22 (by decide) (fun hc => ?_) (fun hc => ?_)
      · have hv := hv.trans (if_pos hc)
        have hk := hk.1 hc
        exact B43 _ _ _  σ hv hk (lv_sub hl [] rfl) hP hD hS
      · have hv := hv.trans (if_neg hc)
        have hk := hk.2 hc
        refine lv_aload_n hx hb d_Sg_addSymbol_25 rfl (lv_at hl 0 rfl) ?_
        refine lv_iload_n hx hb d_Sg_addSymbol_26 rfl (lv_at hl 3 rfl) ?_
        obtain ⟨hk0, hk⟩ := hk
        refine zz_callV (va_runV (As := [.int a3]) (rest := []) ⟨hx, hb, hml, hown, hg⟩ (c_Sg_isSortOrNone l D ty h px sa σ a3 hk0) ⟨callB_of 1 hg (gw_C m_341) rfl rfl rfl (hg _ m_2) (hg _ m_338) hd_Sg_isSortOrNone ⟨Nat.le_of_ble_eq_true rfl, Nat.le_of_ble_eq_true rfl⟩, hg _ m_340, hg _ ms_1⟩ (zz_preV (hM.at hS) hN hK hP 1 rfl rfl) rfl rfl hl.1 rfl (lv_room (Nat.le_of_ble_eq_true rfl)) d_Sg_addSymbol_27 ⟨Nat.le_of_ble_eq_true rfl, Nat.le_of_ble_eq_true rfl⟩) ?_
        refine lv_if_eq (tgt := 43) hx hb d_Sg_addSymbol_30 (by decide) (fun hc => ?_) (fun hc => ?_)
        · have hv := hv.trans (if_pos hc)
          have hk := hk.1 hc
          exact B43 _ _ _  σ hv hk (lv_sub hl [] rfl) hP hD hS
        · have hv := hv.trans (if_neg hc)
          have hk := hk.2 hc
          refine lv_iload_n hx hb d_Sg_addSymbol_33 rfl (lv_at hl 2 rfl) ?_
          refine lv_iconst (v := -1) hx hb d_Sg_addSymbol_34 (by decide) ?_
          refine lv_icmp_ne (tgt := 45) hx hb d_Sg_addSymbol_35 (by decide) (fun hc => ?_) (fun hc => ?_)
          · have hv := hv.trans (if_neg hc)
            have hk := hk.2 hc
            exact B45 _ _ _ a1 a2 a3 σ hv hk (lv_sub hl [0, 1, 2, 3] rfl) hP hD hS
          · have hv := hv.trans (if_pos hc)
            have hk := hk.1 hc
            refine lv_iload_n hx hb d_Sg_addSymbol_38 rfl (lv_at hl 3 rfl) ?_
            refine lv_iconst (v := -1) hx hb d_Sg_addSymbol_39 (by decide) ?_
            refine lv_icmp_eq (tgt := 45) hx hb d_Sg_addSymbol_40 (by decide) (fun hc => ?_) (fun hc => ?_)
            · have hv := hv.trans (if_pos hc)
              have hk := hk.1 hc
              exact B45 _ _ _ a1 a2 a3 σ hv hk (lv_sub hl [0, 1, 2, 3] rfl) hP hD hS
            · have hv := hv.trans (if_neg hc)
              have hk := hk.2 hc
              exact B43 _ _ _  σ hv hk (lv_sub hl [] rfl) hP hD hS

-- ClauseLedger.symbol(III)I
abbrev b_CL_symbol : ByteArray := prog_1_method_3_code
def y_CL_symbol : MethodName := ⟨"ClauseLedger", "symbol", "(III)I"⟩
theorem hd_CL_symbol : y_CL_symbol.cls ≠ "java/lang/invoke/MethodHandle" ∧ y_CL_symbol.cls ≠ "java/lang/invoke/VarHandle" ∧ (parseMethodDescriptor y_CL_symbol.desc).map (fun d => d.parameters.length) = some 3 := by decide +kernel
theorem d_CL_symbol_0 : decode b_CL_symbol 0 = .ok (.aload_n 0, 1) := by decide +kernel
theorem d_CL_symbol_1 : decode b_CL_symbol 1 = .ok (.getfield 10, 3) := by decide +kernel
theorem d_CL_symbol_4 : decode b_CL_symbol 4 = .ok (.iload_n 1, 1) := by decide +kernel
theorem d_CL_symbol_5 : decode b_CL_symbol 5 = .ok (.iload_n 2, 1) := by decide +kernel
theorem d_CL_symbol_6 : decode b_CL_symbol 6 = .ok (.iload_n 3, 1) := by decide +kernel
theorem d_CL_symbol_7 : decode b_CL_symbol 7 = .ok (.invokevirtual 87, 3) := by decide +kernel
theorem d_CL_symbol_10 : decode b_CL_symbol 10 = .ok (.ireturn, 1) := by decide +kernel
def f_CL_symbol_10 (s0 : Int32) (σ : St) : Int32 × St := (s0, σ)
def k_CL_symbol_10 (s0 : Int32) (σ : St) : Prop := True
def f_CL_symbol (a1 : Int32) (a2 : Int32) (a3 : Int32) (σ : St) : Int32 × St := f_CL_symbol_10 ((f_Sg_addSymbol a1 a2 a3 σ).1) ((f_Sg_addSymbol a1 a2 a3 σ).2)
def k_CL_symbol (a1 : Int32) (a2 : Int32) (a3 : Int32) (σ : St) : Prop := (k_Sg_addSymbol a1 a2 a3 σ) ∧ (k_CL_symbol_10 ((f_Sg_addSymbol a1 a2 a3 σ).1) ((f_Sg_addSymbol a1 a2 a3 σ).2))
abbrev w_CL_symbol : List Cond := Cond.code y_CL_symbol b_CL_symbol 4 (some .int) :: gw
abbrev rm_CL_symbol : Room := { frames := 3, cells := 0, slots := 0, locals := 65 }
set_option maxHeartbeats 4000000 in
set_option maxRecDepth 100000 in
theorem c_CL_symbol (l : Launch) (D : va_G) (ty : Nat → ClassId) (h : Nat → Nat) (px : va_W) (sa : Nat → Nat) (σ : St) (sz : Nat) (a1 : Int32) (a2 : Int32) (a3 : Int32) (hk : k_CL_symbol a1 a2 a3 σ) : Met l y_CL_symbol w_CL_symbol rm_CL_symbol (va_Pc [.ref (h 0), .int a1, .int a2, .int a3] (fun U => U.heap.size = sz ∧ va_P D classes (Wc ty h σ px) U.heap ∧ va_K D classes (Ta ty) U ∧ NW U ∧ MK sa (va_A (Wc ty h σ px) sz) U U.heap ∧ va_D (fun _ => True) (Wc ty h σ px))) (va_Qi (fun r (u : St) => (r, u) = f_CL_symbol a1 a2 a3 σ) (fun u t => va_P D classes (Wc ty h u px) t.heap) (va_A (Wc ty h σ px) sz)) 0 0 (va_A (Wc ty h σ px) sz) := by
  refine Met.ofW (cc := b_CL_symbol) (maxL := 4) (ret := (some .int)) (by decide) rfl ?_
  intro p e s m args below meth c s₁ B hml hv
  obtain ⟨ha, hsz, hP, hK, hN, hM, hD0⟩ := hv
  have hx := B.exec
  have hb := B.bytes
  have hr := B.returns
  have hg : ∀ w ∈ gw, w.before args s = true := fun w h9 => atoms_spec (ws := w_CL_symbol) B.pre w (List.mem_cons_of_mem _ h9)
  have hown : s.vm.findClass "ClauseLedger" = some m.cls := findClass_of_methodNamed B.named
  have hlocks := B.notSynchronized
  subst hsz
  have hD := hD0.self (sz := s.heap.size)
  generalize hAe : va_A (Wc ty h σ px) s.heap.size = A at hD hM ⊢
  have hA : ∀ q : Nat, s.heap.size ≤ q → A q := fun q h9 => by rw [← hAe]; exact Or.inr h9
  have hS : va_S A s.heap s.heap [] := va_S.rf
  have he : entryFrame m args 4 = entryFrame m ([.ref (h 0), .int a1, .int a2, .int a3] : List Value).toArray 4 := by rw [ha]
  rw [he, lg_entry_eq]
  have hl := lv_entry ([.ref (h 0), .int a1, .int a2, .int a3]) (n := 4) (Nat.le_of_ble_eq_true rfl)
  generalize (lg_sl ([.ref (h 0), .int a1, .int a2, .int a3]) ++ List.replicate (4 - (lg_sl ([.ref (h 0), .int a1, .int a2, .int a3])).length) Slot.unset).toArray = ls at hl ⊢
  have hl : lv_has ls 4 [(0, .ref (h 0)), (1, .int a1), (2, .int a2), (3, .int a3)] := hl
  generalize hv : f_CL_symbol a1 a2 a3 σ = v
  replace hv := hv.symm
  have B10 : ∀ (H : Heap) (locs : List Loc) (ls : Array Slot) (s0 : Int32) (σ : St), v = f_CL_symbol_10 s0 σ → k_CL_symbol_10 s0 σ → lv_has ls 4 [] → va_P D classes (Wc ty h σ px) H → va_D A (Wc ty h σ px) → va_S A s.heap H locs → W p l e (headSpec w_CL_symbol rm_CL_symbol).room s m args below meth c H locs 0 0 (MQ below (va_Qi (fun r (u : St) => (r, u) = v) (fun u t => va_P D classes (Wc ty h u px) t.heap) A) args s 0 0 A) (F0 m 10 ls [.int s0]) := by
    intro H locs ls s0 σ hv hk hl hP hD hS
    unfold f_CL_symbol_10 at hv
    unfold k_CL_symbol_10 at hk
    exact W.iret hx hb hr (fun t ht hW => ⟨⟨_, _, rfl, hv.symm, by dsimp only; rw [ht]; exact hP⟩, hS.F ht⟩) hS.2.2 d_CL_symbol_10
  unfold f_CL_symbol at hv
  unfold k_CL_symbol at hk
  refine lv_aload_n hx hb d_CL_symbol_0 rfl (lv_at hl 0 rfl) ?_
  refine va_get (v := .ref (h 1)) (C := R_CL) (T := T_CL) (N := 11) hx hb hg in_CL hown hK hP 0 rfl rfl 0 (by decide) (hg _ m_284) (fun _ h9 => h9) rfl d_CL_symbol_1 ?_
  refine lv_iload_n hx hb d_CL_symbol_4 rfl (lv_at hl 1 rfl) ?_
  refine lv_iload_n hx hb d_CL_symbol_5 rfl (lv_at hl 2 rfl) ?_
  refine lv_iload_n hx hb d_CL_symbol_6 rfl (lv_at hl 3 rfl) ?_
  obtain ⟨hk0, hk⟩ := hk
  refine va_calli (va_runV (As := [.int a1, .int a2, .int a3]) (rest := []) ⟨hx, hb, hml, hown, hg⟩ (c_Sg_addSymbol l D ty h px sa σ s.heap.size a1 a2 a3 hk0) ⟨callB_of 3 hg (gw_C m_333) rfl rfl rfl (hg _ m_2) (hg _ m_330) hd_Sg_addSymbol ⟨Nat.le_of_ble_eq_true rfl, Nat.le_of_ble_eq_true rfl⟩, hg _ m_331, hg _ m_332⟩ (zz_preVW hM hS hA hN hK hP hD 1 rfl rfl) rfl rfl hl.1 rfl (lv_room (Nat.le_of_ble_eq_true rfl)) d_CL_symbol_7 ⟨Nat.le_of_ble_eq_true rfl, Nat.le_of_ble_eq_true rfl⟩) hS (fun q _ h => zz_free hD hS hA q h) (zz_free hD hS hA) (fun r7 u7 t H locs ht hvm hp hP1 hz hk1 hS => ?_)
  rw [ht] at hP1
  rw [← hp] at hv hk
  have hD : va_D A (Wc ty h u7 px) := zz_D hD rfl
  have hP := hP1
  exact B10 _ _ _ r7 u7 hv hk (lv_sub hl [] rfl) hP hD hS

-- ClauseLedger$Terms.count()I
abbrev b_Te_count : ByteArray := prog_11_method_2_code
def y_Te_count : MethodName := ⟨"ClauseLedger$Terms", "count", "()I"⟩
theorem hd_Te_count : y_Te_count.cls ≠ "java/lang/invoke/MethodHandle" ∧ y_Te_count.cls ≠ "java/lang/invoke/VarHandle" ∧ (parseMethodDescriptor y_Te_count.desc).map (fun d => d.parameters.length) = some 0 := by decide +kernel
theorem d_Te_count_0 : decode b_Te_count 0 = .ok (.aload_n 0, 1) := by decide +kernel
theorem d_Te_count_1 : decode b_Te_count 1 = .ok (.getfield 46, 3) := by decide +kernel
theorem d_Te_count_4 : decode b_Te_count 4 = .ok (.ireturn, 1) := by decide +kernel
def f_Te_count (σ : St) : Int32 := σ.1 6 11
def k_Te_count (σ : St) : Prop := True
abbrev w_Te_count : List Cond := Cond.code y_Te_count b_Te_count 1 (some .int) :: gw
abbrev rm_Te_count : Room := { frames := 0, cells := 0, slots := 0, locals := 0 }
set_option maxHeartbeats 4000000 in
set_option maxRecDepth 100000 in
theorem c_Te_count (l : Launch) (D : va_G) (ty : Nat → ClassId) (h : Nat → Nat) (px : va_W) (sa : Nat → Nat) (σ : St) (hk : k_Te_count σ) : Met l y_Te_count w_Te_count rm_Te_count (va_Pc [.ref (h 6)] (fun U => va_P D classes (Wc ty h σ px) U.heap ∧ va_K D classes (Ta ty) U ∧ NW U ∧ MK sa (fun _ => False) U U.heap)) (k2_QcV (.int (f_Te_count σ))) 0 0 (fun _ => False) := by
  refine Met.ofW (cc := b_Te_count) (maxL := 1) (ret := (some .int)) (by decide) rfl ?_
  intro p e s m args below meth c s₁ B hml hv
  obtain ⟨ha, hP, hK, hN, hM⟩ := hv
  have hx := B.exec
  have hb := B.bytes
  have hr := B.returns
  have hg : ∀ w ∈ gw, w.before args s = true := fun w h9 => atoms_spec (ws := w_Te_count) B.pre w (List.mem_cons_of_mem _ h9)
  have hown : s.vm.findClass "ClauseLedger$Terms" = some m.cls := findClass_of_methodNamed B.named
  have hlocks := B.notSynchronized
  have he : entryFrame m args 1 = entryFrame m ([.ref (h 6)] : List Value).toArray 1 := by rw [ha]
  rw [he, lg_entry_eq]
  have hl := lv_entry ([.ref (h 6)]) (n := 1) (Nat.le_of_ble_eq_true rfl)
  generalize (lg_sl ([.ref (h 6)]) ++ List.replicate (1 - (lg_sl ([.ref (h 6)])).length) Slot.unset).toArray = ls at hl ⊢
  have hl : lv_has ls 1 [(0, .ref (h 6))] := hl
  generalize hv : f_Te_count σ = v
  replace hv := hv.symm
  unfold f_Te_count at hv
  unfold k_Te_count at hk
  refine lv_aload_n hx hb d_Te_count_0 rfl (lv_at hl 0 rfl) ?_
  refine va_get (v := .int (σ.1 6 11)) (C := R_Te) (T := T_Te) (N := 14) hx hb hg in_Te hown hK hP 6 rfl rfl 11 (by decide) (hg _ m_80) (fun _ h9 => h9) rfl d_Te_count_1 ?_
  exact W.iret hx hb hr (fun t ht hW => ⟨by rw [hv], ht⟩) (fun q h => nomatch h) d_Te_count_4

-- ClauseLedger$Signature.isVariable(I)Z
abbrev b_Sg_isVariable : ByteArray := prog_8_method_6_code
def y_Sg_isVariable : MethodName := ⟨"ClauseLedger$Signature", "isVariable", "(I)Z"⟩
theorem hd_Sg_isVariable : y_Sg_isVariable.cls ≠ "java/lang/invoke/MethodHandle" ∧ y_Sg_isVariable.cls ≠ "java/lang/invoke/VarHandle" ∧ (parseMethodDescriptor y_Sg_isVariable.desc).map (fun d => d.parameters.length) = some 1 := by decide +kernel
theorem d_Sg_isVariable_0 : decode b_Sg_isVariable 0 = .ok (.iload_n 1, 1) := by decide +kernel
theorem d_Sg_isVariable_1 : decode b_Sg_isVariable 1 = .ok (.ifCond .lt 16, 3) := by decide +kernel
theorem d_Sg_isVariable_4 : decode b_Sg_isVariable 4 = .ok (.iload_n 1, 1) := by decide +kernel
theorem d_Sg_isVariable_5 : decode b_Sg_isVariable 5 = .ok (.aload_n 0, 1) := by decide +kernel
theorem d_Sg_isVariable_6 : decode b_Sg_isVariable 6 = .ok (.getfield 21, 3) := by decide +kernel
theorem d_Sg_isVariable_9 : decode b_Sg_isVariable 9 = .ok (.arraylength, 1) := by decide +kernel
theorem d_Sg_isVariable_10 : decode b_Sg_isVariable 10 = .ok (.if_icmp .ge 7, 3) := by decide +kernel
theorem d_Sg_isVariable_13 : decode b_Sg_isVariable 13 = .ok (.iconst 1, 1) := by decide +kernel
theorem d_Sg_isVariable_14 : decode b_Sg_isVariable 14 = .ok (.goto 4, 3) := by decide +kernel
theorem d_Sg_isVariable_17 : decode b_Sg_isVariable 17 = .ok (.iconst 0, 1) := by decide +kernel
theorem d_Sg_isVariable_18 : decode b_Sg_isVariable 18 = .ok (.ireturn, 1) := by decide +kernel
def f_Sg_isVariable_18 (s0 : Int32) (σ : St) : Int32 := s0
def k_Sg_isVariable_18 (s0 : Int32) (σ : St) : Prop := (narrow .boolean (.int s0) = .int s0) ∧ True
def f_Sg_isVariable_17 (σ : St) : Int32 := f_Sg_isVariable_18 0 σ
def k_Sg_isVariable_17 (σ : St) : Prop := k_Sg_isVariable_18 0 σ
def f_Sg_isVariable (a1 : Int32) (σ : St) : Int32 := if a1 < 0 then (f_Sg_isVariable_17 σ) else (if 3 ≤ a1 then (f_Sg_isVariable_17 σ) else (f_Sg_isVariable_18 1 σ))
def k_Sg_isVariable (a1 : Int32) (σ : St) : Prop := (a1 < 0 → (k_Sg_isVariable_17 σ)) ∧ (¬ a1 < 0 → ((3 ≤ a1 → (k_Sg_isVariable_17 σ)) ∧ (¬ 3 ≤ a1 → (k_Sg_isVariable_18 1 σ))))
abbrev w_Sg_isVariable : List Cond := Cond.code y_Sg_isVariable b_Sg_isVariable 2 (some .boolean) :: gw
abbrev rm_Sg_isVariable : Room := { frames := 0, cells := 0, slots := 0, locals := 0 }
set_option maxHeartbeats 4000000 in
set_option maxRecDepth 100000 in
theorem c_Sg_isVariable (l : Launch) (D : va_G) (ty : Nat → ClassId) (h : Nat → Nat) (px : va_W) (sa : Nat → Nat) (σ : St) (a1 : Int32) (hk : k_Sg_isVariable a1 σ) : Met l y_Sg_isVariable w_Sg_isVariable rm_Sg_isVariable (va_Pc [.ref (h 1), .int a1] (fun U => va_P D classes (Wc ty h σ px) U.heap ∧ va_K D classes (Ta ty) U ∧ NW U ∧ MK sa (fun _ => False) U U.heap)) (k2_QcV (.int (f_Sg_isVariable a1 σ))) 0 0 (fun _ => False) := by
  refine Met.ofW (cc := b_Sg_isVariable) (maxL := 2) (ret := (some .boolean)) (by decide) rfl ?_
  intro p e s m args below meth c s₁ B hml hv
  obtain ⟨ha, hP, hK, hN, hM⟩ := hv
  have hx := B.exec
  have hb := B.bytes
  have hr := B.returns
  have hg : ∀ w ∈ gw, w.before args s = true := fun w h9 => atoms_spec (ws := w_Sg_isVariable) B.pre w (List.mem_cons_of_mem _ h9)
  have hown : s.vm.findClass "ClauseLedger$Signature" = some m.cls := findClass_of_methodNamed B.named
  have hlocks := B.notSynchronized
  have he : entryFrame m args 2 = entryFrame m ([.ref (h 1), .int a1] : List Value).toArray 2 := by rw [ha]
  rw [he, lg_entry_eq]
  have hl := lv_entry ([.ref (h 1), .int a1]) (n := 2) (Nat.le_of_ble_eq_true rfl)
  generalize (lg_sl ([.ref (h 1), .int a1]) ++ List.replicate (2 - (lg_sl ([.ref (h 1), .int a1])).length) Slot.unset).toArray = ls at hl ⊢
  have hl : lv_has ls 2 [(0, .ref (h 1)), (1, .int a1)] := hl
  generalize hv : f_Sg_isVariable a1 σ = v
  replace hv := hv.symm
  have B18 : ∀ (ls : Array Slot) (s0 : Int32), v = f_Sg_isVariable_18 s0 σ → k_Sg_isVariable_18 s0 σ → lv_has ls 2 [] → W p l e (headSpec w_Sg_isVariable rm_Sg_isVariable).room s m args below meth c s.heap [] 0 0 (MQ below (k2_QcV (.int v)) args s 0 0 (fun _ => False)) (F0 m 18 ls [.int s0]) := by
    intro ls s0 hv hk hl
    unfold f_Sg_isVariable_18 at hv
    unfold k_Sg_isVariable_18 at hk
    obtain ⟨hk0, hk⟩ := hk
    exact W.zret hx hb hr hk0 (fun t ht hW => ⟨by rw [hv], ht⟩) (fun q h => nomatch h) d_Sg_isVariable_18
  have B17 : ∀ (ls : Array Slot), v = f_Sg_isVariable_17 σ → k_Sg_isVariable_17 σ → lv_has ls 2 [] → W p l e (headSpec w_Sg_isVariable rm_Sg_isVariable).room s m args below meth c s.heap [] 0 0 (MQ below (k2_QcV (.int v)) args s 0 0 (fun _ => False)) (F0 m 17 ls []) := by
    intro ls hv hk hl
    unfold f_Sg_isVariable_17 at hv
    unfold k_Sg_isVariable_17 at hk
    refine lv_iconst (v := 0) hx hb d_Sg_isVariable_17 (by decide) ?_
    exact B18 _ 0 hv hk (lv_sub hl [] rfl)
  unfold f_Sg_isVariable at hv
  unfold k_Sg_isVariable at hk
  refine lv_iload_n hx hb d_Sg_isVariable_0 rfl (lv_at hl 1 rfl) ?_
  refine lv_if_lt (tgt := 17) hx hb d_Sg_isVariable_1 (by decide) (fun hc => ?_) (fun hc => ?_)
  · have hv := hv.trans (if_pos hc)
    have hk := hk.1 hc
    exact B17 _  hv hk (lv_sub hl [] rfl)
  · have hv := hv.trans (if_neg hc)
    have hk := hk.2 hc
    refine lv_iload_n hx hb d_Sg_isVariable_4 rfl (lv_at hl 1 rfl) ?_
    refine lv_aload_n hx hb d_Sg_isVariable_5 rfl (lv_at hl 0 rfl) ?_
    refine va_get (v := .ref (h 5)) (C := R_Sg) (T := T_Sg) (N := 6) hx hb hg in_Sg hown hK hP 1 rfl rfl 3 (by decide) (hg _ m_46) (fun _ h9 => h9) rfl d_Sg_isVariable_6 ?_
    refine va_alen (v := 3) hx hb hK hP 5 0 rfl rfl rfl d_Sg_isVariable_9 ?_
    refine lv_icmp_ge (tgt := 17) hx hb d_Sg_isVariable_10 (by decide) (fun hc => ?_) (fun hc => ?_)
    · have hv := hv.trans (if_pos hc)
      have hk := hk.1 hc
      exact B17 _  hv hk (lv_sub hl [] rfl)
    · have hv := hv.trans (if_neg hc)
      have hk := hk.2 hc
      refine lv_iconst (v := 1) hx hb d_Sg_isVariable_13 (by decide) ?_
      refine lv_goto (tgt := 18) hx hb d_Sg_isVariable_14 (by decide) ?_
      exact B18 _ 1 hv hk (lv_sub hl [] rfl)

-- ClauseLedger$Signature.setVariable(II)Z
abbrev b_Sg_setVariable : ByteArray := prog_8_method_4_code
def y_Sg_setVariable : MethodName := ⟨"ClauseLedger$Signature", "setVariable", "(II)Z"⟩
theorem hd_Sg_setVariable : y_Sg_setVariable.cls ≠ "java/lang/invoke/MethodHandle" ∧ y_Sg_setVariable.cls ≠ "java/lang/invoke/VarHandle" ∧ (parseMethodDescriptor y_Sg_setVariable.desc).map (fun d => d.parameters.length) = some 2 := by decide +kernel
theorem d_Sg_setVariable_0 : decode b_Sg_setVariable 0 = .ok (.aload_n 0, 1) := by decide +kernel
theorem d_Sg_setVariable_1 : decode b_Sg_setVariable 1 = .ok (.iload_n 1, 1) := by decide +kernel
theorem d_Sg_setVariable_2 : decode b_Sg_setVariable 2 = .ok (.invokevirtual 38, 3) := by decide +kernel
theorem d_Sg_setVariable_5 : decode b_Sg_setVariable 5 = .ok (.ifCond .eq 11, 3) := by decide +kernel
theorem d_Sg_setVariable_8 : decode b_Sg_setVariable 8 = .ok (.aload_n 0, 1) := by decide +kernel
theorem d_Sg_setVariable_9 : decode b_Sg_setVariable 9 = .ok (.iload_n 2, 1) := by decide +kernel
theorem d_Sg_setVariable_10 : decode b_Sg_setVariable 10 = .ok (.invokevirtual 31, 3) := by decide +kernel
theorem d_Sg_setVariable_13 : decode b_Sg_setVariable 13 = .ok (.ifCond .ne 5, 3) := by decide +kernel
theorem d_Sg_setVariable_16 : decode b_Sg_setVariable 16 = .ok (.iconst 0, 1) := by decide +kernel
theorem d_Sg_setVariable_17 : decode b_Sg_setVariable 17 = .ok (.ireturn, 1) := by decide +kernel
theorem d_Sg_setVariable_18 : decode b_Sg_setVariable 18 = .ok (.aload_n 0, 1) := by decide +kernel
theorem d_Sg_setVariable_19 : decode b_Sg_setVariable 19 = .ok (.getfield 21, 3) := by decide +kernel
theorem d_Sg_setVariable_22 : decode b_Sg_setVariable 22 = .ok (.iload_n 1, 1) := by decide +kernel
theorem d_Sg_setVariable_23 : decode b_Sg_setVariable 23 = .ok (.iload_n 2, 1) := by decide +kernel
theorem d_Sg_setVariable_24 : decode b_Sg_setVariable 24 = .ok (.iastore, 1) := by decide +kernel
theorem d_Sg_setVariable_25 : decode b_Sg_setVariable 25 = .ok (.iconst 1, 1) := by decide +kernel
theorem d_Sg_setVariable_26 : decode b_Sg_setVariable 26 = .ok (.ireturn, 1) := by decide +kernel
def f_Sg_setVariable_16 (σ : St) : Int32 × St := (0, σ)
def k_Sg_setVariable_16 (σ : St) : Prop := True
def f_Sg_setVariable_25 (σ : St) : Int32 × St := (1, σ)
def k_Sg_setVariable_25 (σ : St) : Prop := True
def f_Sg_setVariable (a1 : Int32) (a2 : Int32) (σ : St) : Int32 × St := if (f_Sg_isVariable a1 σ) = 0 then (f_Sg_setVariable_16 σ) else (if (f_Sg_isSort a2 σ) = 0 then (f_Sg_setVariable_16 σ) else (f_Sg_setVariable_25 (sA σ 5 a1 a2)))
def k_Sg_setVariable (a1 : Int32) (a2 : Int32) (σ : St) : Prop := (k_Sg_isVariable a1 σ) ∧ (((f_Sg_isVariable a1 σ) = 0 → (k_Sg_setVariable_16 σ)) ∧ (¬ (f_Sg_isVariable a1 σ) = 0 → ((k_Sg_isSort a2 σ) ∧ (((f_Sg_isSort a2 σ) = 0 → (k_Sg_setVariable_16 σ)) ∧ (¬ (f_Sg_isSort a2 σ) = 0 → (vp_in a1 3 ∧ (k_Sg_setVariable_25 (sA σ 5 a1 a2))))))))
abbrev w_Sg_setVariable : List Cond := Cond.code y_Sg_setVariable b_Sg_setVariable 3 (some .boolean) :: gw
abbrev rm_Sg_setVariable : Room := { frames := 1, cells := 0, slots := 0, locals := 21 }
set_option maxHeartbeats 4000000 in
set_option maxRecDepth 100000 in
theorem c_Sg_setVariable (l : Launch) (D : va_G) (ty : Nat → ClassId) (h : Nat → Nat) (px : va_W) (sa : Nat → Nat) (σ : St) (sz : Nat) (a1 : Int32) (a2 : Int32) (hk : k_Sg_setVariable a1 a2 σ) : Met l y_Sg_setVariable w_Sg_setVariable rm_Sg_setVariable (va_Pc [.ref (h 1), .int a1, .int a2] (fun U => U.heap.size = sz ∧ va_P D classes (Wc ty h σ px) U.heap ∧ va_K D classes (Ta ty) U ∧ NW U ∧ MK sa (va_A (Wc ty h σ px) sz) U U.heap ∧ va_D (fun _ => True) (Wc ty h σ px))) (va_Qi (fun r (u : St) => (r, u) = f_Sg_setVariable a1 a2 σ) (fun u t => va_P D classes (Wc ty h u px) t.heap) (va_A (Wc ty h σ px) sz)) 0 0 (va_A (Wc ty h σ px) sz) := by
  refine Met.ofW (cc := b_Sg_setVariable) (maxL := 3) (ret := (some .boolean)) (by decide) rfl ?_
  intro p e s m args below meth c s₁ B hml hv
  obtain ⟨ha, hsz, hP, hK, hN, hM, hD0⟩ := hv
  have hx := B.exec
  have hb := B.bytes
  have hr := B.returns
  have hg : ∀ w ∈ gw, w.before args s = true := fun w h9 => atoms_spec (ws := w_Sg_setVariable) B.pre w (List.mem_cons_of_mem _ h9)
  have hown : s.vm.findClass "ClauseLedger$Signature" = some m.cls := findClass_of_methodNamed B.named
  have hlocks := B.notSynchronized
  subst hsz
  have hD := hD0.self (sz := s.heap.size)
  generalize hAe : va_A (Wc ty h σ px) s.heap.size = A at hD hM ⊢
  have hA : ∀ q : Nat, s.heap.size ≤ q → A q := fun q h9 => by rw [← hAe]; exact Or.inr h9
  have hS : va_S A s.heap s.heap [] := va_S.rf
  have he : entryFrame m args 3 = entryFrame m ([.ref (h 1), .int a1, .int a2] : List Value).toArray 3 := by rw [ha]
  rw [he, lg_entry_eq]
  have hl := lv_entry ([.ref (h 1), .int a1, .int a2]) (n := 3) (Nat.le_of_ble_eq_true rfl)
  generalize (lg_sl ([.ref (h 1), .int a1, .int a2]) ++ List.replicate (3 - (lg_sl ([.ref (h 1), .int a1, .int a2])).length) Slot.unset).toArray = ls at hl ⊢
  have hl : lv_has ls 3 [(0, .ref (h 1)), (1, .int a1), (2, .int a2)] := hl
  generalize hv : f_Sg_setVariable a1 a2 σ = v
  replace hv := hv.symm
  have B16 : ∀ (H : Heap) (locs : List Loc) (ls : Array Slot) (σ : St), v = f_Sg_setVariable_16 σ → k_Sg_setVariable_16 σ → lv_has ls 3 [] → va_P D classes (Wc ty h σ px) H → va_D A (Wc ty h σ px) → va_S A s.heap H locs → W p l e (headSpec w_Sg_setVariable rm_Sg_setVariable).room s m args below meth c H locs 0 0 (MQ below (va_Qi (fun r (u : St) => (r, u) = v) (fun u t => va_P D classes (Wc ty h u px) t.heap) A) args s 0 0 A) (F0 m 16 ls []) := by
    intro H locs ls σ hv hk hl hP hD hS
    unfold f_Sg_setVariable_16 at hv
    unfold k_Sg_setVariable_16 at hk
    refine lv_iconst (v := 0) hx hb d_Sg_setVariable_16 (by decide) ?_
    exact W.zret hx hb hr rfl (fun t ht hW => ⟨⟨_, _, rfl, hv.symm, by dsimp only; rw [ht]; exact hP⟩, hS.F ht⟩) hS.2.2 d_Sg_setVariable_17
  have B25 : ∀ (H : Heap) (locs : List Loc) (ls : Array Slot) (σ : St), v = f_Sg_setVariable_25 σ → k_Sg_setVariable_25 σ → lv_has ls 3 [] → va_P D classes (Wc ty h σ px) H → va_D A (Wc ty h σ px) → va_S A s.heap H locs → W p l e (headSpec w_Sg_setVariable rm_Sg_setVariable).room s m args below meth c H locs 0 0 (MQ below (va_Qi (fun r (u : St) => (r, u) = v) (fun u t => va_P D classes (Wc ty h u px) t.heap) A) args s 0 0 A) (F0 m 25 ls []) := by
    intro H locs ls σ hv hk hl hP hD hS
    unfold f_Sg_setVariable_25 at hv
    unfold k_Sg_setVariable_25 at hk
    refine lv_iconst (v := 1) hx hb d_Sg_setVariable_25 (by decide) ?_
    exact W.zret hx hb hr rfl (fun t ht hW => ⟨⟨_, _, rfl, hv.symm, by dsimp only; rw [ht]; exact hP⟩, hS.F ht⟩) hS.2.2 d_Sg_setVariable_26
  unfold f_Sg_setVariable at hv
  unfold k_Sg_setVariable at hk
  refine lv_aload_n hx hb d_Sg_setVariable_0 rfl (lv_at hl 0 rfl) ?_
  refine lv_iload_n hx hb d_Sg_setVariable_1 rfl (lv_at hl 1 rfl) ?_
  obtain ⟨hk0, hk⟩ := hk
  refine zz_callV (va_runV (As := [.int a1]) (rest := []) ⟨hx, hb, hml, hown, hg⟩ (c_Sg_isVariable l D ty h px sa σ a1 hk0) ⟨callB_of 1 hg (gw_C m_357) rfl rfl rfl (hg _ m_2) (hg _ m_354) hd_Sg_isVariable ⟨Nat.le_of_ble_eq_true rfl, Nat.le_of_ble_eq_true rfl⟩, hg _ m_355, hg _ m_356⟩ (zz_preV (hM.at hS) hN hK hP 1 rfl rfl) rfl rfl hl.1 rfl (lv_room (Nat.le_of_ble_eq_true rfl)) d_Sg_setVariable_2 ⟨Nat.le_of_ble_eq_true rfl, Nat.le_of_ble_eq_true rfl⟩) ?_
  refine lv_if_eq (tgt := 16) hx hb d_Sg_setVariable_5 (by decide) (fun hc => ?_) (fun hc => ?_)
  · have hv := hv.trans (if_pos hc)
    have hk := hk.1 hc
    exact B16 _ _ _  σ hv hk (lv_sub hl [] rfl) hP hD hS
  · have hv := hv.trans (if_neg hc)
    have hk := hk.2 hc
    refine lv_aload_n hx hb d_Sg_setVariable_8 rfl (lv_at hl 0 rfl) ?_
    refine lv_iload_n hx hb d_Sg_setVariable_9 rfl (lv_at hl 2 rfl) ?_
    obtain ⟨hk0, hk⟩ := hk
    refine zz_callV (va_runV (As := [.int a2]) (rest := []) ⟨hx, hb, hml, hown, hg⟩ (c_Sg_isSort l D ty h px sa σ a2 hk0) ⟨callB_of 1 hg (gw_C m_337) rfl rfl rfl (hg _ m_2) (hg _ m_334) hd_Sg_isSort ⟨Nat.le_of_ble_eq_true rfl, Nat.le_of_ble_eq_true rfl⟩, hg _ m_336, hg _ ms_0⟩ (zz_preV (hM.at hS) hN hK hP 1 rfl rfl) rfl rfl hl.1 rfl (lv_room (Nat.le_of_ble_eq_true rfl)) d_Sg_setVariable_10 ⟨Nat.le_of_ble_eq_true rfl, Nat.le_of_ble_eq_true rfl⟩) ?_
    refine lv_if_ne (tgt := 18) hx hb d_Sg_setVariable_13 (by decide) (fun hc => ?_) (fun hc => ?_)
    · have hv := hv.trans (if_neg hc)
      have hk := hk.2 hc
      refine lv_aload_n hx hb d_Sg_setVariable_18 rfl (lv_at hl 0 rfl) ?_
      refine va_get (v := .ref (h 5)) (C := R_Sg) (T := T_Sg) (N := 6) hx hb hg in_Sg hown hK hP 1 rfl rfl 3 (by decide) (hg _ m_46) (fun _ h9 => h9) rfl d_Sg_setVariable_19 ?_
      refine lv_iload_n hx hb d_Sg_setVariable_22 rfl (lv_at hl 1 rfl) ?_
      refine lv_iload_n hx hb d_Sg_setVariable_23 rfl (lv_at hl 2 rfl) ?_
      obtain ⟨hk0, hk⟩ := hk
      refine va_iast hx hb hK hP hD hS 5 0 rfl rfl hk0 d_Sg_setVariable_24 (fun H locs hP hD hS => ?_)
      have hP : va_P D classes (Wc ty h (sA σ 5 a1 a2) px) H := hP
      have hD : va_D A (Wc ty h (sA σ 5 a1 a2) px) := hD
      exact B25 _ _ _  (sA σ 5 a1 a2) hv hk (lv_sub hl [] rfl) hP hD hS
    · have hv := hv.trans (if_pos hc)
      have hk := hk.1 hc
      exact B16 _ _ _  σ hv hk (lv_sub hl [] rfl) hP hD hS

-- ClauseLedger.variable(II)Z
abbrev b_CL_variable : ByteArray := prog_1_method_4_code
def y_CL_variable : MethodName := ⟨"ClauseLedger", "variable", "(II)Z"⟩
theorem hd_CL_variable : y_CL_variable.cls ≠ "java/lang/invoke/MethodHandle" ∧ y_CL_variable.cls ≠ "java/lang/invoke/VarHandle" ∧ (parseMethodDescriptor y_CL_variable.desc).map (fun d => d.parameters.length) = some 2 := by decide +kernel
theorem d_CL_variable_0 : decode b_CL_variable 0 = .ok (.aload_n 0, 1) := by decide +kernel
theorem d_CL_variable_1 : decode b_CL_variable 1 = .ok (.getfield 19, 3) := by decide +kernel
theorem d_CL_variable_4 : decode b_CL_variable 4 = .ok (.invokevirtual 91, 3) := by decide +kernel
theorem d_CL_variable_7 : decode b_CL_variable 7 = .ok (.ifCond .ne 19, 3) := by decide +kernel
theorem d_CL_variable_10 : decode b_CL_variable 10 = .ok (.aload_n 0, 1) := by decide +kernel
theorem d_CL_variable_11 : decode b_CL_variable 11 = .ok (.getfield 10, 3) := by decide +kernel
theorem d_CL_variable_14 : decode b_CL_variable 14 = .ok (.iload_n 1, 1) := by decide +kernel
theorem d_CL_variable_15 : decode b_CL_variable 15 = .ok (.iload_n 2, 1) := by decide +kernel
theorem d_CL_variable_16 : decode b_CL_variable 16 = .ok (.invokevirtual 94, 3) := by decide +kernel
theorem d_CL_variable_19 : decode b_CL_variable 19 = .ok (.ifCond .eq 7, 3) := by decide +kernel
theorem d_CL_variable_22 : decode b_CL_variable 22 = .ok (.iconst 1, 1) := by decide +kernel
theorem d_CL_variable_23 : decode b_CL_variable 23 = .ok (.goto 4, 3) := by decide +kernel
theorem d_CL_variable_26 : decode b_CL_variable 26 = .ok (.iconst 0, 1) := by decide +kernel
theorem d_CL_variable_27 : decode b_CL_variable 27 = .ok (.ireturn, 1) := by decide +kernel
def f_CL_variable_27 (s0 : Int32) (σ : St) : Int32 × St := (s0, σ)
def k_CL_variable_27 (s0 : Int32) (σ : St) : Prop := (narrow .boolean (.int s0) = .int s0) ∧ True
def f_CL_variable_26 (σ : St) : Int32 × St := f_CL_variable_27 0 σ
def k_CL_variable_26 (σ : St) : Prop := k_CL_variable_27 0 σ
def f_CL_variable_19 (s0 : Int32) (σ : St) : Int32 × St := if s0 = 0 then (f_CL_variable_26 σ) else (f_CL_variable_27 1 σ)
def k_CL_variable_19 (s0 : Int32) (σ : St) : Prop := (s0 = 0 → (k_CL_variable_26 σ)) ∧ (¬ s0 = 0 → (k_CL_variable_27 1 σ))
def f_CL_variable (a1 : Int32) (a2 : Int32) (σ : St) : Int32 × St := if (f_Te_count σ) = 0 then (f_CL_variable_19 ((f_Sg_setVariable a1 a2 σ).1) ((f_Sg_setVariable a1 a2 σ).2)) else (f_CL_variable_26 σ)
def k_CL_variable (a1 : Int32) (a2 : Int32) (σ : St) : Prop := (k_Te_count σ) ∧ (((f_Te_count σ) = 0 → ((k_Sg_setVariable a1 a2 σ) ∧ (k_CL_variable_19 ((f_Sg_setVariable a1 a2 σ).1) ((f_Sg_setVariable a1 a2 σ).2)))) ∧ (¬ (f_Te_count σ) = 0 → (k_CL_variable_26 σ)))
abbrev w_CL_variable : List Cond := Cond.code y_CL_variable b_CL_variable 3 (some .boolean) :: gw
abbrev rm_CL_variable : Room := { frames := 2, cells := 0, slots := 0, locals := 43 }
set_option maxHeartbeats 4000000 in
set_option maxRecDepth 100000 in
theorem c_CL_variable (l : Launch) (D : va_G) (ty : Nat → ClassId) (h : Nat → Nat) (px : va_W) (sa : Nat → Nat) (σ : St) (sz : Nat) (a1 : Int32) (a2 : Int32) (hk : k_CL_variable a1 a2 σ) : Met l y_CL_variable w_CL_variable rm_CL_variable (va_Pc [.ref (h 0), .int a1, .int a2] (fun U => U.heap.size = sz ∧ va_P D classes (Wc ty h σ px) U.heap ∧ va_K D classes (Ta ty) U ∧ NW U ∧ MK sa (va_A (Wc ty h σ px) sz) U U.heap ∧ va_D (fun _ => True) (Wc ty h σ px))) (va_Qi (fun r (u : St) => (r, u) = f_CL_variable a1 a2 σ) (fun u t => va_P D classes (Wc ty h u px) t.heap) (va_A (Wc ty h σ px) sz)) 0 0 (va_A (Wc ty h σ px) sz) := by
  refine Met.ofW (cc := b_CL_variable) (maxL := 3) (ret := (some .boolean)) (by decide) rfl ?_
  intro p e s m args below meth c s₁ B hml hv
  obtain ⟨ha, hsz, hP, hK, hN, hM, hD0⟩ := hv
  have hx := B.exec
  have hb := B.bytes
  have hr := B.returns
  have hg : ∀ w ∈ gw, w.before args s = true := fun w h9 => atoms_spec (ws := w_CL_variable) B.pre w (List.mem_cons_of_mem _ h9)
  have hown : s.vm.findClass "ClauseLedger" = some m.cls := findClass_of_methodNamed B.named
  have hlocks := B.notSynchronized
  subst hsz
  have hD := hD0.self (sz := s.heap.size)
  generalize hAe : va_A (Wc ty h σ px) s.heap.size = A at hD hM ⊢
  have hA : ∀ q : Nat, s.heap.size ≤ q → A q := fun q h9 => by rw [← hAe]; exact Or.inr h9
  have hS : va_S A s.heap s.heap [] := va_S.rf
  have he : entryFrame m args 3 = entryFrame m ([.ref (h 0), .int a1, .int a2] : List Value).toArray 3 := by rw [ha]
  rw [he, lg_entry_eq]
  have hl := lv_entry ([.ref (h 0), .int a1, .int a2]) (n := 3) (Nat.le_of_ble_eq_true rfl)
  generalize (lg_sl ([.ref (h 0), .int a1, .int a2]) ++ List.replicate (3 - (lg_sl ([.ref (h 0), .int a1, .int a2])).length) Slot.unset).toArray = ls at hl ⊢
  have hl : lv_has ls 3 [(0, .ref (h 0)), (1, .int a1), (2, .int a2)] := hl
  generalize hv : f_CL_variable a1 a2 σ = v
  replace hv := hv.symm
  have B27 : ∀ (H : Heap) (locs : List Loc) (ls : Array Slot) (s0 : Int32) (σ : St), v = f_CL_variable_27 s0 σ → k_CL_variable_27 s0 σ → lv_has ls 3 [] → va_P D classes (Wc ty h σ px) H → va_D A (Wc ty h σ px) → va_S A s.heap H locs → W p l e (headSpec w_CL_variable rm_CL_variable).room s m args below meth c H locs 0 0 (MQ below (va_Qi (fun r (u : St) => (r, u) = v) (fun u t => va_P D classes (Wc ty h u px) t.heap) A) args s 0 0 A) (F0 m 27 ls [.int s0]) := by
    intro H locs ls s0 σ hv hk hl hP hD hS
    unfold f_CL_variable_27 at hv
    unfold k_CL_variable_27 at hk
    obtain ⟨hk0, hk⟩ := hk
    exact W.zret hx hb hr hk0 (fun t ht hW => ⟨⟨_, _, rfl, hv.symm, by dsimp only; rw [ht]; exact hP⟩, hS.F ht⟩) hS.2.2 d_CL_variable_27
  have B26 : ∀ (H : Heap) (locs : List Loc) (ls : Array Slot) (σ : St), v = f_CL_variable_26 σ → k_CL_variable_26 σ → lv_has ls 3 [] → va_P D classes (Wc ty h σ px) H → va_D A (Wc ty h σ px) → va_S A s.heap H locs → W p l e (headSpec w_CL_variable rm_CL_variable).room s m args below meth c H locs 0 0 (MQ below (va_Qi (fun r (u : St) => (r, u) = v) (fun u t => va_P D classes (Wc ty h u px) t.heap) A) args s 0 0 A) (F0 m 26 ls []) := by
    intro H locs ls σ hv hk hl hP hD hS
    unfold f_CL_variable_26 at hv
    unfold k_CL_variable_26 at hk
    refine lv_iconst (v := 0) hx hb d_CL_variable_26 (by decide) ?_
    exact B27 _ _ _ 0 σ hv hk (lv_sub hl [] rfl) hP hD hS
  have B19 : ∀ (H : Heap) (locs : List Loc) (ls : Array Slot) (s0 : Int32) (σ : St), v = f_CL_variable_19 s0 σ → k_CL_variable_19 s0 σ → lv_has ls 3 [] → va_P D classes (Wc ty h σ px) H → va_D A (Wc ty h σ px) → va_S A s.heap H locs → W p l e (headSpec w_CL_variable rm_CL_variable).room s m args below meth c H locs 0 0 (MQ below (va_Qi (fun r (u : St) => (r, u) = v) (fun u t => va_P D classes (Wc ty h u px) t.heap) A) args s 0 0 A) (F0 m 19 ls [.int s0]) := by
    intro H locs ls s0 σ hv hk hl hP hD hS
    unfold f_CL_variable_19 at hv
    unfold k_CL_variable_19 at hk
    refine lv_if_eq (tgt := 26) hx hb d_CL_variable_19 (by decide) (fun hc => ?_) (fun hc => ?_)
    · have hv := hv.trans (if_pos hc)
      have hk := hk.1 hc
      exact B26 _ _ _  σ hv hk (lv_sub hl [] rfl) hP hD hS
    · have hv := hv.trans (if_neg hc)
      have hk := hk.2 hc
      refine lv_iconst (v := 1) hx hb d_CL_variable_22 (by decide) ?_
      refine lv_goto (tgt := 27) hx hb d_CL_variable_23 (by decide) ?_
      exact B27 _ _ _ 1 σ hv hk (lv_sub hl [] rfl) hP hD hS
  unfold f_CL_variable at hv
  unfold k_CL_variable at hk
  refine lv_aload_n hx hb d_CL_variable_0 rfl (lv_at hl 0 rfl) ?_
  refine va_get (v := .ref (h 6)) (C := R_CL) (T := T_CL) (N := 11) hx hb hg in_CL hown hK hP 0 rfl rfl 1 (by decide) (hg _ m_285) (fun _ h9 => h9) rfl d_CL_variable_1 ?_
  obtain ⟨hk0, hk⟩ := hk
  refine zz_callV (va_runV (As := []) (rest := []) ⟨hx, hb, hml, hown, hg⟩ (c_Te_count l D ty h px sa σ  hk0) ⟨callB_of 0 hg (gw_C m_349) rfl rfl rfl (hg _ m_3) (hg _ m_346) hd_Te_count ⟨Nat.le_of_ble_eq_true rfl, Nat.le_of_ble_eq_true rfl⟩, hg _ m_347, hg _ m_348⟩ (zz_preV (hM.at hS) hN hK hP 6 rfl rfl) rfl rfl hl.1 rfl (lv_room (Nat.le_of_ble_eq_true rfl)) d_CL_variable_4 ⟨Nat.le_of_ble_eq_true rfl, Nat.le_of_ble_eq_true rfl⟩) ?_
  refine lv_if_ne (tgt := 26) hx hb d_CL_variable_7 (by decide) (fun hc => ?_) (fun hc => ?_)
  · have hv := hv.trans (if_neg hc)
    have hk := hk.2 hc
    exact B26 _ _ _  σ hv hk (lv_sub hl [] rfl) hP hD hS
  · have hv := hv.trans (if_pos hc)
    have hk := hk.1 hc
    refine lv_aload_n hx hb d_CL_variable_10 rfl (lv_at hl 0 rfl) ?_
    refine va_get (v := .ref (h 1)) (C := R_CL) (T := T_CL) (N := 11) hx hb hg in_CL hown hK hP 0 rfl rfl 0 (by decide) (hg _ m_284) (fun _ h9 => h9) rfl d_CL_variable_11 ?_
    refine lv_iload_n hx hb d_CL_variable_14 rfl (lv_at hl 1 rfl) ?_
    refine lv_iload_n hx hb d_CL_variable_15 rfl (lv_at hl 2 rfl) ?_
    obtain ⟨hk0, hk⟩ := hk
    refine va_calli (va_runV (As := [.int a1, .int a2]) (rest := []) ⟨hx, hb, hml, hown, hg⟩ (c_Sg_setVariable l D ty h px sa σ s.heap.size a1 a2 hk0) ⟨callB_of 2 hg (gw_C m_353) rfl rfl rfl (hg _ m_2) (hg _ m_350) hd_Sg_setVariable ⟨Nat.le_of_ble_eq_true rfl, Nat.le_of_ble_eq_true rfl⟩, hg _ m_351, hg _ m_352⟩ (zz_preVW hM hS hA hN hK hP hD 1 rfl rfl) rfl rfl hl.1 rfl (lv_room (Nat.le_of_ble_eq_true rfl)) d_CL_variable_16 ⟨Nat.le_of_ble_eq_true rfl, Nat.le_of_ble_eq_true rfl⟩) hS (fun q _ h => zz_free hD hS hA q h) (zz_free hD hS hA) (fun r16 u16 t H locs ht hvm hp hP1 hz hk1 hS => ?_)
    rw [ht] at hP1
    rw [← hp] at hv hk
    have hD : va_D A (Wc ty h u16 px) := zz_D hD rfl
    have hP := hP1
    exact B19 _ _ _ r16 u16 hv hk (lv_sub hl [] rfl) hP hD hS

-- ClauseLedger$Draft.byteOf(JI)I
abbrev b_Dr_byteOf : ByteArray := prog_3_method_6_code
def y_Dr_byteOf : MethodName := ⟨"ClauseLedger$Draft", "byteOf", "(JI)I"⟩
theorem hd_Dr_byteOf : y_Dr_byteOf.cls ≠ "java/lang/invoke/MethodHandle" ∧ y_Dr_byteOf.cls ≠ "java/lang/invoke/VarHandle" ∧ (parseMethodDescriptor y_Dr_byteOf.desc).map (fun d => d.parameters.length) = some 2 := by decide +kernel
theorem d_Dr_byteOf_0 : decode b_Dr_byteOf 0 = .ok (.lload_n 0, 1) := by decide +kernel
theorem d_Dr_byteOf_1 : decode b_Dr_byteOf 1 = .ok (.bipush 8, 2) := by decide +kernel
theorem d_Dr_byteOf_3 : decode b_Dr_byteOf 3 = .ok (.iload_n 2, 1) := by decide +kernel
theorem d_Dr_byteOf_4 : decode b_Dr_byteOf 4 = .ok (.imul, 1) := by decide +kernel
theorem d_Dr_byteOf_5 : decode b_Dr_byteOf 5 = .ok (.lushr, 1) := by decide +kernel
theorem d_Dr_byteOf_6 : decode b_Dr_byteOf 6 = .ok (.l2i, 1) := by decide +kernel
theorem d_Dr_byteOf_7 : decode b_Dr_byteOf 7 = .ok (.sipush 255, 3) := by decide +kernel
theorem d_Dr_byteOf_10 : decode b_Dr_byteOf 10 = .ok (.iand, 1) := by decide +kernel
theorem d_Dr_byteOf_11 : decode b_Dr_byteOf 11 = .ok (.ireturn, 1) := by decide +kernel
def f_Dr_byteOf (a0 : Int64) (a2 : Int32) (σ : St) : Int32 := (((a0.toUInt64 >>> ((8 * a2).toInt64.toUInt64 &&& Int64.toUInt64 63)).toInt64).toInt32) &&& 255
def k_Dr_byteOf (a0 : Int64) (a2 : Int32) (σ : St) : Prop := True
abbrev w_Dr_byteOf : List Cond := Cond.code y_Dr_byteOf b_Dr_byteOf 3 (some .int) :: gw
abbrev rm_Dr_byteOf : Room := { frames := 0, cells := 0, slots := 0, locals := 0 }
set_option maxHeartbeats 4000000 in
set_option maxRecDepth 100000 in
theorem c_Dr_byteOf (l : Launch) (D : va_G) (ty : Nat → ClassId) (h : Nat → Nat) (px : va_W) (sa : Nat → Nat) (σ : St) (a0 : Int64) (a2 : Int32) (hk : k_Dr_byteOf a0 a2 σ) : Met l y_Dr_byteOf w_Dr_byteOf rm_Dr_byteOf (va_Pc [.long a0, .int a2] (fun U => va_P D classes (Wc ty h σ px) U.heap ∧ va_K D classes (Ta ty) U ∧ NW U ∧ MK sa (fun _ => False) U U.heap)) (k2_QcV (.int (f_Dr_byteOf a0 a2 σ))) 0 0 (fun _ => False) := by
  refine Met.ofW (cc := b_Dr_byteOf) (maxL := 3) (ret := (some .int)) (by decide) rfl ?_
  intro p e s m args below meth c s₁ B hml hv
  obtain ⟨ha, hP, hK, hN, hM⟩ := hv
  have hx := B.exec
  have hb := B.bytes
  have hr := B.returns
  have hg : ∀ w ∈ gw, w.before args s = true := fun w h9 => atoms_spec (ws := w_Dr_byteOf) B.pre w (List.mem_cons_of_mem _ h9)
  have hown : s.vm.findClass "ClauseLedger$Draft" = some m.cls := findClass_of_methodNamed B.named
  have hlocks := B.notSynchronized
  have he : entryFrame m args 3 = entryFrame m ([.long a0, .int a2] : List Value).toArray 3 := by rw [ha]
  rw [he, lg_entry_eq]
  have hl := lv_entry ([.long a0, .int a2]) (n := 3) (Nat.le_of_ble_eq_true rfl)
  generalize (lg_sl ([.long a0, .int a2]) ++ List.replicate (3 - (lg_sl ([.long a0, .int a2])).length) Slot.unset).toArray = ls at hl ⊢
  have hl : lv_has ls 3 [(0, .long a0), (2, .int a2)] := hl
  generalize hv : f_Dr_byteOf a0 a2 σ = v
  replace hv := hv.symm
  unfold f_Dr_byteOf at hv
  unfold k_Dr_byteOf at hk
  refine lv_lload_n hx hb d_Dr_byteOf_0 rfl (lv_at hl 0 rfl) ?_
  refine lv_bipush (v := 8) hx hb d_Dr_byteOf_1 (by decide) ?_
  refine lv_iload_n hx hb d_Dr_byteOf_3 rfl (lv_at hl 1 rfl) ?_
  refine lv_imul hx hb d_Dr_byteOf_4 ?_
  refine lv_lushr hx hb d_Dr_byteOf_5 rfl ?_
  refine lv_l2i hx hb d_Dr_byteOf_6 rfl ?_
  refine lv_sipush (v := 255) hx hb d_Dr_byteOf_7 (by decide) ?_
  refine lv_iand hx hb d_Dr_byteOf_10 ?_
  exact W.iret hx hb hr (fun t ht hW => ⟨by rw [hv], ht⟩) (fun q h => nomatch h) d_Dr_byteOf_11

-- ClauseLedger$Draft.append(J)Z
abbrev b_Dr_append : ByteArray := prog_3_method_5_code
def y_Dr_append : MethodName := ⟨"ClauseLedger$Draft", "append", "(J)Z"⟩
theorem hd_Dr_append : y_Dr_append.cls ≠ "java/lang/invoke/MethodHandle" ∧ y_Dr_append.cls ≠ "java/lang/invoke/VarHandle" ∧ (parseMethodDescriptor y_Dr_append.desc).map (fun d => d.parameters.length) = some 1 := by decide +kernel
theorem d_Dr_append_0 : decode b_Dr_append 0 = .ok (.iconst 0, 1) := by decide +kernel
theorem d_Dr_append_1 : decode b_Dr_append 1 = .ok (.istore_n 3, 1) := by decide +kernel
theorem d_Dr_append_2 : decode b_Dr_append 2 = .ok (.iconst 0, 1) := by decide +kernel
theorem d_Dr_append_3 : decode b_Dr_append 3 = .ok (.istore 4, 2) := by decide +kernel
theorem d_Dr_append_5 : decode b_Dr_append 5 = .ok (.iload 4, 2) := by decide +kernel
theorem d_Dr_append_7 : decode b_Dr_append 7 = .ok (.bipush 8, 2) := by decide +kernel
theorem d_Dr_append_9 : decode b_Dr_append 9 = .ok (.if_icmp .ge 45, 3) := by decide +kernel
theorem d_Dr_append_12 : decode b_Dr_append 12 = .ok (.lload_n 1, 1) := by decide +kernel
theorem d_Dr_append_13 : decode b_Dr_append 13 = .ok (.iload 4, 2) := by decide +kernel
theorem d_Dr_append_15 : decode b_Dr_append 15 = .ok (.invokestatic 17, 3) := by decide +kernel
theorem d_Dr_append_18 : decode b_Dr_append 18 = .ok (.ifCond .eq 36, 3) := by decide +kernel
theorem d_Dr_append_21 : decode b_Dr_append 21 = .ok (.lload_n 1, 1) := by decide +kernel
theorem d_Dr_append_22 : decode b_Dr_append 22 = .ok (.iload 4, 2) := by decide +kernel
theorem d_Dr_append_24 : decode b_Dr_append 24 = .ok (.invokestatic 17, 3) := by decide +kernel
theorem d_Dr_append_27 : decode b_Dr_append 27 = .ok (.bipush 32, 2) := by decide +kernel
theorem d_Dr_append_29 : decode b_Dr_append 29 = .ok (.if_icmp .lt 14, 3) := by decide +kernel
theorem d_Dr_append_32 : decode b_Dr_append 32 = .ok (.lload_n 1, 1) := by decide +kernel
theorem d_Dr_append_33 : decode b_Dr_append 33 = .ok (.iload 4, 2) := by decide +kernel
theorem d_Dr_append_35 : decode b_Dr_append 35 = .ok (.invokestatic 17, 3) := by decide +kernel
theorem d_Dr_append_38 : decode b_Dr_append 38 = .ok (.bipush 126, 2) := by decide +kernel
theorem d_Dr_append_40 : decode b_Dr_append 40 = .ok (.if_icmp .le 5, 3) := by decide +kernel
theorem d_Dr_append_43 : decode b_Dr_append 43 = .ok (.iconst 0, 1) := by decide +kernel
theorem d_Dr_append_44 : decode b_Dr_append 44 = .ok (.ireturn, 1) := by decide +kernel
theorem d_Dr_append_45 : decode b_Dr_append 45 = .ok (.iinc 3 1, 3) := by decide +kernel
theorem d_Dr_append_48 : decode b_Dr_append 48 = .ok (.iinc 4 1, 3) := by decide +kernel
theorem d_Dr_append_51 : decode b_Dr_append 51 = .ok (.goto (-46), 3) := by decide +kernel
theorem d_Dr_append_54 : decode b_Dr_append 54 = .ok (.iload_n 3, 1) := by decide +kernel
theorem d_Dr_append_55 : decode b_Dr_append 55 = .ok (.ifCond .eq 14, 3) := by decide +kernel
theorem d_Dr_append_58 : decode b_Dr_append 58 = .ok (.aload_n 0, 1) := by decide +kernel
theorem d_Dr_append_59 : decode b_Dr_append 59 = .ok (.getfield 13, 3) := by decide +kernel
theorem d_Dr_append_62 : decode b_Dr_append 62 = .ok (.iload_n 3, 1) := by decide +kernel
theorem d_Dr_append_63 : decode b_Dr_append 63 = .ok (.iadd, 1) := by decide +kernel
theorem d_Dr_append_64 : decode b_Dr_append 64 = .ok (.bipush 120, 2) := by decide +kernel
theorem d_Dr_append_66 : decode b_Dr_append 66 = .ok (.if_icmp .le 5, 3) := by decide +kernel
theorem d_Dr_append_69 : decode b_Dr_append 69 = .ok (.iconst 0, 1) := by decide +kernel
theorem d_Dr_append_70 : decode b_Dr_append 70 = .ok (.ireturn, 1) := by decide +kernel
theorem d_Dr_append_71 : decode b_Dr_append 71 = .ok (.iconst 0, 1) := by decide +kernel
theorem d_Dr_append_72 : decode b_Dr_append 72 = .ok (.istore 4, 2) := by decide +kernel
theorem d_Dr_append_74 : decode b_Dr_append 74 = .ok (.iload 4, 2) := by decide +kernel
theorem d_Dr_append_76 : decode b_Dr_append 76 = .ok (.iload_n 3, 1) := by decide +kernel
theorem d_Dr_append_77 : decode b_Dr_append 77 = .ok (.if_icmp .ge 28, 3) := by decide +kernel
theorem d_Dr_append_80 : decode b_Dr_append 80 = .ok (.aload_n 0, 1) := by decide +kernel
theorem d_Dr_append_81 : decode b_Dr_append 81 = .ok (.getfield 9, 3) := by decide +kernel
theorem d_Dr_append_84 : decode b_Dr_append 84 = .ok (.aload_n 0, 1) := by decide +kernel
theorem d_Dr_append_85 : decode b_Dr_append 85 = .ok (.getfield 13, 3) := by decide +kernel
theorem d_Dr_append_88 : decode b_Dr_append 88 = .ok (.iload 4, 2) := by decide +kernel
theorem d_Dr_append_90 : decode b_Dr_append 90 = .ok (.iadd, 1) := by decide +kernel
theorem d_Dr_append_91 : decode b_Dr_append 91 = .ok (.lload_n 1, 1) := by decide +kernel
theorem d_Dr_append_92 : decode b_Dr_append 92 = .ok (.iload 4, 2) := by decide +kernel
theorem d_Dr_append_94 : decode b_Dr_append 94 = .ok (.invokestatic 17, 3) := by decide +kernel
theorem d_Dr_append_97 : decode b_Dr_append 97 = .ok (.i2c, 1) := by decide +kernel
theorem d_Dr_append_98 : decode b_Dr_append 98 = .ok (.castore, 1) := by decide +kernel
theorem d_Dr_append_99 : decode b_Dr_append 99 = .ok (.iinc 4 1, 3) := by decide +kernel
theorem d_Dr_append_102 : decode b_Dr_append 102 = .ok (.goto (-28), 3) := by decide +kernel
theorem d_Dr_append_105 : decode b_Dr_append 105 = .ok (.aload_n 0, 1) := by decide +kernel
theorem d_Dr_append_106 : decode b_Dr_append 106 = .ok (.dup, 1) := by decide +kernel
theorem d_Dr_append_107 : decode b_Dr_append 107 = .ok (.getfield 13, 3) := by decide +kernel
theorem d_Dr_append_110 : decode b_Dr_append 110 = .ok (.iload_n 3, 1) := by decide +kernel
theorem d_Dr_append_111 : decode b_Dr_append 111 = .ok (.iadd, 1) := by decide +kernel
theorem d_Dr_append_112 : decode b_Dr_append 112 = .ok (.putfield 13, 3) := by decide +kernel
theorem d_Dr_append_115 : decode b_Dr_append 115 = .ok (.iconst 1, 1) := by decide +kernel
theorem d_Dr_append_116 : decode b_Dr_append 116 = .ok (.ireturn, 1) := by decide +kernel
def f_Dr_append_43 (σ : St) : Int32 × St := (0, σ)
def k_Dr_append_43 (σ : St) : Prop := True
def f_Dr_append_69 (σ : St) : Int32 × St := (0, σ)
def k_Dr_append_69 (σ : St) : Prop := True
def f_Dr_append_99 (F74 : (Int64 → Int32 → Int32 → St → Int32 × St)) (x1 : Int64) (x3 : Int32) (x4 : Int32) (σ : St) : Int32 × St := F74 x1 x3 (x4 + 1) σ
def k_Dr_append_99 (K74 : (Int64 → Int32 → Int32 → St → Prop)) (x1 : Int64) (x3 : Int32) (x4 : Int32) (σ : St) : Prop := K74 x1 x3 (x4 + 1) σ
def f_Dr_append_115 (σ : St) : Int32 × St := (1, σ)
def k_Dr_append_115 (σ : St) : Prop := True
def f_Dr_append_74 : Nat → Int64 → Int32 → Int32 → St → Int32 × St
  | 0, _, _, _, σ => (0, σ)
  | n + 1, x1, x3, x4, σ => if x3 ≤ x4 then (f_Dr_append_115 (sF σ 18 1 ((σ.1 18 1) + x3))) else (f_Dr_append_99 (f_Dr_append_74 n) x1 x3 x4 (sA σ 19 ((σ.1 18 1) + x4) (vp_nar .char (((f_Dr_byteOf x1 x4 σ).toUInt32 % 65536).toInt32))))
def k_Dr_append_74 : Nat → Int64 → Int32 → Int32 → St → Prop
  | 0, _, _, _, _ => False
  | n + 1, x1, x3, x4, σ => (x3 ≤ x4 → (k_Dr_append_115 (sF σ 18 1 ((σ.1 18 1) + x3)))) ∧ (¬ x3 ≤ x4 → ((k_Dr_byteOf x1 x4 σ) ∧ (vp_in ((σ.1 18 1) + x4) 120 ∧ (k_Dr_append_99 (k_Dr_append_74 n) x1 x3 x4 (sA σ 19 ((σ.1 18 1) + x4) (vp_nar .char (((f_Dr_byteOf x1 x4 σ).toUInt32 % 65536).toInt32)))))))
def f_Dr_append_54 (x1 : Int64) (x3 : Int32) (σ : St) : Int32 × St := if x3 = 0 then (f_Dr_append_69 σ) else (if ((σ.1 18 1) + x3) ≤ 120 then (f_Dr_append_74 1000 x1 x3 0 σ) else (f_Dr_append_69 σ))
def k_Dr_append_54 (x1 : Int64) (x3 : Int32) (σ : St) : Prop := (x3 = 0 → (k_Dr_append_69 σ)) ∧ (¬ x3 = 0 → ((((σ.1 18 1) + x3) ≤ 120 → (k_Dr_append_74 1000 x1 x3 0 σ)) ∧ (¬ ((σ.1 18 1) + x3) ≤ 120 → (k_Dr_append_69 σ))))
def f_Dr_append_5 : Nat → Int64 → Int32 → Int32 → St → Int32 × St
  | 0, _, _, _, σ => (0, σ)
  | n + 1, x1, x3, x4, σ => if 8 ≤ x4 then (f_Dr_append_54 x1 x3 σ) else (if (f_Dr_byteOf x1 x4 σ) = 0 then (f_Dr_append_54 x1 x3 σ) else (if (f_Dr_byteOf x1 x4 σ) < 32 then (f_Dr_append_43 σ) else (if (f_Dr_byteOf x1 x4 σ) ≤ 126 then ((f_Dr_append_5 n) x1 (x3 + 1) (x4 + 1) σ) else (f_Dr_append_43 σ))))
def k_Dr_append_5 : Nat → Int64 → Int32 → Int32 → St → Prop
  | 0, _, _, _, _ => False
  | n + 1, x1, x3, x4, σ => (8 ≤ x4 → (k_Dr_append_54 x1 x3 σ)) ∧ (¬ 8 ≤ x4 → ((k_Dr_byteOf x1 x4 σ) ∧ (((f_Dr_byteOf x1 x4 σ) = 0 → (k_Dr_append_54 x1 x3 σ)) ∧ (¬ (f_Dr_byteOf x1 x4 σ) = 0 → ((k_Dr_byteOf x1 x4 σ) ∧ (((f_Dr_byteOf x1 x4 σ) < 32 → (k_Dr_append_43 σ)) ∧ (¬ (f_Dr_byteOf x1 x4 σ) < 32 → ((k_Dr_byteOf x1 x4 σ) ∧ (((f_Dr_byteOf x1 x4 σ) ≤ 126 → ((k_Dr_append_5 n) x1 (x3 + 1) (x4 + 1) σ)) ∧ (¬ (f_Dr_byteOf x1 x4 σ) ≤ 126 → (k_Dr_append_43 σ)))))))))))
def f_Dr_append (a1 : Int64) (σ : St) : Int32 × St := f_Dr_append_5 1000 a1 0 0 σ
def k_Dr_append (a1 : Int64) (σ : St) : Prop := k_Dr_append_5 1000 a1 0 0 σ
abbrev w_Dr_append : List Cond := Cond.code y_Dr_append b_Dr_append 5 (some .boolean) :: gw
abbrev rm_Dr_append : Room := { frames := 1, cells := 0, slots := 0, locals := 22 }
set_option maxHeartbeats 4000000 in
set_option maxRecDepth 100000 in
theorem c_Dr_append (l : Launch) (D : va_G) (ty : Nat → ClassId) (h : Nat → Nat) (px : va_W) (sa : Nat → Nat) (σ : St) (sz : Nat) (a1 : Int64) (hk : k_Dr_append a1 σ) : Met l y_Dr_append w_Dr_append rm_Dr_append (va_Pc [.ref (h 18), .long a1] (fun U => U.heap.size = sz ∧ va_P D classes (Wc ty h σ px) U.heap ∧ va_K D classes (Ta ty) U ∧ NW U ∧ MK sa (va_A (Wc ty h σ px) sz) U U.heap ∧ va_D (fun _ => True) (Wc ty h σ px))) (va_Qi (fun r (u : St) => (r, u) = f_Dr_append a1 σ) (fun u t => va_P D classes (Wc ty h u px) t.heap) (va_A (Wc ty h σ px) sz)) 0 0 (va_A (Wc ty h σ px) sz) := by
  refine Met.ofW (cc := b_Dr_append) (maxL := 5) (ret := (some .boolean)) (by decide) rfl ?_
  intro p e s m args below meth c s₁ B hml hv
  obtain ⟨ha, hsz, hP, hK, hN, hM, hD0⟩ := hv
  have hx := B.exec
  have hb := B.bytes
  have hr := B.returns
  have hg : ∀ w ∈ gw, w.before args s = true := fun w h9 => atoms_spec (ws := w_Dr_append) B.pre w (List.mem_cons_of_mem _ h9)
  have hown : s.vm.findClass "ClauseLedger$Draft" = some m.cls := findClass_of_methodNamed B.named
  have hlocks := B.notSynchronized
  subst hsz
  have hD := hD0.self (sz := s.heap.size)
  generalize hAe : va_A (Wc ty h σ px) s.heap.size = A at hD hM ⊢
  have hA : ∀ q : Nat, s.heap.size ≤ q → A q := fun q h9 => by rw [← hAe]; exact Or.inr h9
  have hS : va_S A s.heap s.heap [] := va_S.rf
  have he : entryFrame m args 5 = entryFrame m ([.ref (h 18), .long a1] : List Value).toArray 5 := by rw [ha]
  rw [he, lg_entry_eq]
  have hl := lv_entry ([.ref (h 18), .long a1]) (n := 5) (Nat.le_of_ble_eq_true rfl)
  generalize (lg_sl ([.ref (h 18), .long a1]) ++ List.replicate (5 - (lg_sl ([.ref (h 18), .long a1])).length) Slot.unset).toArray = ls at hl ⊢
  have hl : lv_has ls 5 [(0, .ref (h 18)), (1, .long a1)] := hl
  generalize hv : f_Dr_append a1 σ = v
  replace hv := hv.symm
  have B43 : ∀ (H : Heap) (locs : List Loc) (ls : Array Slot) (σ : St), v = f_Dr_append_43 σ → k_Dr_append_43 σ → lv_has ls 5 [] → va_P D classes (Wc ty h σ px) H → va_D A (Wc ty h σ px) → va_S A s.heap H locs → W p l e (headSpec w_Dr_append rm_Dr_append).room s m args below meth c H locs 0 0 (MQ below (va_Qi (fun r (u : St) => (r, u) = v) (fun u t => va_P D classes (Wc ty h u px) t.heap) A) args s 0 0 A) (F0 m 43 ls []) := by
    intro H locs ls σ hv hk hl hP hD hS
    unfold f_Dr_append_43 at hv
    unfold k_Dr_append_43 at hk
    refine lv_iconst (v := 0) hx hb d_Dr_append_43 (by decide) ?_
    exact W.zret hx hb hr rfl (fun t ht hW => ⟨⟨_, _, rfl, hv.symm, by dsimp only; rw [ht]; exact hP⟩, hS.F ht⟩) hS.2.2 d_Dr_append_44
  have B69 : ∀ (H : Heap) (locs : List Loc) (ls : Array Slot) (σ : St), v = f_Dr_append_69 σ → k_Dr_append_69 σ → lv_has ls 5 [] → va_P D classes (Wc ty h σ px) H → va_D A (Wc ty h σ px) → va_S A s.heap H locs → W p l e (headSpec w_Dr_append rm_Dr_append).room s m args below meth c H locs 0 0 (MQ below (va_Qi (fun r (u : St) => (r, u) = v) (fun u t => va_P D classes (Wc ty h u px) t.heap) A) args s 0 0 A) (F0 m 69 ls []) := by
    intro H locs ls σ hv hk hl hP hD hS
    unfold f_Dr_append_69 at hv
    unfold k_Dr_append_69 at hk
    refine lv_iconst (v := 0) hx hb d_Dr_append_69 (by decide) ?_
    exact W.zret hx hb hr rfl (fun t ht hW => ⟨⟨_, _, rfl, hv.symm, by dsimp only; rw [ht]; exact hP⟩, hS.F ht⟩) hS.2.2 d_Dr_append_70
  have B115 : ∀ (H : Heap) (locs : List Loc) (ls : Array Slot) (σ : St), v = f_Dr_append_115 σ → k_Dr_append_115 σ → lv_has ls 5 [] → va_P D classes (Wc ty h σ px) H → va_D A (Wc ty h σ px) → va_S A s.heap H locs → W p l e (headSpec w_Dr_append rm_Dr_append).room s m args below meth c H locs 0 0 (MQ below (va_Qi (fun r (u : St) => (r, u) = v) (fun u t => va_P D classes (Wc ty h u px) t.heap) A) args s 0 0 A) (F0 m 115 ls []) := by
    intro H locs ls σ hv hk hl hP hD hS
    unfold f_Dr_append_115 at hv
    unfold k_Dr_append_115 at hk
    refine lv_iconst (v := 1) hx hb d_Dr_append_115 (by decide) ?_
    exact W.zret hx hb hr rfl (fun t ht hW => ⟨⟨_, _, rfl, hv.symm, by dsimp only; rw [ht]; exact hP⟩, hS.F ht⟩) hS.2.2 d_Dr_append_116
  have B74 : ∀ (n74 : Nat) (H : Heap) (locs : List Loc) (ls : Array Slot) (x1 : Int64) (x3 : Int32) (x4 : Int32) (σ : St), v = f_Dr_append_74 n74 x1 x3 x4 σ → k_Dr_append_74 n74 x1 x3 x4 σ → lv_has ls 5 [(0, .ref (h 18)), (1, .long x1), (3, .int x3), (4, .int x4)] → va_P D classes (Wc ty h σ px) H → va_D A (Wc ty h σ px) → va_S A s.heap H locs → W p l e (headSpec w_Dr_append rm_Dr_append).room s m args below meth c H locs 0 0 (MQ below (va_Qi (fun r (u : St) => (r, u) = v) (fun u t => va_P D classes (Wc ty h u px) t.heap) A) args s 0 0 A) (F0 m 74 ls []) := by
    intro n74
    induction n74 with
    | zero => intro H locs ls x1 x3 x4 σ hv hk hl hP hD hS; exact hk.elim
    | succ n74 ih74 =>
      have B99 : ∀ (H : Heap) (locs : List Loc) (ls : Array Slot) (x1 : Int64) (x3 : Int32) (x4 : Int32) (σ : St), v = f_Dr_append_99 (f_Dr_append_74 n74) x1 x3 x4 σ → k_Dr_append_99 (k_Dr_append_74 n74) x1 x3 x4 σ → lv_has ls 5 [(0, .ref (h 18)), (1, .long x1), (3, .int x3), (4, .int x4)] → va_P D classes (Wc ty h σ px) H → va_D A (Wc ty h σ px) → va_S A s.heap H locs → W p l e (headSpec w_Dr_append rm_Dr_append).room s m args below meth c H locs 0 0 (MQ below (va_Qi (fun r (u : St) => (r, u) = v) (fun u t => va_P D classes (Wc ty h u px) t.heap) A) args s 0 0 A) (F0 m 99 ls []) := by
        intro H locs ls x1 x3 x4 σ hv hk hl hP hD hS
        unfold f_Dr_append_99 at hv
        unfold k_Dr_append_99 at hk
        refine lv_iinc (k := 3) (v := x4 + 1) (lv' := [(4, .int (x4 + 1)), (0, .ref (h 18)), (1, .long x1), (3, .int x3)]) hx hb d_Dr_append_99 hl rfl (by first | rfl | simp [lit1, litm1]) (by decide) rfl (fun ls hl => ?_)
        refine lv_goto (tgt := 74) hx hb d_Dr_append_102 (by decide) ?_
        exact ih74 _ _ _ x1 x3 (x4 + 1) σ hv hk (lv_sub hl [1, 2, 3, 0] rfl) hP hD hS
      intro H locs ls x1 x3 x4 σ hv hk hl hP hD hS
      rw [f_Dr_append_74] at hv
      rw [k_Dr_append_74] at hk
      refine lv_iload hx hb d_Dr_append_74 (lv_at hl 3 rfl) ?_
      refine lv_iload_n hx hb d_Dr_append_76 rfl (lv_at hl 2 rfl) ?_
      refine lv_icmp_ge (tgt := 105) hx hb d_Dr_append_77 (by decide) (fun hc => ?_) (fun hc => ?_)
      · have hv := hv.trans (if_pos hc)
        have hk := hk.1 hc
        refine lv_aload_n hx hb d_Dr_append_105 rfl (lv_at hl 0 rfl) ?_
        refine lv_dup hx hb d_Dr_append_106 rfl ?_
        refine va_get (v := .int (σ.1 18 1)) (C := R_Dr) (T := T_Dr) (N := 2) hx hb hg in_Dr hown hK hP 18 rfl rfl 1 (by decide) (hg _ m_120) (fun _ h9 => h9) rfl d_Dr_append_107 ?_
        refine lv_iload_n hx hb d_Dr_append_110 rfl (lv_at hl 2 rfl) ?_
        refine lv_iadd hx hb d_Dr_append_111 ?_
        refine va_put (v := .int ((σ.1 18 1) + x3)) (ty := .int) (C := R_Dr) (T := T_Dr) (N := 2) hx hb hg in_Dr ty_Dr ok_Dr nm_Dr hown hK hP hD hS 18 rfl rfl 1 (by decide) (hg _ m_120) (fun _ h9 => h9) rfl (by decide +kernel) rfl rfl (Nat.le_of_ble_eq_true rfl) d_Dr_append_112 (fun H locs hP hD hS => ?_)
        have hP : va_P D classes (Wc ty h (sF σ 18 1 ((σ.1 18 1) + x3)) px) H := hP
        have hD : va_D A (Wc ty h (sF σ 18 1 ((σ.1 18 1) + x3)) px) := hD
        exact B115 _ _ _  (sF σ 18 1 ((σ.1 18 1) + x3)) hv hk (lv_sub hl [] rfl) hP hD hS
      · have hv := hv.trans (if_neg hc)
        have hk := hk.2 hc
        refine lv_aload_n hx hb d_Dr_append_80 rfl (lv_at hl 0 rfl) ?_
        refine va_get (v := .ref (h 19)) (C := R_Dr) (T := T_Dr) (N := 2) hx hb hg in_Dr hown hK hP 18 rfl rfl 0 (by decide) (hg _ m_119) (fun _ h9 => h9) rfl d_Dr_append_81 ?_
        refine lv_aload_n hx hb d_Dr_append_84 rfl (lv_at hl 0 rfl) ?_
        refine va_get (v := .int (σ.1 18 1)) (C := R_Dr) (T := T_Dr) (N := 2) hx hb hg in_Dr hown hK hP 18 rfl rfl 1 (by decide) (hg _ m_120) (fun _ h9 => h9) rfl d_Dr_append_85 ?_
        refine lv_iload hx hb d_Dr_append_88 (lv_at hl 3 rfl) ?_
        refine lv_iadd hx hb d_Dr_append_90 ?_
        refine lv_lload_n hx hb d_Dr_append_91 rfl (lv_at hl 1 rfl) ?_
        refine lv_iload hx hb d_Dr_append_92 (lv_at hl 3 rfl) ?_
        obtain ⟨hk0, hk⟩ := hk
        refine zz_callV (va_runS (As := [.long x1, .int x4]) (rest := [.int ((σ.1 18 1) + x4), .ref (h 19)]) ⟨hx, hb, hml, hown, hg⟩ (c_Dr_byteOf l D ty h px sa σ x1 x4 hk0) ⟨callB_of 2 hg (gw_C m_368) rfl rfl rfl (hg _ m_4) (hg _ m_366) hd_Dr_byteOf ⟨Nat.le_of_ble_eq_true rfl, Nat.le_of_ble_eq_true rfl⟩, hg _ m_367⟩ (zz_preS (hM.at hS) hN hK hP) rfl rfl hl.1 rfl (lv_room (Nat.le_of_ble_eq_true rfl)) d_Dr_append_94 ⟨Nat.le_of_ble_eq_true rfl, Nat.le_of_ble_eq_true rfl⟩) ?_
        refine lv_i2c hx hb d_Dr_append_97 rfl ?_
        obtain ⟨hk0, hk⟩ := hk
        refine va_cast hx hb hK hP hD hS 19 2 rfl rfl hk0 d_Dr_append_98 (fun H locs hP hD hS => ?_)
        have hP : va_P D classes (Wc ty h (sA σ 19 ((σ.1 18 1) + x4) (vp_nar .char (((f_Dr_byteOf x1 x4 σ).toUInt32 % 65536).toInt32))) px) H := hP
        have hD : va_D A (Wc ty h (sA σ 19 ((σ.1 18 1) + x4) (vp_nar .char (((f_Dr_byteOf x1 x4 σ).toUInt32 % 65536).toInt32))) px) := hD
        exact B99 _ _ _ x1 x3 x4 (sA σ 19 ((σ.1 18 1) + x4) (vp_nar .char (((f_Dr_byteOf x1 x4 σ).toUInt32 % 65536).toInt32))) hv hk (lv_sub hl [0, 1, 2, 3] rfl) hP hD hS
  have B54 : ∀ (H : Heap) (locs : List Loc) (ls : Array Slot) (x1 : Int64) (x3 : Int32) (σ : St), v = f_Dr_append_54 x1 x3 σ → k_Dr_append_54 x1 x3 σ → lv_has ls 5 [(0, .ref (h 18)), (1, .long x1), (3, .int x3)] → va_P D classes (Wc ty h σ px) H → va_D A (Wc ty h σ px) → va_S A s.heap H locs → W p l e (headSpec w_Dr_append rm_Dr_append).room s m args below meth c H locs 0 0 (MQ below (va_Qi (fun r (u : St) => (r, u) = v) (fun u t => va_P D classes (Wc ty h u px) t.heap) A) args s 0 0 A) (F0 m 54 ls []) := by
    intro H locs ls x1 x3 σ hv hk hl hP hD hS
    unfold f_Dr_append_54 at hv
    unfold k_Dr_append_54 at hk
    refine lv_iload_n hx hb d_Dr_append_54 rfl (lv_at hl 2 rfl) ?_
    refine lv_if_eq (tgt := 69) hx hb d_Dr_append_55 (by decide) (fun hc => ?_) (fun hc => ?_)
    · have hv := hv.trans (if_pos hc)
      have hk := hk.1 hc
      exact B69 _ _ _  σ hv hk (lv_sub hl [] rfl) hP hD hS
    · have hv := hv.trans (if_neg hc)
      have hk := hk.2 hc
      refine lv_aload_n hx hb d_Dr_append_58 rfl (lv_at hl 0 rfl) ?_
      refine va_get (v := .int (σ.1 18 1)) (C := R_Dr) (T := T_Dr) (N := 2) hx hb hg in_Dr hown hK hP 18 rfl rfl 1 (by decide) (hg _ m_120) (fun _ h9 => h9) rfl d_Dr_append_59 ?_
      refine lv_iload_n hx hb d_Dr_append_62 rfl (lv_at hl 2 rfl) ?_
      refine lv_iadd hx hb d_Dr_append_63 ?_
      refine lv_bipush (v := 120) hx hb d_Dr_append_64 (by decide) ?_
      refine lv_icmp_le (tgt := 71) hx hb d_Dr_append_66 (by decide) (fun hc => ?_) (fun hc => ?_)
      · have hv := hv.trans (if_pos hc)
        have hk := hk.1 hc
        refine lv_iconst (v := 0) hx hb d_Dr_append_71 (by decide) ?_
        refine lv_istore (lv' := [(4, .int 0), (0, .ref (h 18)), (1, .long x1), (3, .int x3)]) hx hb d_Dr_append_72 hl (by decide) rfl (fun ls hl => ?_)
        exact B74 1000 _ _ _ x1 x3 0 σ hv hk (lv_sub hl [1, 2, 3, 0] rfl) hP hD hS
      · have hv := hv.trans (if_neg hc)
        have hk := hk.2 hc
        exact B69 _ _ _  σ hv hk (lv_sub hl [] rfl) hP hD hS
  have B5 : ∀ (n5 : Nat) (H : Heap) (locs : List Loc) (ls : Array Slot) (x1 : Int64) (x3 : Int32) (x4 : Int32) (σ : St), v = f_Dr_append_5 n5 x1 x3 x4 σ → k_Dr_append_5 n5 x1 x3 x4 σ → lv_has ls 5 [(0, .ref (h 18)), (1, .long x1), (3, .int x3), (4, .int x4)] → va_P D classes (Wc ty h σ px) H → va_D A (Wc ty h σ px) → va_S A s.heap H locs → W p l e (headSpec w_Dr_append rm_Dr_append).room s m args below meth c H locs 0 0 (MQ below (va_Qi (fun r (u : St) => (r, u) = v) (fun u t => va_P D classes (Wc ty h u px) t.heap) A) args s 0 0 A) (F0 m 5 ls []) := by
    intro n5
    induction n5 with
    | zero => intro H locs ls x1 x3 x4 σ hv hk hl hP hD hS; exact hk.elim
    | succ n5 ih5 =>
      intro H locs ls x1 x3 x4 σ hv hk hl hP hD hS
      rw [f_Dr_append_5] at hv
      rw [k_Dr_append_5] at hk
      refine lv_iload hx hb d_Dr_append_5 (lv_at hl 3 rfl) ?_
      refine lv_bipush (v := 8) hx hb d_Dr_append_7 (by decide) ?_
      refine lv_icmp_ge (tgt := 54) hx hb d_Dr_append_9 (by decide) (fun hc => ?_) (fun hc => ?_)
      · have hv := hv.trans (if_pos hc)
        have hk := hk.1 hc
        exact B54 _ _ _ x1 x3 σ hv hk (lv_sub hl [0, 1, 2] rfl) hP hD hS
      · have hv := hv.trans (if_neg hc)
        have hk := hk.2 hc
        refine lv_lload_n hx hb d_Dr_append_12 rfl (lv_at hl 1 rfl) ?_
        refine lv_iload hx hb d_Dr_append_13 (lv_at hl 3 rfl) ?_
        obtain ⟨hk0, hk⟩ := hk
        refine zz_callV (va_runS (As := [.long x1, .int x4]) (rest := []) ⟨hx, hb, hml, hown, hg⟩ (c_Dr_byteOf l D ty h px sa σ x1 x4 hk0) ⟨callB_of 2 hg (gw_C m_368) rfl rfl rfl (hg _ m_4) (hg _ m_366) hd_Dr_byteOf ⟨Nat.le_of_ble_eq_true rfl, Nat.le_of_ble_eq_true rfl⟩, hg _ m_367⟩ (zz_preS (hM.at hS) hN hK hP) rfl rfl hl.1 rfl (lv_room (Nat.le_of_ble_eq_true rfl)) d_Dr_append_15 ⟨Nat.le_of_ble_eq_true rfl, Nat.le_of_ble_eq_true rfl⟩) ?_
        refine lv_if_eq (tgt := 54) hx hb d_Dr_append_18 (by decide) (fun hc => ?_) (fun hc => ?_)
        · have hv := hv.trans (if_pos hc)
          have hk := hk.1 hc
          exact B54 _ _ _ x1 x3 σ hv hk (lv_sub hl [0, 1, 2] rfl) hP hD hS
        · have hv := hv.trans (if_neg hc)
          have hk := hk.2 hc
          refine lv_lload_n hx hb d_Dr_append_21 rfl (lv_at hl 1 rfl) ?_
          refine lv_iload hx hb d_Dr_append_22 (lv_at hl 3 rfl) ?_
          obtain ⟨hk0, hk⟩ := hk
          refine zz_callV (va_runS (As := [.long x1, .int x4]) (rest := []) ⟨hx, hb, hml, hown, hg⟩ (c_Dr_byteOf l D ty h px sa σ x1 x4 hk0) ⟨callB_of 2 hg (gw_C m_368) rfl rfl rfl (hg _ m_4) (hg _ m_366) hd_Dr_byteOf ⟨Nat.le_of_ble_eq_true rfl, Nat.le_of_ble_eq_true rfl⟩, hg _ m_367⟩ (zz_preS (hM.at hS) hN hK hP) rfl rfl hl.1 rfl (lv_room (Nat.le_of_ble_eq_true rfl)) d_Dr_append_24 ⟨Nat.le_of_ble_eq_true rfl, Nat.le_of_ble_eq_true rfl⟩) ?_
          refine lv_bipush (v := 32) hx hb d_Dr_append_27 (by decide) ?_
          refine lv_icmp_lt (tgt := 43) hx hb d_Dr_append_29 (by decide) (fun hc => ?_) (fun hc => ?_)
          · have hv := hv.trans (if_pos hc)
            have hk := hk.1 hc
            exact B43 _ _ _  σ hv hk (lv_sub hl [] rfl) hP hD hS
          · have hv := hv.trans (if_neg hc)
            have hk := hk.2 hc
            refine lv_lload_n hx hb d_Dr_append_32 rfl (lv_at hl 1 rfl) ?_
            refine lv_iload hx hb d_Dr_append_33 (lv_at hl 3 rfl) ?_
            obtain ⟨hk0, hk⟩ := hk
            refine zz_callV (va_runS (As := [.long x1, .int x4]) (rest := []) ⟨hx, hb, hml, hown, hg⟩ (c_Dr_byteOf l D ty h px sa σ x1 x4 hk0) ⟨callB_of 2 hg (gw_C m_368) rfl rfl rfl (hg _ m_4) (hg _ m_366) hd_Dr_byteOf ⟨Nat.le_of_ble_eq_true rfl, Nat.le_of_ble_eq_true rfl⟩, hg _ m_367⟩ (zz_preS (hM.at hS) hN hK hP) rfl rfl hl.1 rfl (lv_room (Nat.le_of_ble_eq_true rfl)) d_Dr_append_35 ⟨Nat.le_of_ble_eq_true rfl, Nat.le_of_ble_eq_true rfl⟩) ?_
            refine lv_bipush (v := 126) hx hb d_Dr_append_38 (by decide) ?_
            refine lv_icmp_le (tgt := 45) hx hb d_Dr_append_40 (by decide) (fun hc => ?_) (fun hc => ?_)
            · have hv := hv.trans (if_pos hc)
              have hk := hk.1 hc
              refine lv_iinc (k := 2) (v := x3 + 1) (lv' := [(3, .int (x3 + 1)), (0, .ref (h 18)), (1, .long x1), (4, .int x4)]) hx hb d_Dr_append_45 hl rfl (by first | rfl | simp [lit1, litm1]) (by decide) rfl (fun ls hl => ?_)
              refine lv_iinc (k := 3) (v := x4 + 1) (lv' := [(4, .int (x4 + 1)), (3, .int (x3 + 1)), (0, .ref (h 18)), (1, .long x1)]) hx hb d_Dr_append_48 hl rfl (by first | rfl | simp [lit1, litm1]) (by decide) rfl (fun ls hl => ?_)
              refine lv_goto (tgt := 5) hx hb d_Dr_append_51 (by decide) ?_
              exact ih5 _ _ _ x1 (x3 + 1) (x4 + 1) σ hv hk (lv_sub hl [2, 3, 1, 0] rfl) hP hD hS
            · have hv := hv.trans (if_neg hc)
              have hk := hk.2 hc
              exact B43 _ _ _  σ hv hk (lv_sub hl [] rfl) hP hD hS
  unfold f_Dr_append at hv
  unfold k_Dr_append at hk
  refine lv_iconst (v := 0) hx hb d_Dr_append_0 (by decide) ?_
  refine lv_istore_n (lv' := [(3, .int 0), (0, .ref (h 18)), (1, .long a1)]) hx hb d_Dr_append_1 rfl hl (by decide) rfl (fun ls hl => ?_)
  refine lv_iconst (v := 0) hx hb d_Dr_append_2 (by decide) ?_
  refine lv_istore (lv' := [(4, .int 0), (3, .int 0), (0, .ref (h 18)), (1, .long a1)]) hx hb d_Dr_append_3 hl (by decide) rfl (fun ls hl => ?_)
  exact B5 1000 _ _ _ a1 0 0 σ hv hk (lv_sub hl [2, 3, 1, 0] rfl) hP hD hS

-- ClauseLedger.draft(J)Z
abbrev b_CL_draft : ByteArray := prog_1_method_5_code
def y_CL_draft : MethodName := ⟨"ClauseLedger", "draft", "(J)Z"⟩
theorem hd_CL_draft : y_CL_draft.cls ≠ "java/lang/invoke/MethodHandle" ∧ y_CL_draft.cls ≠ "java/lang/invoke/VarHandle" ∧ (parseMethodDescriptor y_CL_draft.desc).map (fun d => d.parameters.length) = some 1 := by decide +kernel
theorem d_CL_draft_0 : decode b_CL_draft 0 = .ok (.aload_n 0, 1) := by decide +kernel
theorem d_CL_draft_1 : decode b_CL_draft 1 = .ok (.getfield 26, 3) := by decide +kernel
theorem d_CL_draft_4 : decode b_CL_draft 4 = .ok (.lload_n 1, 1) := by decide +kernel
theorem d_CL_draft_5 : decode b_CL_draft 5 = .ok (.invokevirtual 98, 3) := by decide +kernel
theorem d_CL_draft_8 : decode b_CL_draft 8 = .ok (.ireturn, 1) := by decide +kernel
def f_CL_draft_8 (s0 : Int32) (σ : St) : Int32 × St := (s0, σ)
def k_CL_draft_8 (s0 : Int32) (σ : St) : Prop := (narrow .boolean (.int s0) = .int s0) ∧ True
def f_CL_draft (a1 : Int64) (σ : St) : Int32 × St := f_CL_draft_8 ((f_Dr_append a1 σ).1) ((f_Dr_append a1 σ).2)
def k_CL_draft (a1 : Int64) (σ : St) : Prop := (k_Dr_append a1 σ) ∧ (k_CL_draft_8 ((f_Dr_append a1 σ).1) ((f_Dr_append a1 σ).2))
abbrev w_CL_draft : List Cond := Cond.code y_CL_draft b_CL_draft 3 (some .boolean) :: gw
abbrev rm_CL_draft : Room := { frames := 2, cells := 0, slots := 0, locals := 46 }
set_option maxHeartbeats 4000000 in
set_option maxRecDepth 100000 in
theorem c_CL_draft (l : Launch) (D : va_G) (ty : Nat → ClassId) (h : Nat → Nat) (px : va_W) (sa : Nat → Nat) (σ : St) (sz : Nat) (a1 : Int64) (hk : k_CL_draft a1 σ) : Met l y_CL_draft w_CL_draft rm_CL_draft (va_Pc [.ref (h 0), .long a1] (fun U => U.heap.size = sz ∧ va_P D classes (Wc ty h σ px) U.heap ∧ va_K D classes (Ta ty) U ∧ NW U ∧ MK sa (va_A (Wc ty h σ px) sz) U U.heap ∧ va_D (fun _ => True) (Wc ty h σ px))) (va_Qi (fun r (u : St) => (r, u) = f_CL_draft a1 σ) (fun u t => va_P D classes (Wc ty h u px) t.heap) (va_A (Wc ty h σ px) sz)) 0 0 (va_A (Wc ty h σ px) sz) := by
  refine Met.ofW (cc := b_CL_draft) (maxL := 3) (ret := (some .boolean)) (by decide) rfl ?_
  intro p e s m args below meth c s₁ B hml hv
  obtain ⟨ha, hsz, hP, hK, hN, hM, hD0⟩ := hv
  have hx := B.exec
  have hb := B.bytes
  have hr := B.returns
  have hg : ∀ w ∈ gw, w.before args s = true := fun w h9 => atoms_spec (ws := w_CL_draft) B.pre w (List.mem_cons_of_mem _ h9)
  have hown : s.vm.findClass "ClauseLedger" = some m.cls := findClass_of_methodNamed B.named
  have hlocks := B.notSynchronized
  subst hsz
  have hD := hD0.self (sz := s.heap.size)
  generalize hAe : va_A (Wc ty h σ px) s.heap.size = A at hD hM ⊢
  have hA : ∀ q : Nat, s.heap.size ≤ q → A q := fun q h9 => by rw [← hAe]; exact Or.inr h9
  have hS : va_S A s.heap s.heap [] := va_S.rf
  have he : entryFrame m args 3 = entryFrame m ([.ref (h 0), .long a1] : List Value).toArray 3 := by rw [ha]
  rw [he, lg_entry_eq]
  have hl := lv_entry ([.ref (h 0), .long a1]) (n := 3) (Nat.le_of_ble_eq_true rfl)
  generalize (lg_sl ([.ref (h 0), .long a1]) ++ List.replicate (3 - (lg_sl ([.ref (h 0), .long a1])).length) Slot.unset).toArray = ls at hl ⊢
  have hl : lv_has ls 3 [(0, .ref (h 0)), (1, .long a1)] := hl
  generalize hv : f_CL_draft a1 σ = v
  replace hv := hv.symm
  have B8 : ∀ (H : Heap) (locs : List Loc) (ls : Array Slot) (s0 : Int32) (σ : St), v = f_CL_draft_8 s0 σ → k_CL_draft_8 s0 σ → lv_has ls 3 [] → va_P D classes (Wc ty h σ px) H → va_D A (Wc ty h σ px) → va_S A s.heap H locs → W p l e (headSpec w_CL_draft rm_CL_draft).room s m args below meth c H locs 0 0 (MQ below (va_Qi (fun r (u : St) => (r, u) = v) (fun u t => va_P D classes (Wc ty h u px) t.heap) A) args s 0 0 A) (F0 m 8 ls [.int s0]) := by
    intro H locs ls s0 σ hv hk hl hP hD hS
    unfold f_CL_draft_8 at hv
    unfold k_CL_draft_8 at hk
    obtain ⟨hk0, hk⟩ := hk
    exact W.zret hx hb hr hk0 (fun t ht hW => ⟨⟨_, _, rfl, hv.symm, by dsimp only; rw [ht]; exact hP⟩, hS.F ht⟩) hS.2.2 d_CL_draft_8
  unfold f_CL_draft at hv
  unfold k_CL_draft at hk
  refine lv_aload_n hx hb d_CL_draft_0 rfl (lv_at hl 0 rfl) ?_
  refine va_get (v := .ref (h 18)) (C := R_CL) (T := T_CL) (N := 11) hx hb hg in_CL hown hK hP 0 rfl rfl 2 (by decide) (hg _ m_286) (fun _ h9 => h9) rfl d_CL_draft_1 ?_
  refine lv_lload_n hx hb d_CL_draft_4 rfl (lv_at hl 1 rfl) ?_
  obtain ⟨hk0, hk⟩ := hk
  refine va_calli (va_runV (As := [.long a1]) (rest := []) ⟨hx, hb, hml, hown, hg⟩ (c_Dr_append l D ty h px sa σ s.heap.size a1 hk0) ⟨callB_of 1 hg (gw_C m_365) rfl rfl rfl (hg _ m_4) (hg _ m_362) hd_Dr_append ⟨Nat.le_of_ble_eq_true rfl, Nat.le_of_ble_eq_true rfl⟩, hg _ m_363, hg _ m_364⟩ (zz_preVW hM hS hA hN hK hP hD 18 rfl rfl) rfl rfl hl.1 rfl (lv_room (Nat.le_of_ble_eq_true rfl)) d_CL_draft_5 ⟨Nat.le_of_ble_eq_true rfl, Nat.le_of_ble_eq_true rfl⟩) hS (fun q _ h => zz_free hD hS hA q h) (zz_free hD hS hA) (fun r5 u5 t H locs ht hvm hp hP1 hz hk1 hS => ?_)
  rw [ht] at hP1
  rw [← hp] at hv hk
  have hD : va_D A (Wc ty h u5 px) := zz_D hD rfl
  have hP := hP1
  exact B8 _ _ _ r5 u5 hv hk (lv_sub hl [] rfl) hP hD hS

-- ClauseLedger.isShut()Z
abbrev b_CL_isShut : ByteArray := prog_1_method_25_code
def y_CL_isShut : MethodName := ⟨"ClauseLedger", "isShut", "()Z"⟩
theorem hd_CL_isShut : y_CL_isShut.cls ≠ "java/lang/invoke/MethodHandle" ∧ y_CL_isShut.cls ≠ "java/lang/invoke/VarHandle" ∧ (parseMethodDescriptor y_CL_isShut.desc).map (fun d => d.parameters.length) = some 0 := by decide +kernel
theorem d_CL_isShut_0 : decode b_CL_isShut 0 = .ok (.aload_n 0, 1) := by decide +kernel
theorem d_CL_isShut_1 : decode b_CL_isShut 1 = .ok (.getfield 267, 3) := by decide +kernel
theorem d_CL_isShut_4 : decode b_CL_isShut 4 = .ok (.bipush 60, 2) := by decide +kernel
theorem d_CL_isShut_6 : decode b_CL_isShut 6 = .ok (.if_icmp .lt 7, 3) := by decide +kernel
theorem d_CL_isShut_9 : decode b_CL_isShut 9 = .ok (.iconst 1, 1) := by decide +kernel
theorem d_CL_isShut_10 : decode b_CL_isShut 10 = .ok (.goto 4, 3) := by decide +kernel
theorem d_CL_isShut_13 : decode b_CL_isShut 13 = .ok (.iconst 0, 1) := by decide +kernel
theorem d_CL_isShut_14 : decode b_CL_isShut 14 = .ok (.ireturn, 1) := by decide +kernel
def f_CL_isShut_14 (s0 : Int32) (σ : St) : Int32 := s0
def k_CL_isShut_14 (s0 : Int32) (σ : St) : Prop := (narrow .boolean (.int s0) = .int s0) ∧ True
def f_CL_isShut (σ : St) : Int32 := if (σ.1 0 10) < 60 then (f_CL_isShut_14 0 σ) else (f_CL_isShut_14 1 σ)
def k_CL_isShut (σ : St) : Prop := ((σ.1 0 10) < 60 → (k_CL_isShut_14 0 σ)) ∧ (¬ (σ.1 0 10) < 60 → (k_CL_isShut_14 1 σ))
abbrev w_CL_isShut : List Cond := Cond.code y_CL_isShut b_CL_isShut 1 (some .boolean) :: gw
abbrev rm_CL_isShut : Room := { frames := 0, cells := 0, slots := 0, locals := 0 }
set_option maxHeartbeats 4000000 in
set_option maxRecDepth 100000 in
theorem c_CL_isShut (l : Launch) (D : va_G) (ty : Nat → ClassId) (h : Nat → Nat) (px : va_W) (sa : Nat → Nat) (σ : St) (hk : k_CL_isShut σ) : Met l y_CL_isShut w_CL_isShut rm_CL_isShut (va_Pc [.ref (h 0)] (fun U => va_P D classes (Wc ty h σ px) U.heap ∧ va_K D classes (Ta ty) U ∧ NW U ∧ MK sa (fun _ => False) U U.heap)) (k2_QcV (.int (f_CL_isShut σ))) 0 0 (fun _ => False) := by
  refine Met.ofW (cc := b_CL_isShut) (maxL := 1) (ret := (some .boolean)) (by decide) rfl ?_
  intro p e s m args below meth c s₁ B hml hv
  obtain ⟨ha, hP, hK, hN, hM⟩ := hv
  have hx := B.exec
  have hb := B.bytes
  have hr := B.returns
  have hg : ∀ w ∈ gw, w.before args s = true := fun w h9 => atoms_spec (ws := w_CL_isShut) B.pre w (List.mem_cons_of_mem _ h9)
  have hown : s.vm.findClass "ClauseLedger" = some m.cls := findClass_of_methodNamed B.named
  have hlocks := B.notSynchronized
  have he : entryFrame m args 1 = entryFrame m ([.ref (h 0)] : List Value).toArray 1 := by rw [ha]
  rw [he, lg_entry_eq]
  have hl := lv_entry ([.ref (h 0)]) (n := 1) (Nat.le_of_ble_eq_true rfl)
  generalize (lg_sl ([.ref (h 0)]) ++ List.replicate (1 - (lg_sl ([.ref (h 0)])).length) Slot.unset).toArray = ls at hl ⊢
  have hl : lv_has ls 1 [(0, .ref (h 0))] := hl
  generalize hv : f_CL_isShut σ = v
  replace hv := hv.symm
  have B14 : ∀ (ls : Array Slot) (s0 : Int32), v = f_CL_isShut_14 s0 σ → k_CL_isShut_14 s0 σ → lv_has ls 1 [] → W p l e (headSpec w_CL_isShut rm_CL_isShut).room s m args below meth c s.heap [] 0 0 (MQ below (k2_QcV (.int v)) args s 0 0 (fun _ => False)) (F0 m 14 ls [.int s0]) := by
    intro ls s0 hv hk hl
    unfold f_CL_isShut_14 at hv
    unfold k_CL_isShut_14 at hk
    obtain ⟨hk0, hk⟩ := hk
    exact W.zret hx hb hr hk0 (fun t ht hW => ⟨by rw [hv], ht⟩) (fun q h => nomatch h) d_CL_isShut_14
  unfold f_CL_isShut at hv
  unfold k_CL_isShut at hk
  refine lv_aload_n hx hb d_CL_isShut_0 rfl (lv_at hl 0 rfl) ?_
  refine va_get (v := .int (σ.1 0 10)) (C := R_CL) (T := T_CL) (N := 11) hx hb hg in_CL hown hK hP 0 rfl rfl 10 (by decide) (hg _ m_294) (fun _ h9 => h9) rfl d_CL_isShut_1 ?_
  refine lv_bipush (v := 60) hx hb d_CL_isShut_4 (by decide) ?_
  refine lv_icmp_lt (tgt := 13) hx hb d_CL_isShut_6 (by decide) (fun hc => ?_) (fun hc => ?_)
  · have hv := hv.trans (if_pos hc)
    have hk := hk.1 hc
    refine lv_iconst (v := 0) hx hb d_CL_isShut_13 (by decide) ?_
    exact B14 _ 0 hv hk (lv_sub hl [] rfl)
  · have hv := hv.trans (if_neg hc)
    have hk := hk.2 hc
    refine lv_iconst (v := 1) hx hb d_CL_isShut_9 (by decide) ?_
    refine lv_goto (tgt := 14) hx hb d_CL_isShut_10 (by decide) ?_
    exact B14 _ 1 hv hk (lv_sub hl [] rfl)

