-- ClauseLedger$Steps.count()I
abbrev b_St_count : ByteArray := prog_9_method_2_code
def y_St_count : MethodName := ⟨"ClauseLedger$Steps", "count", "()I"⟩
theorem hd_St_count : y_St_count.cls ≠ "java/lang/invoke/MethodHandle" ∧ y_St_count.cls ≠ "java/lang/invoke/VarHandle" ∧ (parseMethodDescriptor y_St_count.desc).map (fun d => d.parameters.length) = some 0 := by decide +kernel
theorem d_St_count_0 : decode b_St_count 0 = .ok (.aload_n 0, 1) := by decide +kernel
theorem d_St_count_1 : decode b_St_count 1 = .ok (.getfield 25, 3) := by decide +kernel
theorem d_St_count_4 : decode b_St_count 4 = .ok (.ireturn, 1) := by decide +kernel
def f_St_count (σ : St) : Int32 := σ.1 31 4
def k_St_count (σ : St) : Prop := True
abbrev w_St_count : List Cond := Cond.code y_St_count b_St_count 1 (some .int) :: gw
abbrev rm_St_count : Room := { frames := 0, cells := 0, slots := 0, locals := 0 }
set_option maxHeartbeats 4000000 in
set_option maxRecDepth 100000 in
theorem c_St_count (l : Launch) (D : va_G) (ty : Nat → ClassId) (h : Nat → Nat) (px : va_W) (σ : St) (hk : k_St_count σ) : Met l y_St_count w_St_count rm_St_count (va_Pc [.ref (h 31)] (fun U => va_P D classes (Wc ty h σ px) U.heap ∧ va_K D classes (Ta ty) U)) (k2_QcV (.int (f_St_count σ))) 0 0 (fun _ => False) := by
  refine Met.ofW (cc := b_St_count) (maxL := 1) (ret := (some .int)) (by decide) rfl ?_
  intro p e s m args below meth c s₁ B hml hv
  obtain ⟨ha, hP, hK⟩ := hv
  have hx := B.exec
  have hb := B.bytes
  have hr := B.returns
  have hg : ∀ w ∈ gw, w.before args s = true := fun w h9 => atoms_spec (ws := w_St_count) B.pre w (List.mem_cons_of_mem _ h9)
  have hown : s.vm.findClass "ClauseLedger$Steps" = some m.cls := findClass_of_methodNamed B.named
  have hlocks := B.notSynchronized
  have he : entryFrame m args 1 = entryFrame m ([.ref (h 31)] : List Value).toArray 1 := by rw [ha]
  rw [he, lg_entry_eq]
  have hl := lv_entry ([.ref (h 31)]) (n := 1) (Nat.le_of_ble_eq_true rfl)
  generalize (lg_sl ([.ref (h 31)]) ++ List.replicate (1 - (lg_sl ([.ref (h 31)])).length) Slot.unset).toArray = ls at hl ⊢
  have hl : lv_has ls 1 [(0, .ref (h 31))] := hl
  generalize hv : f_St_count σ = v
  replace hv := hv.symm
  unfold f_St_count at hv
  unfold k_St_count at hk
  refine lv_aload_n hx hb d_St_count_0 rfl (lv_at hl 0 rfl) ?_
  refine va_get (v := .int (σ.1 31 4)) (C := R_St) (T := T_St) (N := 5) hx hb hg in_St hown hK hP 31 rfl rfl 4 (by decide) (hg _ m_272) (fun _ h9 => h9) rfl d_St_count_1 ?_
  exact W.iret hx hb hr (fun t ht hW => ⟨by rw [hv], ht⟩) (fun q h => nomatch h) d_St_count_4

-- ClauseLedger$Steps.isFull()Z
abbrev b_St_isFull : ByteArray := prog_9_method_3_code
def y_St_isFull : MethodName := ⟨"ClauseLedger$Steps", "isFull", "()Z"⟩
theorem hd_St_isFull : y_St_isFull.cls ≠ "java/lang/invoke/MethodHandle" ∧ y_St_isFull.cls ≠ "java/lang/invoke/VarHandle" ∧ (parseMethodDescriptor y_St_isFull.desc).map (fun d => d.parameters.length) = some 0 := by decide +kernel
theorem d_St_isFull_0 : decode b_St_isFull 0 = .ok (.aload_n 0, 1) := by decide +kernel
theorem d_St_isFull_1 : decode b_St_isFull 1 = .ok (.getfield 25, 3) := by decide +kernel
theorem d_St_isFull_4 : decode b_St_isFull 4 = .ok (.bipush 60, 2) := by decide +kernel
theorem d_St_isFull_6 : decode b_St_isFull 6 = .ok (.if_icmp .lt 7, 3) := by decide +kernel
theorem d_St_isFull_9 : decode b_St_isFull 9 = .ok (.iconst 1, 1) := by decide +kernel
theorem d_St_isFull_10 : decode b_St_isFull 10 = .ok (.goto 4, 3) := by decide +kernel
theorem d_St_isFull_13 : decode b_St_isFull 13 = .ok (.iconst 0, 1) := by decide +kernel
theorem d_St_isFull_14 : decode b_St_isFull 14 = .ok (.ireturn, 1) := by decide +kernel
def f_St_isFull_14 (s0 : Int32) (σ : St) : Int32 := s0
def k_St_isFull_14 (s0 : Int32) (σ : St) : Prop := (narrow .boolean (.int s0) = .int s0) ∧ True
def f_St_isFull (σ : St) : Int32 := if (σ.1 31 4) < 60 then (f_St_isFull_14 0 σ) else (f_St_isFull_14 1 σ)
def k_St_isFull (σ : St) : Prop := ((σ.1 31 4) < 60 → (k_St_isFull_14 0 σ)) ∧ (¬ (σ.1 31 4) < 60 → (k_St_isFull_14 1 σ))
abbrev w_St_isFull : List Cond := Cond.code y_St_isFull b_St_isFull 1 (some .boolean) :: gw
abbrev rm_St_isFull : Room := { frames := 0, cells := 0, slots := 0, locals := 0 }
set_option maxHeartbeats 4000000 in
set_option maxRecDepth 100000 in
theorem c_St_isFull (l : Launch) (D : va_G) (ty : Nat → ClassId) (h : Nat → Nat) (px : va_W) (σ : St) (hk : k_St_isFull σ) : Met l y_St_isFull w_St_isFull rm_St_isFull (va_Pc [.ref (h 31)] (fun U => va_P D classes (Wc ty h σ px) U.heap ∧ va_K D classes (Ta ty) U)) (k2_QcV (.int (f_St_isFull σ))) 0 0 (fun _ => False) := by
  refine Met.ofW (cc := b_St_isFull) (maxL := 1) (ret := (some .boolean)) (by decide) rfl ?_
  intro p e s m args below meth c s₁ B hml hv
  obtain ⟨ha, hP, hK⟩ := hv
  have hx := B.exec
  have hb := B.bytes
  have hr := B.returns
  have hg : ∀ w ∈ gw, w.before args s = true := fun w h9 => atoms_spec (ws := w_St_isFull) B.pre w (List.mem_cons_of_mem _ h9)
  have hown : s.vm.findClass "ClauseLedger$Steps" = some m.cls := findClass_of_methodNamed B.named
  have hlocks := B.notSynchronized
  have he : entryFrame m args 1 = entryFrame m ([.ref (h 31)] : List Value).toArray 1 := by rw [ha]
  rw [he, lg_entry_eq]
  have hl := lv_entry ([.ref (h 31)]) (n := 1) (Nat.le_of_ble_eq_true rfl)
  generalize (lg_sl ([.ref (h 31)]) ++ List.replicate (1 - (lg_sl ([.ref (h 31)])).length) Slot.unset).toArray = ls at hl ⊢
  have hl : lv_has ls 1 [(0, .ref (h 31))] := hl
  generalize hv : f_St_isFull σ = v
  replace hv := hv.symm
  have B14 : ∀ (ls : Array Slot) (s0 : Int32), v = f_St_isFull_14 s0 σ → k_St_isFull_14 s0 σ → lv_has ls 1 [] → W p l e (headSpec w_St_isFull rm_St_isFull).room s m args below meth c s.heap [] 0 0 (MQ below (k2_QcV (.int v)) args s 0 0 (fun _ => False)) (F0 m 14 ls [.int s0]) := by
    intro ls s0 hv hk hl
    unfold f_St_isFull_14 at hv
    unfold k_St_isFull_14 at hk
    obtain ⟨hk0, hk⟩ := hk
    exact W.zret hx hb hr hk0 (fun t ht hW => ⟨by rw [hv], ht⟩) (fun q h => nomatch h) d_St_isFull_14
  unfold f_St_isFull at hv
  unfold k_St_isFull at hk
  refine lv_aload_n hx hb d_St_isFull_0 rfl (lv_at hl 0 rfl) ?_
  refine va_get (v := .int (σ.1 31 4)) (C := R_St) (T := T_St) (N := 5) hx hb hg in_St hown hK hP 31 rfl rfl 4 (by decide) (hg _ m_272) (fun _ h9 => h9) rfl d_St_isFull_1 ?_
  refine lv_bipush (v := 60) hx hb d_St_isFull_4 (by decide) ?_
  refine lv_icmp_lt (tgt := 13) hx hb d_St_isFull_6 (by decide) (fun hc => ?_) (fun hc => ?_)
  · have hv := hv.trans (if_pos hc)
    have hk := hk.1 hc
    refine lv_iconst (v := 0) hx hb d_St_isFull_13 (by decide) ?_
    exact B14 _ 0 hv hk (lv_sub hl [] rfl)
  · have hv := hv.trans (if_neg hc)
    have hk := hk.2 hc
    refine lv_iconst (v := 1) hx hb d_St_isFull_9 (by decide) ?_
    refine lv_goto (tgt := 14) hx hb d_St_isFull_10 (by decide) ?_
    exact B14 _ 1 hv hk (lv_sub hl [] rfl)

-- ClauseLedger$Steps.has(I)Z
abbrev b_St_has : ByteArray := prog_9_method_4_code
def y_St_has : MethodName := ⟨"ClauseLedger$Steps", "has", "(I)Z"⟩
theorem hd_St_has : y_St_has.cls ≠ "java/lang/invoke/MethodHandle" ∧ y_St_has.cls ≠ "java/lang/invoke/VarHandle" ∧ (parseMethodDescriptor y_St_has.desc).map (fun d => d.parameters.length) = some 1 := by decide +kernel
theorem d_St_has_0 : decode b_St_has 0 = .ok (.iload_n 1, 1) := by decide +kernel
theorem d_St_has_1 : decode b_St_has 1 = .ok (.ifCond .lt 15, 3) := by decide +kernel
theorem d_St_has_4 : decode b_St_has 4 = .ok (.iload_n 1, 1) := by decide +kernel
theorem d_St_has_5 : decode b_St_has 5 = .ok (.aload_n 0, 1) := by decide +kernel
theorem d_St_has_6 : decode b_St_has 6 = .ok (.getfield 25, 3) := by decide +kernel
theorem d_St_has_9 : decode b_St_has 9 = .ok (.if_icmp .ge 7, 3) := by decide +kernel
theorem d_St_has_12 : decode b_St_has 12 = .ok (.iconst 1, 1) := by decide +kernel
theorem d_St_has_13 : decode b_St_has 13 = .ok (.goto 4, 3) := by decide +kernel
theorem d_St_has_16 : decode b_St_has 16 = .ok (.iconst 0, 1) := by decide +kernel
theorem d_St_has_17 : decode b_St_has 17 = .ok (.ireturn, 1) := by decide +kernel
def f_St_has_17 (s0 : Int32) (σ : St) : Int32 := s0
def k_St_has_17 (s0 : Int32) (σ : St) : Prop := (narrow .boolean (.int s0) = .int s0) ∧ True
def f_St_has_16 (σ : St) : Int32 := f_St_has_17 0 σ
def k_St_has_16 (σ : St) : Prop := k_St_has_17 0 σ
def f_St_has (a1 : Int32) (σ : St) : Int32 := if a1 < 0 then (f_St_has_16 σ) else (if (σ.1 31 4) ≤ a1 then (f_St_has_16 σ) else (f_St_has_17 1 σ))
def k_St_has (a1 : Int32) (σ : St) : Prop := (a1 < 0 → (k_St_has_16 σ)) ∧ (¬ a1 < 0 → (((σ.1 31 4) ≤ a1 → (k_St_has_16 σ)) ∧ (¬ (σ.1 31 4) ≤ a1 → (k_St_has_17 1 σ))))
abbrev w_St_has : List Cond := Cond.code y_St_has b_St_has 2 (some .boolean) :: gw
abbrev rm_St_has : Room := { frames := 0, cells := 0, slots := 0, locals := 0 }
set_option maxHeartbeats 4000000 in
set_option maxRecDepth 100000 in
theorem c_St_has (l : Launch) (D : va_G) (ty : Nat → ClassId) (h : Nat → Nat) (px : va_W) (σ : St) (a1 : Int32) (hk : k_St_has a1 σ) : Met l y_St_has w_St_has rm_St_has (va_Pc [.ref (h 31), .int a1] (fun U => va_P D classes (Wc ty h σ px) U.heap ∧ va_K D classes (Ta ty) U)) (k2_QcV (.int (f_St_has a1 σ))) 0 0 (fun _ => False) := by
  refine Met.ofW (cc := b_St_has) (maxL := 2) (ret := (some .boolean)) (by decide) rfl ?_
  intro p e s m args below meth c s₁ B hml hv
  obtain ⟨ha, hP, hK⟩ := hv
  have hx := B.exec
  have hb := B.bytes
  have hr := B.returns
  have hg : ∀ w ∈ gw, w.before args s = true := fun w h9 => atoms_spec (ws := w_St_has) B.pre w (List.mem_cons_of_mem _ h9)
  have hown : s.vm.findClass "ClauseLedger$Steps" = some m.cls := findClass_of_methodNamed B.named
  have hlocks := B.notSynchronized
  have he : entryFrame m args 2 = entryFrame m ([.ref (h 31), .int a1] : List Value).toArray 2 := by rw [ha]
  rw [he, lg_entry_eq]
  have hl := lv_entry ([.ref (h 31), .int a1]) (n := 2) (Nat.le_of_ble_eq_true rfl)
  generalize (lg_sl ([.ref (h 31), .int a1]) ++ List.replicate (2 - (lg_sl ([.ref (h 31), .int a1])).length) Slot.unset).toArray = ls at hl ⊢
  have hl : lv_has ls 2 [(0, .ref (h 31)), (1, .int a1)] := hl
  generalize hv : f_St_has a1 σ = v
  replace hv := hv.symm
  have B17 : ∀ (ls : Array Slot) (s0 : Int32), v = f_St_has_17 s0 σ → k_St_has_17 s0 σ → lv_has ls 2 [] → W p l e (headSpec w_St_has rm_St_has).room s m args below meth c s.heap [] 0 0 (MQ below (k2_QcV (.int v)) args s 0 0 (fun _ => False)) (F0 m 17 ls [.int s0]) := by
    intro ls s0 hv hk hl
    unfold f_St_has_17 at hv
    unfold k_St_has_17 at hk
    obtain ⟨hk0, hk⟩ := hk
    exact W.zret hx hb hr hk0 (fun t ht hW => ⟨by rw [hv], ht⟩) (fun q h => nomatch h) d_St_has_17
  have B16 : ∀ (ls : Array Slot), v = f_St_has_16 σ → k_St_has_16 σ → lv_has ls 2 [] → W p l e (headSpec w_St_has rm_St_has).room s m args below meth c s.heap [] 0 0 (MQ below (k2_QcV (.int v)) args s 0 0 (fun _ => False)) (F0 m 16 ls []) := by
    intro ls hv hk hl
    unfold f_St_has_16 at hv
    unfold k_St_has_16 at hk
    refine lv_iconst (v := 0) hx hb d_St_has_16 (by decide) ?_
    exact B17 _ 0 hv hk (lv_sub hl [] rfl)
  unfold f_St_has at hv
  unfold k_St_has at hk
  refine lv_iload_n hx hb d_St_has_0 rfl (lv_at hl 1 rfl) ?_
  refine lv_if_lt (tgt := 16) hx hb d_St_has_1 (by decide) (fun hc => ?_) (fun hc => ?_)
  · have hv := hv.trans (if_pos hc)
    have hk := hk.1 hc
    exact B16 _  hv hk (lv_sub hl [] rfl)
  · have hv := hv.trans (if_neg hc)
    have hk := hk.2 hc
    refine lv_iload_n hx hb d_St_has_4 rfl (lv_at hl 1 rfl) ?_
    refine lv_aload_n hx hb d_St_has_5 rfl (lv_at hl 0 rfl) ?_
    refine va_get (v := .int (σ.1 31 4)) (C := R_St) (T := T_St) (N := 5) hx hb hg in_St hown hK hP 31 rfl rfl 4 (by decide) (hg _ m_272) (fun _ h9 => h9) rfl d_St_has_6 ?_
    refine lv_icmp_ge (tgt := 16) hx hb d_St_has_9 (by decide) (fun hc => ?_) (fun hc => ?_)
    · have hv := hv.trans (if_pos hc)
      have hk := hk.1 hc
      exact B16 _  hv hk (lv_sub hl [] rfl)
    · have hv := hv.trans (if_neg hc)
      have hk := hk.2 hc
      refine lv_iconst (v := 1) hx hb d_St_has_12 (by decide) ?_
      refine lv_goto (tgt := 17) hx hb d_St_has_13 (by decide) ?_
      exact B17 _ 1 hv hk (lv_sub hl [] rfl)

-- ClauseLedger$Steps.sizeOf(I)I
abbrev b_St_sizeOf : ByteArray := prog_9_method_5_code
def y_St_sizeOf : MethodName := ⟨"ClauseLedger$Steps", "sizeOf", "(I)I"⟩
theorem hd_St_sizeOf : y_St_sizeOf.cls ≠ "java/lang/invoke/MethodHandle" ∧ y_St_sizeOf.cls ≠ "java/lang/invoke/VarHandle" ∧ (parseMethodDescriptor y_St_sizeOf.desc).map (fun d => d.parameters.length) = some 1 := by decide +kernel
theorem d_St_sizeOf_0 : decode b_St_sizeOf 0 = .ok (.aload_n 0, 1) := by decide +kernel
theorem d_St_sizeOf_1 : decode b_St_sizeOf 1 = .ok (.iload_n 1, 1) := by decide +kernel
theorem d_St_sizeOf_2 : decode b_St_sizeOf 2 = .ok (.invokevirtual 29, 3) := by decide +kernel
theorem d_St_sizeOf_5 : decode b_St_sizeOf 5 = .ok (.ifCond .eq 12, 3) := by decide +kernel
theorem d_St_sizeOf_8 : decode b_St_sizeOf 8 = .ok (.aload_n 0, 1) := by decide +kernel
theorem d_St_sizeOf_9 : decode b_St_sizeOf 9 = .ok (.getfield 15, 3) := by decide +kernel
theorem d_St_sizeOf_12 : decode b_St_sizeOf 12 = .ok (.iload_n 1, 1) := by decide +kernel
theorem d_St_sizeOf_13 : decode b_St_sizeOf 13 = .ok (.iaload, 1) := by decide +kernel
theorem d_St_sizeOf_14 : decode b_St_sizeOf 14 = .ok (.goto 4, 3) := by decide +kernel
theorem d_St_sizeOf_17 : decode b_St_sizeOf 17 = .ok (.iconst (-1), 1) := by decide +kernel
theorem d_St_sizeOf_18 : decode b_St_sizeOf 18 = .ok (.ireturn, 1) := by decide +kernel
def f_St_sizeOf_18 (s0 : Int32) (σ : St) : Int32 := s0
def k_St_sizeOf_18 (s0 : Int32) (σ : St) : Prop := True
def f_St_sizeOf (a1 : Int32) (σ : St) : Int32 := if (f_St_has a1 σ) = 0 then (f_St_sizeOf_18 (-1) σ) else (f_St_sizeOf_18 (σ.1 33 a1.toNatClampNeg) σ)
def k_St_sizeOf (a1 : Int32) (σ : St) : Prop := (k_St_has a1 σ) ∧ (((f_St_has a1 σ) = 0 → (k_St_sizeOf_18 (-1) σ)) ∧ (¬ (f_St_has a1 σ) = 0 → (vp_in a1 60 ∧ (k_St_sizeOf_18 (σ.1 33 a1.toNatClampNeg) σ))))
abbrev w_St_sizeOf : List Cond := Cond.code y_St_sizeOf b_St_sizeOf 2 (some .int) :: gw
abbrev rm_St_sizeOf : Room := { frames := 1, cells := 0, slots := 0, locals := 21 }
set_option maxHeartbeats 4000000 in
set_option maxRecDepth 100000 in
theorem c_St_sizeOf (l : Launch) (D : va_G) (ty : Nat → ClassId) (h : Nat → Nat) (px : va_W) (σ : St) (a1 : Int32) (hk : k_St_sizeOf a1 σ) : Met l y_St_sizeOf w_St_sizeOf rm_St_sizeOf (va_Pc [.ref (h 31), .int a1] (fun U => va_P D classes (Wc ty h σ px) U.heap ∧ va_K D classes (Ta ty) U)) (k2_QcV (.int (f_St_sizeOf a1 σ))) 0 0 (fun _ => False) := by
  refine Met.ofW (cc := b_St_sizeOf) (maxL := 2) (ret := (some .int)) (by decide) rfl ?_
  intro p e s m args below meth c s₁ B hml hv
  obtain ⟨ha, hP, hK⟩ := hv
  have hx := B.exec
  have hb := B.bytes
  have hr := B.returns
  have hg : ∀ w ∈ gw, w.before args s = true := fun w h9 => atoms_spec (ws := w_St_sizeOf) B.pre w (List.mem_cons_of_mem _ h9)
  have hown : s.vm.findClass "ClauseLedger$Steps" = some m.cls := findClass_of_methodNamed B.named
  have hlocks := B.notSynchronized
  have he : entryFrame m args 2 = entryFrame m ([.ref (h 31), .int a1] : List Value).toArray 2 := by rw [ha]
  rw [he, lg_entry_eq]
  have hl := lv_entry ([.ref (h 31), .int a1]) (n := 2) (Nat.le_of_ble_eq_true rfl)
  generalize (lg_sl ([.ref (h 31), .int a1]) ++ List.replicate (2 - (lg_sl ([.ref (h 31), .int a1])).length) Slot.unset).toArray = ls at hl ⊢
  have hl : lv_has ls 2 [(0, .ref (h 31)), (1, .int a1)] := hl
  generalize hv : f_St_sizeOf a1 σ = v
  replace hv := hv.symm
  have B18 : ∀ (ls : Array Slot) (s0 : Int32), v = f_St_sizeOf_18 s0 σ → k_St_sizeOf_18 s0 σ → lv_has ls 2 [] → W p l e (headSpec w_St_sizeOf rm_St_sizeOf).room s m args below meth c s.heap [] 0 0 (MQ below (k2_QcV (.int v)) args s 0 0 (fun _ => False)) (F0 m 18 ls [.int s0]) := by
    intro ls s0 hv hk hl
    unfold f_St_sizeOf_18 at hv
    unfold k_St_sizeOf_18 at hk
    exact W.iret hx hb hr (fun t ht hW => ⟨by rw [hv], ht⟩) (fun q h => nomatch h) d_St_sizeOf_18
  unfold f_St_sizeOf at hv
  unfold k_St_sizeOf at hk
  refine lv_aload_n hx hb d_St_sizeOf_0 rfl (lv_at hl 0 rfl) ?_
  refine lv_iload_n hx hb d_St_sizeOf_1 rfl (lv_at hl 1 rfl) ?_
  obtain ⟨hk0, hk⟩ := hk
  refine zz_callV (va_runV (As := [.int a1]) (rest := []) ⟨hx, hb, hml, hown, hg⟩ (c_St_has l D ty h px σ a1 hk0) ⟨callB_of 1 hg (gw_C m_380) rfl rfl rfl (hg _ m_12) (hg _ m_377) hd_St_has ⟨Nat.le_of_ble_eq_true rfl, Nat.le_of_ble_eq_true rfl⟩, hg _ m_378, hg _ m_379⟩ (zz_preV hK hP 31 rfl rfl) rfl rfl hl.1 rfl (lv_room (Nat.le_of_ble_eq_true rfl)) d_St_sizeOf_2 ⟨Nat.le_refl _, Nat.le_refl _⟩) ?_
  refine lv_if_eq (tgt := 17) hx hb d_St_sizeOf_5 (by decide) (fun hc => ?_) (fun hc => ?_)
  · have hv := hv.trans (if_pos hc)
    have hk := hk.1 hc
    refine lv_iconst (v := -1) hx hb d_St_sizeOf_17 (by decide) ?_
    exact B18 _ (-1) hv hk (lv_sub hl [] rfl)
  · have hv := hv.trans (if_neg hc)
    have hk := hk.2 hc
    refine lv_aload_n hx hb d_St_sizeOf_8 rfl (lv_at hl 0 rfl) ?_
    refine va_get (v := .ref (h 33)) (C := R_St) (T := T_St) (N := 5) hx hb hg in_St hown hK hP 31 rfl rfl 1 (by decide) (hg _ m_269) (fun _ h9 => h9) rfl d_St_sizeOf_9 ?_
    refine lv_iload_n hx hb d_St_sizeOf_12 rfl (lv_at hl 1 rfl) ?_
    obtain ⟨hk0, hk⟩ := hk
    refine va_iald hx hb hK hP 33 0 rfl rfl hk0 d_St_sizeOf_13 ?_
    refine lv_goto (tgt := 18) hx hb d_St_sizeOf_14 (by decide) ?_
    exact B18 _ (σ.1 33 a1.toNatClampNeg) hv hk (lv_sub hl [] rfl)

-- ClauseLedger$Steps.truthOf(II)I
abbrev b_St_truthOf : ByteArray := prog_9_method_6_code
def y_St_truthOf : MethodName := ⟨"ClauseLedger$Steps", "truthOf", "(II)I"⟩
theorem hd_St_truthOf : y_St_truthOf.cls ≠ "java/lang/invoke/MethodHandle" ∧ y_St_truthOf.cls ≠ "java/lang/invoke/VarHandle" ∧ (parseMethodDescriptor y_St_truthOf.desc).map (fun d => d.parameters.length) = some 2 := by decide +kernel
theorem d_St_truthOf_0 : decode b_St_truthOf 0 = .ok (.iload_n 2, 1) := by decide +kernel
theorem d_St_truthOf_1 : decode b_St_truthOf 1 = .ok (.ifCond .lt 26, 3) := by decide +kernel
theorem d_St_truthOf_4 : decode b_St_truthOf 4 = .ok (.iload_n 2, 1) := by decide +kernel
theorem d_St_truthOf_5 : decode b_St_truthOf 5 = .ok (.aload_n 0, 1) := by decide +kernel
theorem d_St_truthOf_6 : decode b_St_truthOf 6 = .ok (.iload_n 1, 1) := by decide +kernel
theorem d_St_truthOf_7 : decode b_St_truthOf 7 = .ok (.invokevirtual 33, 3) := by decide +kernel
theorem d_St_truthOf_10 : decode b_St_truthOf 10 = .ok (.if_icmp .ge 17, 3) := by decide +kernel
theorem d_St_truthOf_13 : decode b_St_truthOf 13 = .ok (.aload_n 0, 1) := by decide +kernel
theorem d_St_truthOf_14 : decode b_St_truthOf 14 = .ok (.getfield 9, 3) := by decide +kernel
theorem d_St_truthOf_17 : decode b_St_truthOf 17 = .ok (.iload_n 1, 1) := by decide +kernel
theorem d_St_truthOf_18 : decode b_St_truthOf 18 = .ok (.bipush 8, 2) := by decide +kernel
theorem d_St_truthOf_20 : decode b_St_truthOf 20 = .ok (.imul, 1) := by decide +kernel
theorem d_St_truthOf_21 : decode b_St_truthOf 21 = .ok (.iload_n 2, 1) := by decide +kernel
theorem d_St_truthOf_22 : decode b_St_truthOf 22 = .ok (.iadd, 1) := by decide +kernel
theorem d_St_truthOf_23 : decode b_St_truthOf 23 = .ok (.iaload, 1) := by decide +kernel
theorem d_St_truthOf_24 : decode b_St_truthOf 24 = .ok (.goto 4, 3) := by decide +kernel
theorem d_St_truthOf_27 : decode b_St_truthOf 27 = .ok (.iconst (-1), 1) := by decide +kernel
theorem d_St_truthOf_28 : decode b_St_truthOf 28 = .ok (.ireturn, 1) := by decide +kernel
def f_St_truthOf_28 (s0 : Int32) (σ : St) : Int32 := s0
def k_St_truthOf_28 (s0 : Int32) (σ : St) : Prop := True
def f_St_truthOf_27 (σ : St) : Int32 := f_St_truthOf_28 (-1) σ
def k_St_truthOf_27 (σ : St) : Prop := k_St_truthOf_28 (-1) σ
def f_St_truthOf (a1 : Int32) (a2 : Int32) (σ : St) : Int32 := if a2 < 0 then (f_St_truthOf_27 σ) else (if (f_St_sizeOf a1 σ) ≤ a2 then (f_St_truthOf_27 σ) else (f_St_truthOf_28 (σ.1 32 ((a1 * 8) + a2).toNatClampNeg) σ))
def k_St_truthOf (a1 : Int32) (a2 : Int32) (σ : St) : Prop := (a2 < 0 → (k_St_truthOf_27 σ)) ∧ (¬ a2 < 0 → ((k_St_sizeOf a1 σ) ∧ (((f_St_sizeOf a1 σ) ≤ a2 → (k_St_truthOf_27 σ)) ∧ (¬ (f_St_sizeOf a1 σ) ≤ a2 → (vp_in ((a1 * 8) + a2) 480 ∧ (k_St_truthOf_28 (σ.1 32 ((a1 * 8) + a2).toNatClampNeg) σ))))))
abbrev w_St_truthOf : List Cond := Cond.code y_St_truthOf b_St_truthOf 3 (some .int) :: gw
abbrev rm_St_truthOf : Room := { frames := 2, cells := 0, slots := 0, locals := 42 }
set_option maxHeartbeats 4000000 in
set_option maxRecDepth 100000 in
theorem c_St_truthOf (l : Launch) (D : va_G) (ty : Nat → ClassId) (h : Nat → Nat) (px : va_W) (σ : St) (a1 : Int32) (a2 : Int32) (hk : k_St_truthOf a1 a2 σ) : Met l y_St_truthOf w_St_truthOf rm_St_truthOf (va_Pc [.ref (h 31), .int a1, .int a2] (fun U => va_P D classes (Wc ty h σ px) U.heap ∧ va_K D classes (Ta ty) U)) (k2_QcV (.int (f_St_truthOf a1 a2 σ))) 0 0 (fun _ => False) := by
  refine Met.ofW (cc := b_St_truthOf) (maxL := 3) (ret := (some .int)) (by decide) rfl ?_
  intro p e s m args below meth c s₁ B hml hv
  obtain ⟨ha, hP, hK⟩ := hv
  have hx := B.exec
  have hb := B.bytes
  have hr := B.returns
  have hg : ∀ w ∈ gw, w.before args s = true := fun w h9 => atoms_spec (ws := w_St_truthOf) B.pre w (List.mem_cons_of_mem _ h9)
  have hown : s.vm.findClass "ClauseLedger$Steps" = some m.cls := findClass_of_methodNamed B.named
  have hlocks := B.notSynchronized
  have he : entryFrame m args 3 = entryFrame m ([.ref (h 31), .int a1, .int a2] : List Value).toArray 3 := by rw [ha]
  rw [he, lg_entry_eq]
  have hl := lv_entry ([.ref (h 31), .int a1, .int a2]) (n := 3) (Nat.le_of_ble_eq_true rfl)
  generalize (lg_sl ([.ref (h 31), .int a1, .int a2]) ++ List.replicate (3 - (lg_sl ([.ref (h 31), .int a1, .int a2])).length) Slot.unset).toArray = ls at hl ⊢
  have hl : lv_has ls 3 [(0, .ref (h 31)), (1, .int a1), (2, .int a2)] := hl
  generalize hv : f_St_truthOf a1 a2 σ = v
  replace hv := hv.symm
  have B28 : ∀ (ls : Array Slot) (s0 : Int32), v = f_St_truthOf_28 s0 σ → k_St_truthOf_28 s0 σ → lv_has ls 3 [] → W p l e (headSpec w_St_truthOf rm_St_truthOf).room s m args below meth c s.heap [] 0 0 (MQ below (k2_QcV (.int v)) args s 0 0 (fun _ => False)) (F0 m 28 ls [.int s0]) := by
    intro ls s0 hv hk hl
    unfold f_St_truthOf_28 at hv
    unfold k_St_truthOf_28 at hk
    exact W.iret hx hb hr (fun t ht hW => ⟨by rw [hv], ht⟩) (fun q h => nomatch h) d_St_truthOf_28
  have B27 : ∀ (ls : Array Slot), v = f_St_truthOf_27 σ → k_St_truthOf_27 σ → lv_has ls 3 [] → W p l e (headSpec w_St_truthOf rm_St_truthOf).room s m args below meth c s.heap [] 0 0 (MQ below (k2_QcV (.int v)) args s 0 0 (fun _ => False)) (F0 m 27 ls []) := by
    intro ls hv hk hl
    unfold f_St_truthOf_27 at hv
    unfold k_St_truthOf_27 at hk
    refine lv_iconst (v := -1) hx hb d_St_truthOf_27 (by decide) ?_
    exact B28 _ (-1) hv hk (lv_sub hl [] rfl)
  unfold f_St_truthOf at hv
  unfold k_St_truthOf at hk
  refine lv_iload_n hx hb d_St_truthOf_0 rfl (lv_at hl 2 rfl) ?_
  refine lv_if_lt (tgt := 27) hx hb d_St_truthOf_1 (by decide) (fun hc => ?_) (fun hc => ?_)
  · have hv := hv.trans (if_pos hc)
    have hk := hk.1 hc
    exact B27 _  hv hk (lv_sub hl [] rfl)
  · have hv := hv.trans (if_neg hc)
    have hk := hk.2 hc
    refine lv_iload_n hx hb d_St_truthOf_4 rfl (lv_at hl 2 rfl) ?_
    refine lv_aload_n hx hb d_St_truthOf_5 rfl (lv_at hl 0 rfl) ?_
    refine lv_iload_n hx hb d_St_truthOf_6 rfl (lv_at hl 1 rfl) ?_
    obtain ⟨hk0, hk⟩ := hk
    refine zz_callV (va_runV (As := [.int a1]) (rest := [.int a2]) ⟨hx, hb, hml, hown, hg⟩ (c_St_sizeOf l D ty h px σ a1 hk0) ⟨callB_of 1 hg (gw_C m_376) rfl rfl rfl (hg _ m_12) (hg _ m_385) hd_St_sizeOf ⟨Nat.le_of_ble_eq_true rfl, Nat.le_of_ble_eq_true rfl⟩, hg _ m_374, hg _ m_375⟩ (zz_preV hK hP 31 rfl rfl) rfl rfl hl.1 rfl (lv_room (Nat.le_of_ble_eq_true rfl)) d_St_truthOf_7 ⟨Nat.le_refl _, Nat.le_refl _⟩) ?_
    refine lv_icmp_ge (tgt := 27) hx hb d_St_truthOf_10 (by decide) (fun hc => ?_) (fun hc => ?_)
    · have hv := hv.trans (if_pos hc)
      have hk := hk.1 hc
      exact B27 _  hv hk (lv_sub hl [] rfl)
    · have hv := hv.trans (if_neg hc)
      have hk := hk.2 hc
      refine lv_aload_n hx hb d_St_truthOf_13 rfl (lv_at hl 0 rfl) ?_
      refine va_get (v := .ref (h 32)) (C := R_St) (T := T_St) (N := 5) hx hb hg in_St hown hK hP 31 rfl rfl 0 (by decide) (hg _ m_268) (fun _ h9 => h9) rfl d_St_truthOf_14 ?_
      refine lv_iload_n hx hb d_St_truthOf_17 rfl (lv_at hl 1 rfl) ?_
      refine lv_bipush (v := 8) hx hb d_St_truthOf_18 (by decide) ?_
      refine lv_imul hx hb d_St_truthOf_20 ?_
      refine lv_iload_n hx hb d_St_truthOf_21 rfl (lv_at hl 2 rfl) ?_
      refine lv_iadd hx hb d_St_truthOf_22 ?_
      obtain ⟨hk0, hk⟩ := hk
      refine va_iald hx hb hK hP 32 0 rfl rfl hk0 d_St_truthOf_23 ?_
      refine lv_goto (tgt := 28) hx hb d_St_truthOf_24 (by decide) ?_
      exact B28 _ (σ.1 32 ((a1 * 8) + a2).toNatClampNeg) hv hk (lv_sub hl [] rfl)

-- ClauseLedger$Steps.scopeOf(I)I
abbrev b_St_scopeOf : ByteArray := prog_9_method_7_code
def y_St_scopeOf : MethodName := ⟨"ClauseLedger$Steps", "scopeOf", "(I)I"⟩
theorem hd_St_scopeOf : y_St_scopeOf.cls ≠ "java/lang/invoke/MethodHandle" ∧ y_St_scopeOf.cls ≠ "java/lang/invoke/VarHandle" ∧ (parseMethodDescriptor y_St_scopeOf.desc).map (fun d => d.parameters.length) = some 1 := by decide +kernel
theorem d_St_scopeOf_0 : decode b_St_scopeOf 0 = .ok (.aload_n 0, 1) := by decide +kernel
theorem d_St_scopeOf_1 : decode b_St_scopeOf 1 = .ok (.iload_n 1, 1) := by decide +kernel
theorem d_St_scopeOf_2 : decode b_St_scopeOf 2 = .ok (.invokevirtual 29, 3) := by decide +kernel
theorem d_St_scopeOf_5 : decode b_St_scopeOf 5 = .ok (.ifCond .eq 12, 3) := by decide +kernel
theorem d_St_scopeOf_8 : decode b_St_scopeOf 8 = .ok (.aload_n 0, 1) := by decide +kernel
theorem d_St_scopeOf_9 : decode b_St_scopeOf 9 = .ok (.getfield 18, 3) := by decide +kernel
theorem d_St_scopeOf_12 : decode b_St_scopeOf 12 = .ok (.iload_n 1, 1) := by decide +kernel
theorem d_St_scopeOf_13 : decode b_St_scopeOf 13 = .ok (.iaload, 1) := by decide +kernel
theorem d_St_scopeOf_14 : decode b_St_scopeOf 14 = .ok (.goto 4, 3) := by decide +kernel
theorem d_St_scopeOf_17 : decode b_St_scopeOf 17 = .ok (.iconst (-1), 1) := by decide +kernel
theorem d_St_scopeOf_18 : decode b_St_scopeOf 18 = .ok (.ireturn, 1) := by decide +kernel
def f_St_scopeOf_18 (s0 : Int32) (σ : St) : Int32 := s0
def k_St_scopeOf_18 (s0 : Int32) (σ : St) : Prop := True
def f_St_scopeOf (a1 : Int32) (σ : St) : Int32 := if (f_St_has a1 σ) = 0 then (f_St_scopeOf_18 (-1) σ) else (f_St_scopeOf_18 (σ.1 34 a1.toNatClampNeg) σ)
def k_St_scopeOf (a1 : Int32) (σ : St) : Prop := (k_St_has a1 σ) ∧ (((f_St_has a1 σ) = 0 → (k_St_scopeOf_18 (-1) σ)) ∧ (¬ (f_St_has a1 σ) = 0 → (vp_in a1 60 ∧ (k_St_scopeOf_18 (σ.1 34 a1.toNatClampNeg) σ))))
abbrev w_St_scopeOf : List Cond := Cond.code y_St_scopeOf b_St_scopeOf 2 (some .int) :: gw
abbrev rm_St_scopeOf : Room := { frames := 1, cells := 0, slots := 0, locals := 21 }
set_option maxHeartbeats 4000000 in
set_option maxRecDepth 100000 in
theorem c_St_scopeOf (l : Launch) (D : va_G) (ty : Nat → ClassId) (h : Nat → Nat) (px : va_W) (σ : St) (a1 : Int32) (hk : k_St_scopeOf a1 σ) : Met l y_St_scopeOf w_St_scopeOf rm_St_scopeOf (va_Pc [.ref (h 31), .int a1] (fun U => va_P D classes (Wc ty h σ px) U.heap ∧ va_K D classes (Ta ty) U)) (k2_QcV (.int (f_St_scopeOf a1 σ))) 0 0 (fun _ => False) := by
  refine Met.ofW (cc := b_St_scopeOf) (maxL := 2) (ret := (some .int)) (by decide) rfl ?_
  intro p e s m args below meth c s₁ B hml hv
  obtain ⟨ha, hP, hK⟩ := hv
  have hx := B.exec
  have hb := B.bytes
  have hr := B.returns
  have hg : ∀ w ∈ gw, w.before args s = true := fun w h9 => atoms_spec (ws := w_St_scopeOf) B.pre w (List.mem_cons_of_mem _ h9)
  have hown : s.vm.findClass "ClauseLedger$Steps" = some m.cls := findClass_of_methodNamed B.named
  have hlocks := B.notSynchronized
  have he : entryFrame m args 2 = entryFrame m ([.ref (h 31), .int a1] : List Value).toArray 2 := by rw [ha]
  rw [he, lg_entry_eq]
  have hl := lv_entry ([.ref (h 31), .int a1]) (n := 2) (Nat.le_of_ble_eq_true rfl)
  generalize (lg_sl ([.ref (h 31), .int a1]) ++ List.replicate (2 - (lg_sl ([.ref (h 31), .int a1])).length) Slot.unset).toArray = ls at hl ⊢
  have hl : lv_has ls 2 [(0, .ref (h 31)), (1, .int a1)] := hl
  generalize hv : f_St_scopeOf a1 σ = v
  replace hv := hv.symm
  have B18 : ∀ (ls : Array Slot) (s0 : Int32), v = f_St_scopeOf_18 s0 σ → k_St_scopeOf_18 s0 σ → lv_has ls 2 [] → W p l e (headSpec w_St_scopeOf rm_St_scopeOf).room s m args below meth c s.heap [] 0 0 (MQ below (k2_QcV (.int v)) args s 0 0 (fun _ => False)) (F0 m 18 ls [.int s0]) := by
    intro ls s0 hv hk hl
    unfold f_St_scopeOf_18 at hv
    unfold k_St_scopeOf_18 at hk
    exact W.iret hx hb hr (fun t ht hW => ⟨by rw [hv], ht⟩) (fun q h => nomatch h) d_St_scopeOf_18
  unfold f_St_scopeOf at hv
  unfold k_St_scopeOf at hk
  refine lv_aload_n hx hb d_St_scopeOf_0 rfl (lv_at hl 0 rfl) ?_
  refine lv_iload_n hx hb d_St_scopeOf_1 rfl (lv_at hl 1 rfl) ?_
  obtain ⟨hk0, hk⟩ := hk
  refine zz_callV (va_runV (As := [.int a1]) (rest := []) ⟨hx, hb, hml, hown, hg⟩ (c_St_has l D ty h px σ a1 hk0) ⟨callB_of 1 hg (gw_C m_380) rfl rfl rfl (hg _ m_12) (hg _ m_377) hd_St_has ⟨Nat.le_of_ble_eq_true rfl, Nat.le_of_ble_eq_true rfl⟩, hg _ m_378, hg _ m_379⟩ (zz_preV hK hP 31 rfl rfl) rfl rfl hl.1 rfl (lv_room (Nat.le_of_ble_eq_true rfl)) d_St_scopeOf_2 ⟨Nat.le_refl _, Nat.le_refl _⟩) ?_
  refine lv_if_eq (tgt := 17) hx hb d_St_scopeOf_5 (by decide) (fun hc => ?_) (fun hc => ?_)
  · have hv := hv.trans (if_pos hc)
    have hk := hk.1 hc
    refine lv_iconst (v := -1) hx hb d_St_scopeOf_17 (by decide) ?_
    exact B18 _ (-1) hv hk (lv_sub hl [] rfl)
  · have hv := hv.trans (if_neg hc)
    have hk := hk.2 hc
    refine lv_aload_n hx hb d_St_scopeOf_8 rfl (lv_at hl 0 rfl) ?_
    refine va_get (v := .ref (h 34)) (C := R_St) (T := T_St) (N := 5) hx hb hg in_St hown hK hP 31 rfl rfl 2 (by decide) (hg _ m_270) (fun _ h9 => h9) rfl d_St_scopeOf_9 ?_
    refine lv_iload_n hx hb d_St_scopeOf_12 rfl (lv_at hl 1 rfl) ?_
    obtain ⟨hk0, hk⟩ := hk
    refine va_iald hx hb hK hP 34 0 rfl rfl hk0 d_St_scopeOf_13 ?_
    refine lv_goto (tgt := 18) hx hb d_St_scopeOf_14 (by decide) ?_
    exact B18 _ (σ.1 34 a1.toNatClampNeg) hv hk (lv_sub hl [] rfl)

-- ClauseLedger$Steps.isAssumed(I)Z
abbrev b_St_isAssumed : ByteArray := prog_9_method_8_code
def y_St_isAssumed : MethodName := ⟨"ClauseLedger$Steps", "isAssumed", "(I)Z"⟩
theorem hd_St_isAssumed : y_St_isAssumed.cls ≠ "java/lang/invoke/MethodHandle" ∧ y_St_isAssumed.cls ≠ "java/lang/invoke/VarHandle" ∧ (parseMethodDescriptor y_St_isAssumed.desc).map (fun d => d.parameters.length) = some 1 := by decide +kernel
theorem d_St_isAssumed_0 : decode b_St_isAssumed 0 = .ok (.aload_n 0, 1) := by decide +kernel
theorem d_St_isAssumed_1 : decode b_St_isAssumed 1 = .ok (.iload_n 1, 1) := by decide +kernel
theorem d_St_isAssumed_2 : decode b_St_isAssumed 2 = .ok (.invokevirtual 29, 3) := by decide +kernel
theorem d_St_isAssumed_5 : decode b_St_isAssumed 5 = .ok (.ifCond .eq 16, 3) := by decide +kernel
theorem d_St_isAssumed_8 : decode b_St_isAssumed 8 = .ok (.aload_n 0, 1) := by decide +kernel
theorem d_St_isAssumed_9 : decode b_St_isAssumed 9 = .ok (.getfield 21, 3) := by decide +kernel
theorem d_St_isAssumed_12 : decode b_St_isAssumed 12 = .ok (.iload_n 1, 1) := by decide +kernel
theorem d_St_isAssumed_13 : decode b_St_isAssumed 13 = .ok (.baload, 1) := by decide +kernel
theorem d_St_isAssumed_14 : decode b_St_isAssumed 14 = .ok (.ifCond .eq 7, 3) := by decide +kernel
theorem d_St_isAssumed_17 : decode b_St_isAssumed 17 = .ok (.iconst 1, 1) := by decide +kernel
theorem d_St_isAssumed_18 : decode b_St_isAssumed 18 = .ok (.goto 4, 3) := by decide +kernel
theorem d_St_isAssumed_21 : decode b_St_isAssumed 21 = .ok (.iconst 0, 1) := by decide +kernel
theorem d_St_isAssumed_22 : decode b_St_isAssumed 22 = .ok (.ireturn, 1) := by decide +kernel
def f_St_isAssumed_22 (s0 : Int32) (σ : St) : Int32 := s0
def k_St_isAssumed_22 (s0 : Int32) (σ : St) : Prop := (narrow .boolean (.int s0) = .int s0) ∧ True
def f_St_isAssumed_21 (σ : St) : Int32 := f_St_isAssumed_22 0 σ
def k_St_isAssumed_21 (σ : St) : Prop := k_St_isAssumed_22 0 σ
def f_St_isAssumed (a1 : Int32) (σ : St) : Int32 := if (f_St_has a1 σ) = 0 then (f_St_isAssumed_21 σ) else (if (σ.1 35 a1.toNatClampNeg) = 0 then (f_St_isAssumed_21 σ) else (f_St_isAssumed_22 1 σ))
def k_St_isAssumed (a1 : Int32) (σ : St) : Prop := (k_St_has a1 σ) ∧ (((f_St_has a1 σ) = 0 → (k_St_isAssumed_21 σ)) ∧ (¬ (f_St_has a1 σ) = 0 → (vp_in a1 60 ∧ (((σ.1 35 a1.toNatClampNeg) = 0 → (k_St_isAssumed_21 σ)) ∧ (¬ (σ.1 35 a1.toNatClampNeg) = 0 → (k_St_isAssumed_22 1 σ))))))
abbrev w_St_isAssumed : List Cond := Cond.code y_St_isAssumed b_St_isAssumed 2 (some .boolean) :: gw
abbrev rm_St_isAssumed : Room := { frames := 1, cells := 0, slots := 0, locals := 21 }
set_option maxHeartbeats 4000000 in
set_option maxRecDepth 100000 in
theorem c_St_isAssumed (l : Launch) (D : va_G) (ty : Nat → ClassId) (h : Nat → Nat) (px : va_W) (σ : St) (a1 : Int32) (hk : k_St_isAssumed a1 σ) : Met l y_St_isAssumed w_St_isAssumed rm_St_isAssumed (va_Pc [.ref (h 31), .int a1] (fun U => va_P D classes (Wc ty h σ px) U.heap ∧ va_K D classes (Ta ty) U)) (k2_QcV (.int (f_St_isAssumed a1 σ))) 0 0 (fun _ => False) := by
  refine Met.ofW (cc := b_St_isAssumed) (maxL := 2) (ret := (some .boolean)) (by decide) rfl ?_
  intro p e s m args below meth c s₁ B hml hv
  obtain ⟨ha, hP, hK⟩ := hv
  have hx := B.exec
  have hb := B.bytes
  have hr := B.returns
  have hg : ∀ w ∈ gw, w.before args s = true := fun w h9 => atoms_spec (ws := w_St_isAssumed) B.pre w (List.mem_cons_of_mem _ h9)
  have hown : s.vm.findClass "ClauseLedger$Steps" = some m.cls := findClass_of_methodNamed B.named
  have hlocks := B.notSynchronized
  have he : entryFrame m args 2 = entryFrame m ([.ref (h 31), .int a1] : List Value).toArray 2 := by rw [ha]
  rw [he, lg_entry_eq]
  have hl := lv_entry ([.ref (h 31), .int a1]) (n := 2) (Nat.le_of_ble_eq_true rfl)
  generalize (lg_sl ([.ref (h 31), .int a1]) ++ List.replicate (2 - (lg_sl ([.ref (h 31), .int a1])).length) Slot.unset).toArray = ls at hl ⊢
  have hl : lv_has ls 2 [(0, .ref (h 31)), (1, .int a1)] := hl
  generalize hv : f_St_isAssumed a1 σ = v
  replace hv := hv.symm
  have B22 : ∀ (ls : Array Slot) (s0 : Int32), v = f_St_isAssumed_22 s0 σ → k_St_isAssumed_22 s0 σ → lv_has ls 2 [] → W p l e (headSpec w_St_isAssumed rm_St_isAssumed).room s m args below meth c s.heap [] 0 0 (MQ below (k2_QcV (.int v)) args s 0 0 (fun _ => False)) (F0 m 22 ls [.int s0]) := by
    intro ls s0 hv hk hl
    unfold f_St_isAssumed_22 at hv
    unfold k_St_isAssumed_22 at hk
    obtain ⟨hk0, hk⟩ := hk
    exact W.zret hx hb hr hk0 (fun t ht hW => ⟨by rw [hv], ht⟩) (fun q h => nomatch h) d_St_isAssumed_22
  have B21 : ∀ (ls : Array Slot), v = f_St_isAssumed_21 σ → k_St_isAssumed_21 σ → lv_has ls 2 [] → W p l e (headSpec w_St_isAssumed rm_St_isAssumed).room s m args below meth c s.heap [] 0 0 (MQ below (k2_QcV (.int v)) args s 0 0 (fun _ => False)) (F0 m 21 ls []) := by
    intro ls hv hk hl
    unfold f_St_isAssumed_21 at hv
    unfold k_St_isAssumed_21 at hk
    refine lv_iconst (v := 0) hx hb d_St_isAssumed_21 (by decide) ?_
    exact B22 _ 0 hv hk (lv_sub hl [] rfl)
  unfold f_St_isAssumed at hv
  unfold k_St_isAssumed at hk
  refine lv_aload_n hx hb d_St_isAssumed_0 rfl (lv_at hl 0 rfl) ?_
  refine lv_iload_n hx hb d_St_isAssumed_1 rfl (lv_at hl 1 rfl) ?_
  obtain ⟨hk0, hk⟩ := hk
  refine zz_callV (va_runV (As := [.int a1]) (rest := []) ⟨hx, hb, hml, hown, hg⟩ (c_St_has l D ty h px σ a1 hk0) ⟨callB_of 1 hg (gw_C m_380) rfl rfl rfl (hg _ m_12) (hg _ m_377) hd_St_has ⟨Nat.le_of_ble_eq_true rfl, Nat.le_of_ble_eq_true rfl⟩, hg _ m_378, hg _ m_379⟩ (zz_preV hK hP 31 rfl rfl) rfl rfl hl.1 rfl (lv_room (Nat.le_of_ble_eq_true rfl)) d_St_isAssumed_2 ⟨Nat.le_refl _, Nat.le_refl _⟩) ?_
  refine lv_if_eq (tgt := 21) hx hb d_St_isAssumed_5 (by decide) (fun hc => ?_) (fun hc => ?_)
  · have hv := hv.trans (if_pos hc)
    have hk := hk.1 hc
    exact B21 _  hv hk (lv_sub hl [] rfl)
  · have hv := hv.trans (if_neg hc)
    have hk := hk.2 hc
    refine lv_aload_n hx hb d_St_isAssumed_8 rfl (lv_at hl 0 rfl) ?_
    refine va_get (v := .ref (h 35)) (C := R_St) (T := T_St) (N := 5) hx hb hg in_St hown hK hP 31 rfl rfl 3 (by decide) (hg _ m_271) (fun _ h9 => h9) rfl d_St_isAssumed_9 ?_
    refine lv_iload_n hx hb d_St_isAssumed_12 rfl (lv_at hl 1 rfl) ?_
    obtain ⟨hk0, hk⟩ := hk
    refine va_zald hx hb hK hP 35 3 rfl rfl hk0 d_St_isAssumed_13 ?_
    refine lv_if_eq (tgt := 21) hx hb d_St_isAssumed_14 (by decide) (fun hc => ?_) (fun hc => ?_)
    · have hv := hv.trans (if_pos hc)
      have hk := hk.1 hc
      exact B21 _  hv hk (lv_sub hl [] rfl)
    · have hv := hv.trans (if_neg hc)
      have hk := hk.2 hc
      refine lv_iconst (v := 1) hx hb d_St_isAssumed_17 (by decide) ?_
      refine lv_goto (tgt := 22) hx hb d_St_isAssumed_18 (by decide) ?_
      exact B22 _ 1 hv hk (lv_sub hl [] rfl)

-- ClauseLedger$Steps.holds(II)Z
abbrev b_St_holds : ByteArray := prog_9_method_9_code
def y_St_holds : MethodName := ⟨"ClauseLedger$Steps", "holds", "(II)Z"⟩
theorem hd_St_holds : y_St_holds.cls ≠ "java/lang/invoke/MethodHandle" ∧ y_St_holds.cls ≠ "java/lang/invoke/VarHandle" ∧ (parseMethodDescriptor y_St_holds.desc).map (fun d => d.parameters.length) = some 2 := by decide +kernel
theorem d_St_holds_0 : decode b_St_holds 0 = .ok (.iconst 0, 1) := by decide +kernel
theorem d_St_holds_1 : decode b_St_holds 1 = .ok (.istore_n 3, 1) := by decide +kernel
theorem d_St_holds_2 : decode b_St_holds 2 = .ok (.iload_n 3, 1) := by decide +kernel
theorem d_St_holds_3 : decode b_St_holds 3 = .ok (.aload_n 0, 1) := by decide +kernel
theorem d_St_holds_4 : decode b_St_holds 4 = .ok (.iload_n 1, 1) := by decide +kernel
theorem d_St_holds_5 : decode b_St_holds 5 = .ok (.invokevirtual 33, 3) := by decide +kernel
theorem d_St_holds_8 : decode b_St_holds 8 = .ok (.if_icmp .ge 21, 3) := by decide +kernel
theorem d_St_holds_11 : decode b_St_holds 11 = .ok (.aload_n 0, 1) := by decide +kernel
theorem d_St_holds_12 : decode b_St_holds 12 = .ok (.iload_n 1, 1) := by decide +kernel
theorem d_St_holds_13 : decode b_St_holds 13 = .ok (.iload_n 3, 1) := by decide +kernel
theorem d_St_holds_14 : decode b_St_holds 14 = .ok (.invokevirtual 37, 3) := by decide +kernel
theorem d_St_holds_17 : decode b_St_holds 17 = .ok (.iload_n 2, 1) := by decide +kernel
theorem d_St_holds_18 : decode b_St_holds 18 = .ok (.if_icmp .ne 5, 3) := by decide +kernel
theorem d_St_holds_21 : decode b_St_holds 21 = .ok (.iconst 1, 1) := by decide +kernel
theorem d_St_holds_22 : decode b_St_holds 22 = .ok (.ireturn, 1) := by decide +kernel
theorem d_St_holds_23 : decode b_St_holds 23 = .ok (.iinc 3 1, 3) := by decide +kernel
theorem d_St_holds_26 : decode b_St_holds 26 = .ok (.goto (-24), 3) := by decide +kernel
theorem d_St_holds_29 : decode b_St_holds 29 = .ok (.iconst 0, 1) := by decide +kernel
theorem d_St_holds_30 : decode b_St_holds 30 = .ok (.ireturn, 1) := by decide +kernel
def f_St_holds_2 : Nat → Int32 → Int32 → Int32 → St → Int32
  | 0, _, _, _, σ => 0
  | n + 1, x1, x2, x3, σ => if (f_St_sizeOf x1 σ) ≤ x3 then 0 else (if (f_St_truthOf x1 x3 σ) = x2 then 1 else ((f_St_holds_2 n) x1 x2 (x3 + 1) σ))
def k_St_holds_2 : Nat → Int32 → Int32 → Int32 → St → Prop
  | 0, _, _, _, _ => False
  | n + 1, x1, x2, x3, σ => (k_St_sizeOf x1 σ) ∧ (((f_St_sizeOf x1 σ) ≤ x3 → True) ∧ (¬ (f_St_sizeOf x1 σ) ≤ x3 → ((k_St_truthOf x1 x3 σ) ∧ (((f_St_truthOf x1 x3 σ) = x2 → True) ∧ (¬ (f_St_truthOf x1 x3 σ) = x2 → ((k_St_holds_2 n) x1 x2 (x3 + 1) σ))))))
def f_St_holds (a1 : Int32) (a2 : Int32) (σ : St) : Int32 := f_St_holds_2 1000 a1 a2 0 σ
def k_St_holds (a1 : Int32) (a2 : Int32) (σ : St) : Prop := k_St_holds_2 1000 a1 a2 0 σ
abbrev w_St_holds : List Cond := Cond.code y_St_holds b_St_holds 4 (some .boolean) :: gw
abbrev rm_St_holds : Room := { frames := 3, cells := 0, slots := 0, locals := 64 }
set_option maxHeartbeats 4000000 in
set_option maxRecDepth 100000 in
theorem c_St_holds (l : Launch) (D : va_G) (ty : Nat → ClassId) (h : Nat → Nat) (px : va_W) (σ : St) (a1 : Int32) (a2 : Int32) (hk : k_St_holds a1 a2 σ) : Met l y_St_holds w_St_holds rm_St_holds (va_Pc [.ref (h 31), .int a1, .int a2] (fun U => va_P D classes (Wc ty h σ px) U.heap ∧ va_K D classes (Ta ty) U)) (k2_QcV (.int (f_St_holds a1 a2 σ))) 0 0 (fun _ => False) := by
  refine Met.ofW (cc := b_St_holds) (maxL := 4) (ret := (some .boolean)) (by decide) rfl ?_
  intro p e s m args below meth c s₁ B hml hv
  obtain ⟨ha, hP, hK⟩ := hv
  have hx := B.exec
  have hb := B.bytes
  have hr := B.returns
  have hg : ∀ w ∈ gw, w.before args s = true := fun w h9 => atoms_spec (ws := w_St_holds) B.pre w (List.mem_cons_of_mem _ h9)
  have hown : s.vm.findClass "ClauseLedger$Steps" = some m.cls := findClass_of_methodNamed B.named
  have hlocks := B.notSynchronized
  have he : entryFrame m args 4 = entryFrame m ([.ref (h 31), .int a1, .int a2] : List Value).toArray 4 := by rw [ha]
  rw [he, lg_entry_eq]
  have hl := lv_entry ([.ref (h 31), .int a1, .int a2]) (n := 4) (Nat.le_of_ble_eq_true rfl)
  generalize (lg_sl ([.ref (h 31), .int a1, .int a2]) ++ List.replicate (4 - (lg_sl ([.ref (h 31), .int a1, .int a2])).length) Slot.unset).toArray = ls at hl ⊢
  have hl : lv_has ls 4 [(0, .ref (h 31)), (1, .int a1), (2, .int a2)] := hl
  generalize hv : f_St_holds a1 a2 σ = v
  replace hv := hv.symm
  have B2 : ∀ (n2 : Nat) (ls : Array Slot) (x1 : Int32) (x2 : Int32) (x3 : Int32), v = f_St_holds_2 n2 x1 x2 x3 σ → k_St_holds_2 n2 x1 x2 x3 σ → lv_has ls 4 [(0, .ref (h 31)), (1, .int x1), (2, .int x2), (3, .int x3)] → W p l e (headSpec w_St_holds rm_St_holds).room s m args below meth c s.heap [] 0 0 (MQ below (k2_QcV (.int v)) args s 0 0 (fun _ => False)) (F0 m 2 ls []) := by
    intro n2
    induction n2 with
    | zero => intro ls x1 x2 x3 hv hk hl; exact hk.elim
    | succ n2 ih2 =>
      intro ls x1 x2 x3 hv hk hl
      rw [f_St_holds_2] at hv
      rw [k_St_holds_2] at hk
      refine lv_iload_n hx hb d_St_holds_2 rfl (lv_at hl 3 rfl) ?_
      refine lv_aload_n hx hb d_St_holds_3 rfl (lv_at hl 0 rfl) ?_
      refine lv_iload_n hx hb d_St_holds_4 rfl (lv_at hl 1 rfl) ?_
      obtain ⟨hk0, hk⟩ := hk
      refine zz_callV (va_runV (As := [.int x1]) (rest := [.int x3]) ⟨hx, hb, hml, hown, hg⟩ (c_St_sizeOf l D ty h px σ x1 hk0) ⟨callB_of 1 hg (gw_C m_376) rfl rfl rfl (hg _ m_12) (hg _ m_385) hd_St_sizeOf ⟨Nat.le_of_ble_eq_true rfl, Nat.le_of_ble_eq_true rfl⟩, hg _ m_374, hg _ m_375⟩ (zz_preV hK hP 31 rfl rfl) rfl rfl hl.1 rfl (lv_room (Nat.le_of_ble_eq_true rfl)) d_St_holds_5 ⟨Nat.le_refl _, Nat.le_refl _⟩) ?_
      refine lv_icmp_ge (tgt := 29) hx hb d_St_holds_8 (by decide) (fun hc => ?_) (fun hc => ?_)
      · have hv := hv.trans (if_pos hc)
        have hk := hk.1 hc
        refine lv_iconst (v := 0) hx hb d_St_holds_29 (by decide) ?_
        exact W.zret hx hb hr rfl (fun t ht hW => ⟨by rw [hv], ht⟩) (fun q h => nomatch h) d_St_holds_30
      · have hv := hv.trans (if_neg hc)
        have hk := hk.2 hc
        refine lv_aload_n hx hb d_St_holds_11 rfl (lv_at hl 0 rfl) ?_
        refine lv_iload_n hx hb d_St_holds_12 rfl (lv_at hl 1 rfl) ?_
        refine lv_iload_n hx hb d_St_holds_13 rfl (lv_at hl 3 rfl) ?_
        obtain ⟨hk0, hk⟩ := hk
        refine zz_callV (va_runV (As := [.int x1, .int x3]) (rest := []) ⟨hx, hb, hml, hown, hg⟩ (c_St_truthOf l D ty h px σ x1 x3 hk0) ⟨callB_of 2 hg (gw_C m_384) rfl rfl rfl (hg _ m_12) (hg _ m_984) hd_St_truthOf ⟨Nat.le_of_ble_eq_true rfl, Nat.le_of_ble_eq_true rfl⟩, hg _ m_382, hg _ m_383⟩ (zz_preV hK hP 31 rfl rfl) rfl rfl hl.1 rfl (lv_room (Nat.le_of_ble_eq_true rfl)) d_St_holds_14 ⟨Nat.le_refl _, Nat.le_refl _⟩) ?_
        refine lv_iload_n hx hb d_St_holds_17 rfl (lv_at hl 2 rfl) ?_
        refine lv_icmp_ne (tgt := 23) hx hb d_St_holds_18 (by decide) (fun hc => ?_) (fun hc => ?_)
        · have hv := hv.trans (if_neg hc)
          have hk := hk.2 hc
          refine lv_iinc (k := 3) (v := x3 + 1) (lv' := [(3, .int (x3 + 1)), (0, .ref (h 31)), (1, .int x1), (2, .int x2)]) hx hb d_St_holds_23 hl rfl (by first | rfl | simp [lit1, litm1]) (by decide) rfl (fun ls hl => ?_)
          refine lv_goto (tgt := 2) hx hb d_St_holds_26 (by decide) ?_
          exact ih2 _ x1 x2 (x3 + 1) hv hk (lv_sub hl [1, 2, 3, 0] rfl)
        · have hv := hv.trans (if_pos hc)
          have hk := hk.1 hc
          refine lv_iconst (v := 1) hx hb d_St_holds_21 (by decide) ?_
          exact W.zret hx hb hr rfl (fun t ht hW => ⟨by rw [hv], ht⟩) (fun q h => nomatch h) d_St_holds_22
  unfold f_St_holds at hv
  unfold k_St_holds at hk
  refine lv_iconst (v := 0) hx hb d_St_holds_0 (by decide) ?_
  refine lv_istore_n (lv' := [(3, .int 0), (0, .ref (h 31)), (1, .int a1), (2, .int a2)]) hx hb d_St_holds_1 rfl hl (by decide) rfl (fun ls hl => ?_)
  exact B2 1000 _ a1 a2 0 hv hk (lv_sub hl [1, 2, 3, 0] rfl)

-- ClauseLedger$Steps.latestIn(I)I
abbrev b_St_latestIn : ByteArray := prog_9_method_10_code
def y_St_latestIn : MethodName := ⟨"ClauseLedger$Steps", "latestIn", "(I)I"⟩
theorem hd_St_latestIn : y_St_latestIn.cls ≠ "java/lang/invoke/MethodHandle" ∧ y_St_latestIn.cls ≠ "java/lang/invoke/VarHandle" ∧ (parseMethodDescriptor y_St_latestIn.desc).map (fun d => d.parameters.length) = some 1 := by decide +kernel
theorem d_St_latestIn_0 : decode b_St_latestIn 0 = .ok (.aload_n 0, 1) := by decide +kernel
theorem d_St_latestIn_1 : decode b_St_latestIn 1 = .ok (.getfield 25, 3) := by decide +kernel
theorem d_St_latestIn_4 : decode b_St_latestIn 4 = .ok (.iconst 1, 1) := by decide +kernel
theorem d_St_latestIn_5 : decode b_St_latestIn 5 = .ok (.isub, 1) := by decide +kernel
theorem d_St_latestIn_6 : decode b_St_latestIn 6 = .ok (.istore_n 2, 1) := by decide +kernel
theorem d_St_latestIn_7 : decode b_St_latestIn 7 = .ok (.iload_n 2, 1) := by decide +kernel
theorem d_St_latestIn_8 : decode b_St_latestIn 8 = .ok (.ifCond .lt 21, 3) := by decide +kernel
theorem d_St_latestIn_11 : decode b_St_latestIn 11 = .ok (.aload_n 0, 1) := by decide +kernel
theorem d_St_latestIn_12 : decode b_St_latestIn 12 = .ok (.getfield 18, 3) := by decide +kernel
theorem d_St_latestIn_15 : decode b_St_latestIn 15 = .ok (.iload_n 2, 1) := by decide +kernel
theorem d_St_latestIn_16 : decode b_St_latestIn 16 = .ok (.iaload, 1) := by decide +kernel
theorem d_St_latestIn_17 : decode b_St_latestIn 17 = .ok (.iload_n 1, 1) := by decide +kernel
theorem d_St_latestIn_18 : decode b_St_latestIn 18 = .ok (.if_icmp .ne 5, 3) := by decide +kernel
theorem d_St_latestIn_21 : decode b_St_latestIn 21 = .ok (.iload_n 2, 1) := by decide +kernel
theorem d_St_latestIn_22 : decode b_St_latestIn 22 = .ok (.ireturn, 1) := by decide +kernel
theorem d_St_latestIn_23 : decode b_St_latestIn 23 = .ok (.iinc 2 (-1), 3) := by decide +kernel
theorem d_St_latestIn_26 : decode b_St_latestIn 26 = .ok (.goto (-19), 3) := by decide +kernel
theorem d_St_latestIn_29 : decode b_St_latestIn 29 = .ok (.iconst (-1), 1) := by decide +kernel
theorem d_St_latestIn_30 : decode b_St_latestIn 30 = .ok (.ireturn, 1) := by decide +kernel
def f_St_latestIn_7 : Nat → Int32 → Int32 → St → Int32
  | 0, _, _, σ => 0
  | n + 1, x1, x2, σ => if x2 < 0 then (-1) else (if (σ.1 34 x2.toNatClampNeg) = x1 then x2 else ((f_St_latestIn_7 n) x1 (x2 + (-1)) σ))
def k_St_latestIn_7 : Nat → Int32 → Int32 → St → Prop
  | 0, _, _, _ => False
  | n + 1, x1, x2, σ => (x2 < 0 → True) ∧ (¬ x2 < 0 → (vp_in x2 60 ∧ (((σ.1 34 x2.toNatClampNeg) = x1 → True) ∧ (¬ (σ.1 34 x2.toNatClampNeg) = x1 → ((k_St_latestIn_7 n) x1 (x2 + (-1)) σ)))))
def f_St_latestIn (a1 : Int32) (σ : St) : Int32 := f_St_latestIn_7 1000 a1 ((σ.1 31 4) - 1) σ
def k_St_latestIn (a1 : Int32) (σ : St) : Prop := k_St_latestIn_7 1000 a1 ((σ.1 31 4) - 1) σ
abbrev w_St_latestIn : List Cond := Cond.code y_St_latestIn b_St_latestIn 3 (some .int) :: gw
abbrev rm_St_latestIn : Room := { frames := 0, cells := 0, slots := 0, locals := 0 }
set_option maxHeartbeats 4000000 in
set_option maxRecDepth 100000 in
theorem c_St_latestIn (l : Launch) (D : va_G) (ty : Nat → ClassId) (h : Nat → Nat) (px : va_W) (σ : St) (a1 : Int32) (hk : k_St_latestIn a1 σ) : Met l y_St_latestIn w_St_latestIn rm_St_latestIn (va_Pc [.ref (h 31), .int a1] (fun U => va_P D classes (Wc ty h σ px) U.heap ∧ va_K D classes (Ta ty) U)) (k2_QcV (.int (f_St_latestIn a1 σ))) 0 0 (fun _ => False) := by
  refine Met.ofW (cc := b_St_latestIn) (maxL := 3) (ret := (some .int)) (by decide) rfl ?_
  intro p e s m args below meth c s₁ B hml hv
  obtain ⟨ha, hP, hK⟩ := hv
  have hx := B.exec
  have hb := B.bytes
  have hr := B.returns
  have hg : ∀ w ∈ gw, w.before args s = true := fun w h9 => atoms_spec (ws := w_St_latestIn) B.pre w (List.mem_cons_of_mem _ h9)
  have hown : s.vm.findClass "ClauseLedger$Steps" = some m.cls := findClass_of_methodNamed B.named
  have hlocks := B.notSynchronized
  have he : entryFrame m args 3 = entryFrame m ([.ref (h 31), .int a1] : List Value).toArray 3 := by rw [ha]
  rw [he, lg_entry_eq]
  have hl := lv_entry ([.ref (h 31), .int a1]) (n := 3) (Nat.le_of_ble_eq_true rfl)
  generalize (lg_sl ([.ref (h 31), .int a1]) ++ List.replicate (3 - (lg_sl ([.ref (h 31), .int a1])).length) Slot.unset).toArray = ls at hl ⊢
  have hl : lv_has ls 3 [(0, .ref (h 31)), (1, .int a1)] := hl
  generalize hv : f_St_latestIn a1 σ = v
  replace hv := hv.symm
  have B7 : ∀ (n7 : Nat) (ls : Array Slot) (x1 : Int32) (x2 : Int32), v = f_St_latestIn_7 n7 x1 x2 σ → k_St_latestIn_7 n7 x1 x2 σ → lv_has ls 3 [(0, .ref (h 31)), (1, .int x1), (2, .int x2)] → W p l e (headSpec w_St_latestIn rm_St_latestIn).room s m args below meth c s.heap [] 0 0 (MQ below (k2_QcV (.int v)) args s 0 0 (fun _ => False)) (F0 m 7 ls []) := by
    intro n7
    induction n7 with
    | zero => intro ls x1 x2 hv hk hl; exact hk.elim
    | succ n7 ih7 =>
      intro ls x1 x2 hv hk hl
      rw [f_St_latestIn_7] at hv
      rw [k_St_latestIn_7] at hk
      refine lv_iload_n hx hb d_St_latestIn_7 rfl (lv_at hl 2 rfl) ?_
      refine lv_if_lt (tgt := 29) hx hb d_St_latestIn_8 (by decide) (fun hc => ?_) (fun hc => ?_)
      · have hv := hv.trans (if_pos hc)
        have hk := hk.1 hc
        refine lv_iconst (v := -1) hx hb d_St_latestIn_29 (by decide) ?_
        exact W.iret hx hb hr (fun t ht hW => ⟨by rw [hv], ht⟩) (fun q h => nomatch h) d_St_latestIn_30
      · have hv := hv.trans (if_neg hc)
        have hk := hk.2 hc
        refine lv_aload_n hx hb d_St_latestIn_11 rfl (lv_at hl 0 rfl) ?_
        refine va_get (v := .ref (h 34)) (C := R_St) (T := T_St) (N := 5) hx hb hg in_St hown hK hP 31 rfl rfl 2 (by decide) (hg _ m_270) (fun _ h9 => h9) rfl d_St_latestIn_12 ?_
        refine lv_iload_n hx hb d_St_latestIn_15 rfl (lv_at hl 2 rfl) ?_
        obtain ⟨hk0, hk⟩ := hk
        refine va_iald hx hb hK hP 34 0 rfl rfl hk0 d_St_latestIn_16 ?_
        refine lv_iload_n hx hb d_St_latestIn_17 rfl (lv_at hl 1 rfl) ?_
        refine lv_icmp_ne (tgt := 23) hx hb d_St_latestIn_18 (by decide) (fun hc => ?_) (fun hc => ?_)
        · have hv := hv.trans (if_neg hc)
          have hk := hk.2 hc
          refine lv_iinc (k := 2) (v := x2 + (-1)) (lv' := [(2, .int (x2 + (-1))), (0, .ref (h 31)), (1, .int x1)]) hx hb d_St_latestIn_23 hl rfl (by first | rfl | simp [lit1, litm1]) (by decide) rfl (fun ls hl => ?_)
          refine lv_goto (tgt := 7) hx hb d_St_latestIn_26 (by decide) ?_
          exact ih7 _ x1 (x2 + (-1)) hv hk (lv_sub hl [1, 2, 0] rfl)
        · have hv := hv.trans (if_pos hc)
          have hk := hk.1 hc
          refine lv_iload_n hx hb d_St_latestIn_21 rfl (lv_at hl 2 rfl) ?_
          exact W.iret hx hb hr (fun t ht hW => ⟨by rw [hv], ht⟩) (fun q h => nomatch h) d_St_latestIn_22
  unfold f_St_latestIn at hv
  unfold k_St_latestIn at hk
  refine lv_aload_n hx hb d_St_latestIn_0 rfl (lv_at hl 0 rfl) ?_
  refine va_get (v := .int (σ.1 31 4)) (C := R_St) (T := T_St) (N := 5) hx hb hg in_St hown hK hP 31 rfl rfl 4 (by decide) (hg _ m_272) (fun _ h9 => h9) rfl d_St_latestIn_1 ?_
  refine lv_iconst (v := 1) hx hb d_St_latestIn_4 (by decide) ?_
  refine lv_isub hx hb d_St_latestIn_5 ?_
  refine lv_istore_n (lv' := [(2, .int ((σ.1 31 4) - 1)), (0, .ref (h 31)), (1, .int a1)]) hx hb d_St_latestIn_6 rfl hl (by decide) rfl (fun ls hl => ?_)
  exact B7 1000 _ a1 ((σ.1 31 4) - 1) hv hk (lv_sub hl [1, 2, 0] rfl)

