-- ClauseLedger$Scopes.innermost()I
abbrev b_Sc_innermost : ByteArray := prog_7_method_2_code
def y_Sc_innermost : MethodName := ⟨"ClauseLedger$Scopes", "innermost", "()I"⟩
theorem hd_Sc_innermost : y_Sc_innermost.cls ≠ "java/lang/invoke/MethodHandle" ∧ y_Sc_innermost.cls ≠ "java/lang/invoke/VarHandle" ∧ (parseMethodDescriptor y_Sc_innermost.desc).map (fun d => d.parameters.length) = some 0 := by decide +kernel
theorem d_Sc_innermost_0 : decode b_Sc_innermost 0 = .ok (.aload_n 0, 1) := by decide +kernel
theorem d_Sc_innermost_1 : decode b_Sc_innermost 1 = .ok (.getfield 26, 3) := by decide +kernel
theorem d_Sc_innermost_4 : decode b_Sc_innermost 4 = .ok (.ireturn, 1) := by decide +kernel
def f_Sc_innermost (σ : St) : Int32 := σ.1 27 4
def k_Sc_innermost (σ : St) : Prop := True
abbrev w_Sc_innermost : List Cond := Cond.code y_Sc_innermost b_Sc_innermost 1 (some .int) :: gw
abbrev rm_Sc_innermost : Room := { frames := 0, cells := 0, slots := 0, locals := 0 }
set_option maxHeartbeats 4000000 in
set_option maxRecDepth 100000 in
theorem c_Sc_innermost (l : Launch) (D : va_G) (ty : Nat → ClassId) (h : Nat → Nat) (px : va_W) (σ : St) (hk : k_Sc_innermost σ) : Met l y_Sc_innermost w_Sc_innermost rm_Sc_innermost (va_Pc [.ref (h 27)] (fun U => va_P D classes (Wc ty h σ px) U.heap ∧ va_K D classes (Ta ty) U)) (k2_QcV (.int (f_Sc_innermost σ))) 0 0 (fun _ => False) := by
  refine Met.ofW (cc := b_Sc_innermost) (maxL := 1) (ret := (some .int)) (by decide) rfl ?_
  intro p e s m args below meth c s₁ B hml hv
  obtain ⟨ha, hP, hK⟩ := hv
  have hx := B.exec
  have hb := B.bytes
  have hr := B.returns
  have hg : ∀ w ∈ gw, w.before args s = true := fun w h9 => atoms_spec (ws := w_Sc_innermost) B.pre w (List.mem_cons_of_mem _ h9)
  have hown : s.vm.findClass "ClauseLedger$Scopes" = some m.cls := findClass_of_methodNamed B.named
  have hlocks := B.notSynchronized
  have he : entryFrame m args 1 = entryFrame m ([.ref (h 27)] : List Value).toArray 1 := by rw [ha]
  rw [he, lg_entry_eq]
  have hl := lv_entry ([.ref (h 27)]) (n := 1) (Nat.le_of_ble_eq_true rfl)
  generalize (lg_sl ([.ref (h 27)]) ++ List.replicate (1 - (lg_sl ([.ref (h 27)])).length) Slot.unset).toArray = ls at hl ⊢
  have hl : lv_has ls 1 [(0, .ref (h 27))] := hl
  generalize hv : f_Sc_innermost σ = v
  replace hv := hv.symm
  unfold f_Sc_innermost at hv
  unfold k_Sc_innermost at hk
  refine lv_aload_n hx hb d_Sc_innermost_0 rfl (lv_at hl 0 rfl) ?_
  refine va_get (v := .int (σ.1 27 4)) (C := R_Sc) (T := T_Sc) (N := 5) hx hb hg in_Sc hown hK hP 27 rfl rfl 4 (by decide) (hg _ m_249) (fun _ h9 => h9) rfl d_Sc_innermost_1 ?_
  exact W.iret hx hb hr (fun t ht hW => ⟨by rw [hv], ht⟩) (fun q h => nomatch h) d_Sc_innermost_4

-- ClauseLedger$Scopes.isFull()Z
abbrev b_Sc_isFull : ByteArray := prog_7_method_3_code
def y_Sc_isFull : MethodName := ⟨"ClauseLedger$Scopes", "isFull", "()Z"⟩
theorem hd_Sc_isFull : y_Sc_isFull.cls ≠ "java/lang/invoke/MethodHandle" ∧ y_Sc_isFull.cls ≠ "java/lang/invoke/VarHandle" ∧ (parseMethodDescriptor y_Sc_isFull.desc).map (fun d => d.parameters.length) = some 0 := by decide +kernel
theorem d_Sc_isFull_0 : decode b_Sc_isFull 0 = .ok (.aload_n 0, 1) := by decide +kernel
theorem d_Sc_isFull_1 : decode b_Sc_isFull 1 = .ok (.getfield 22, 3) := by decide +kernel
theorem d_Sc_isFull_4 : decode b_Sc_isFull 4 = .ok (.bipush 20, 2) := by decide +kernel
theorem d_Sc_isFull_6 : decode b_Sc_isFull 6 = .ok (.if_icmp .le 7, 3) := by decide +kernel
theorem d_Sc_isFull_9 : decode b_Sc_isFull 9 = .ok (.iconst 1, 1) := by decide +kernel
theorem d_Sc_isFull_10 : decode b_Sc_isFull 10 = .ok (.goto 4, 3) := by decide +kernel
theorem d_Sc_isFull_13 : decode b_Sc_isFull 13 = .ok (.iconst 0, 1) := by decide +kernel
theorem d_Sc_isFull_14 : decode b_Sc_isFull 14 = .ok (.ireturn, 1) := by decide +kernel
def f_Sc_isFull_14 (s0 : Int32) (σ : St) : Int32 := s0
def k_Sc_isFull_14 (s0 : Int32) (σ : St) : Prop := (narrow .boolean (.int s0) = .int s0) ∧ True
def f_Sc_isFull (σ : St) : Int32 := if (σ.1 27 3) ≤ 20 then (f_Sc_isFull_14 0 σ) else (f_Sc_isFull_14 1 σ)
def k_Sc_isFull (σ : St) : Prop := ((σ.1 27 3) ≤ 20 → (k_Sc_isFull_14 0 σ)) ∧ (¬ (σ.1 27 3) ≤ 20 → (k_Sc_isFull_14 1 σ))
abbrev w_Sc_isFull : List Cond := Cond.code y_Sc_isFull b_Sc_isFull 1 (some .boolean) :: gw
abbrev rm_Sc_isFull : Room := { frames := 0, cells := 0, slots := 0, locals := 0 }
set_option maxHeartbeats 4000000 in
set_option maxRecDepth 100000 in
theorem c_Sc_isFull (l : Launch) (D : va_G) (ty : Nat → ClassId) (h : Nat → Nat) (px : va_W) (σ : St) (hk : k_Sc_isFull σ) : Met l y_Sc_isFull w_Sc_isFull rm_Sc_isFull (va_Pc [.ref (h 27)] (fun U => va_P D classes (Wc ty h σ px) U.heap ∧ va_K D classes (Ta ty) U)) (k2_QcV (.int (f_Sc_isFull σ))) 0 0 (fun _ => False) := by
  refine Met.ofW (cc := b_Sc_isFull) (maxL := 1) (ret := (some .boolean)) (by decide) rfl ?_
  intro p e s m args below meth c s₁ B hml hv
  obtain ⟨ha, hP, hK⟩ := hv
  have hx := B.exec
  have hb := B.bytes
  have hr := B.returns
  have hg : ∀ w ∈ gw, w.before args s = true := fun w h9 => atoms_spec (ws := w_Sc_isFull) B.pre w (List.mem_cons_of_mem _ h9)
  have hown : s.vm.findClass "ClauseLedger$Scopes" = some m.cls := findClass_of_methodNamed B.named
  have hlocks := B.notSynchronized
  have he : entryFrame m args 1 = entryFrame m ([.ref (h 27)] : List Value).toArray 1 := by rw [ha]
  rw [he, lg_entry_eq]
  have hl := lv_entry ([.ref (h 27)]) (n := 1) (Nat.le_of_ble_eq_true rfl)
  generalize (lg_sl ([.ref (h 27)]) ++ List.replicate (1 - (lg_sl ([.ref (h 27)])).length) Slot.unset).toArray = ls at hl ⊢
  have hl : lv_has ls 1 [(0, .ref (h 27))] := hl
  generalize hv : f_Sc_isFull σ = v
  replace hv := hv.symm
  have B14 : ∀ (ls : Array Slot) (s0 : Int32), v = f_Sc_isFull_14 s0 σ → k_Sc_isFull_14 s0 σ → lv_has ls 1 [] → W p l e (headSpec w_Sc_isFull rm_Sc_isFull).room s m args below meth c s.heap [] 0 0 (MQ below (k2_QcV (.int v)) args s 0 0 (fun _ => False)) (F0 m 14 ls [.int s0]) := by
    intro ls s0 hv hk hl
    unfold f_Sc_isFull_14 at hv
    unfold k_Sc_isFull_14 at hk
    obtain ⟨hk0, hk⟩ := hk
    exact W.zret hx hb hr hk0 (fun t ht hW => ⟨by rw [hv], ht⟩) (fun q h => nomatch h) d_Sc_isFull_14
  unfold f_Sc_isFull at hv
  unfold k_Sc_isFull at hk
  refine lv_aload_n hx hb d_Sc_isFull_0 rfl (lv_at hl 0 rfl) ?_
  refine va_get (v := .int (σ.1 27 3)) (C := R_Sc) (T := T_Sc) (N := 5) hx hb hg in_Sc hown hK hP 27 rfl rfl 3 (by decide) (hg _ m_248) (fun _ h9 => h9) rfl d_Sc_isFull_1 ?_
  refine lv_bipush (v := 20) hx hb d_Sc_isFull_4 (by decide) ?_
  refine lv_icmp_le (tgt := 13) hx hb d_Sc_isFull_6 (by decide) (fun hc => ?_) (fun hc => ?_)
  · have hv := hv.trans (if_pos hc)
    have hk := hk.1 hc
    refine lv_iconst (v := 0) hx hb d_Sc_isFull_13 (by decide) ?_
    exact B14 _ 0 hv hk (lv_sub hl [] rfl)
  · have hv := hv.trans (if_neg hc)
    have hk := hk.2 hc
    refine lv_iconst (v := 1) hx hb d_Sc_isFull_9 (by decide) ?_
    refine lv_goto (tgt := 14) hx hb d_Sc_isFull_10 (by decide) ?_
    exact B14 _ 1 hv hk (lv_sub hl [] rfl)

-- ClauseLedger$Scopes.has(I)Z
abbrev b_Sc_has : ByteArray := prog_7_method_9_code
def y_Sc_has : MethodName := ⟨"ClauseLedger$Scopes", "has", "(I)Z"⟩
theorem hd_Sc_has : y_Sc_has.cls ≠ "java/lang/invoke/MethodHandle" ∧ y_Sc_has.cls ≠ "java/lang/invoke/VarHandle" ∧ (parseMethodDescriptor y_Sc_has.desc).map (fun d => d.parameters.length) = some 1 := by decide +kernel
theorem d_Sc_has_0 : decode b_Sc_has 0 = .ok (.iload_n 1, 1) := by decide +kernel
theorem d_Sc_has_1 : decode b_Sc_has 1 = .ok (.ifCond .lt 15, 3) := by decide +kernel
theorem d_Sc_has_4 : decode b_Sc_has 4 = .ok (.iload_n 1, 1) := by decide +kernel
theorem d_Sc_has_5 : decode b_Sc_has 5 = .ok (.aload_n 0, 1) := by decide +kernel
theorem d_Sc_has_6 : decode b_Sc_has 6 = .ok (.getfield 22, 3) := by decide +kernel
theorem d_Sc_has_9 : decode b_Sc_has 9 = .ok (.if_icmp .ge 7, 3) := by decide +kernel
theorem d_Sc_has_12 : decode b_Sc_has 12 = .ok (.iconst 1, 1) := by decide +kernel
theorem d_Sc_has_13 : decode b_Sc_has 13 = .ok (.goto 4, 3) := by decide +kernel
theorem d_Sc_has_16 : decode b_Sc_has 16 = .ok (.iconst 0, 1) := by decide +kernel
theorem d_Sc_has_17 : decode b_Sc_has 17 = .ok (.ireturn, 1) := by decide +kernel
def f_Sc_has_17 (s0 : Int32) (σ : St) : Int32 := s0
def k_Sc_has_17 (s0 : Int32) (σ : St) : Prop := (narrow .boolean (.int s0) = .int s0) ∧ True
def f_Sc_has_16 (σ : St) : Int32 := f_Sc_has_17 0 σ
def k_Sc_has_16 (σ : St) : Prop := k_Sc_has_17 0 σ
def f_Sc_has (a1 : Int32) (σ : St) : Int32 := if a1 < 0 then (f_Sc_has_16 σ) else (if (σ.1 27 3) ≤ a1 then (f_Sc_has_16 σ) else (f_Sc_has_17 1 σ))
def k_Sc_has (a1 : Int32) (σ : St) : Prop := (a1 < 0 → (k_Sc_has_16 σ)) ∧ (¬ a1 < 0 → (((σ.1 27 3) ≤ a1 → (k_Sc_has_16 σ)) ∧ (¬ (σ.1 27 3) ≤ a1 → (k_Sc_has_17 1 σ))))
abbrev w_Sc_has : List Cond := Cond.code y_Sc_has b_Sc_has 2 (some .boolean) :: gw
abbrev rm_Sc_has : Room := { frames := 0, cells := 0, slots := 0, locals := 0 }
set_option maxHeartbeats 4000000 in
set_option maxRecDepth 100000 in
theorem c_Sc_has (l : Launch) (D : va_G) (ty : Nat → ClassId) (h : Nat → Nat) (px : va_W) (σ : St) (a1 : Int32) (hk : k_Sc_has a1 σ) : Met l y_Sc_has w_Sc_has rm_Sc_has (va_Pc [.ref (h 27), .int a1] (fun U => va_P D classes (Wc ty h σ px) U.heap ∧ va_K D classes (Ta ty) U)) (k2_QcV (.int (f_Sc_has a1 σ))) 0 0 (fun _ => False) := by
  refine Met.ofW (cc := b_Sc_has) (maxL := 2) (ret := (some .boolean)) (by decide) rfl ?_
  intro p e s m args below meth c s₁ B hml hv
  obtain ⟨ha, hP, hK⟩ := hv
  have hx := B.exec
  have hb := B.bytes
  have hr := B.returns
  have hg : ∀ w ∈ gw, w.before args s = true := fun w h9 => atoms_spec (ws := w_Sc_has) B.pre w (List.mem_cons_of_mem _ h9)
  have hown : s.vm.findClass "ClauseLedger$Scopes" = some m.cls := findClass_of_methodNamed B.named
  have hlocks := B.notSynchronized
  have he : entryFrame m args 2 = entryFrame m ([.ref (h 27), .int a1] : List Value).toArray 2 := by rw [ha]
  rw [he, lg_entry_eq]
  have hl := lv_entry ([.ref (h 27), .int a1]) (n := 2) (Nat.le_of_ble_eq_true rfl)
  generalize (lg_sl ([.ref (h 27), .int a1]) ++ List.replicate (2 - (lg_sl ([.ref (h 27), .int a1])).length) Slot.unset).toArray = ls at hl ⊢
  have hl : lv_has ls 2 [(0, .ref (h 27)), (1, .int a1)] := hl
  generalize hv : f_Sc_has a1 σ = v
  replace hv := hv.symm
  have B17 : ∀ (ls : Array Slot) (s0 : Int32), v = f_Sc_has_17 s0 σ → k_Sc_has_17 s0 σ → lv_has ls 2 [] → W p l e (headSpec w_Sc_has rm_Sc_has).room s m args below meth c s.heap [] 0 0 (MQ below (k2_QcV (.int v)) args s 0 0 (fun _ => False)) (F0 m 17 ls [.int s0]) := by
    intro ls s0 hv hk hl
    unfold f_Sc_has_17 at hv
    unfold k_Sc_has_17 at hk
    obtain ⟨hk0, hk⟩ := hk
    exact W.zret hx hb hr hk0 (fun t ht hW => ⟨by rw [hv], ht⟩) (fun q h => nomatch h) d_Sc_has_17
  have B16 : ∀ (ls : Array Slot), v = f_Sc_has_16 σ → k_Sc_has_16 σ → lv_has ls 2 [] → W p l e (headSpec w_Sc_has rm_Sc_has).room s m args below meth c s.heap [] 0 0 (MQ below (k2_QcV (.int v)) args s 0 0 (fun _ => False)) (F0 m 16 ls []) := by
    intro ls hv hk hl
    unfold f_Sc_has_16 at hv
    unfold k_Sc_has_16 at hk
    refine lv_iconst (v := 0) hx hb d_Sc_has_16 (by decide) ?_
    exact B17 _ 0 hv hk (lv_sub hl [] rfl)
  unfold f_Sc_has at hv
  unfold k_Sc_has at hk
  refine lv_iload_n hx hb d_Sc_has_0 rfl (lv_at hl 1 rfl) ?_
  refine lv_if_lt (tgt := 16) hx hb d_Sc_has_1 (by decide) (fun hc => ?_) (fun hc => ?_)
  · have hv := hv.trans (if_pos hc)
    have hk := hk.1 hc
    exact B16 _  hv hk (lv_sub hl [] rfl)
  · have hv := hv.trans (if_neg hc)
    have hk := hk.2 hc
    refine lv_iload_n hx hb d_Sc_has_4 rfl (lv_at hl 1 rfl) ?_
    refine lv_aload_n hx hb d_Sc_has_5 rfl (lv_at hl 0 rfl) ?_
    refine va_get (v := .int (σ.1 27 3)) (C := R_Sc) (T := T_Sc) (N := 5) hx hb hg in_Sc hown hK hP 27 rfl rfl 3 (by decide) (hg _ m_248) (fun _ h9 => h9) rfl d_Sc_has_6 ?_
    refine lv_icmp_ge (tgt := 16) hx hb d_Sc_has_9 (by decide) (fun hc => ?_) (fun hc => ?_)
    · have hv := hv.trans (if_pos hc)
      have hk := hk.1 hc
      exact B16 _  hv hk (lv_sub hl [] rfl)
    · have hv := hv.trans (if_neg hc)
      have hk := hk.2 hc
      refine lv_iconst (v := 1) hx hb d_Sc_has_12 (by decide) ?_
      refine lv_goto (tgt := 17) hx hb d_Sc_has_13 (by decide) ?_
      exact B17 _ 1 hv hk (lv_sub hl [] rfl)

-- ClauseLedger$Scopes.around(I)I
abbrev b_Sc_around : ByteArray := prog_7_method_4_code
def y_Sc_around : MethodName := ⟨"ClauseLedger$Scopes", "around", "(I)I"⟩
theorem hd_Sc_around : y_Sc_around.cls ≠ "java/lang/invoke/MethodHandle" ∧ y_Sc_around.cls ≠ "java/lang/invoke/VarHandle" ∧ (parseMethodDescriptor y_Sc_around.desc).map (fun d => d.parameters.length) = some 1 := by decide +kernel
theorem d_Sc_around_0 : decode b_Sc_around 0 = .ok (.aload_n 0, 1) := by decide +kernel
theorem d_Sc_around_1 : decode b_Sc_around 1 = .ok (.iload_n 1, 1) := by decide +kernel
theorem d_Sc_around_2 : decode b_Sc_around 2 = .ok (.invokevirtual 29, 3) := by decide +kernel
theorem d_Sc_around_5 : decode b_Sc_around 5 = .ok (.ifCond .eq 12, 3) := by decide +kernel
theorem d_Sc_around_8 : decode b_Sc_around 8 = .ok (.aload_n 0, 1) := by decide +kernel
theorem d_Sc_around_9 : decode b_Sc_around 9 = .ok (.getfield 9, 3) := by decide +kernel
theorem d_Sc_around_12 : decode b_Sc_around 12 = .ok (.iload_n 1, 1) := by decide +kernel
theorem d_Sc_around_13 : decode b_Sc_around 13 = .ok (.iaload, 1) := by decide +kernel
theorem d_Sc_around_14 : decode b_Sc_around 14 = .ok (.goto 4, 3) := by decide +kernel
theorem d_Sc_around_17 : decode b_Sc_around 17 = .ok (.iconst 0, 1) := by decide +kernel
theorem d_Sc_around_18 : decode b_Sc_around 18 = .ok (.ireturn, 1) := by decide +kernel
def f_Sc_around_18 (s0 : Int32) (σ : St) : Int32 := s0
def k_Sc_around_18 (s0 : Int32) (σ : St) : Prop := True
def f_Sc_around (a1 : Int32) (σ : St) : Int32 := if (f_Sc_has a1 σ) = 0 then (f_Sc_around_18 0 σ) else (f_Sc_around_18 (σ.1 28 a1.toNatClampNeg) σ)
def k_Sc_around (a1 : Int32) (σ : St) : Prop := (k_Sc_has a1 σ) ∧ (((f_Sc_has a1 σ) = 0 → (k_Sc_around_18 0 σ)) ∧ (¬ (f_Sc_has a1 σ) = 0 → (vp_in a1 21 ∧ (k_Sc_around_18 (σ.1 28 a1.toNatClampNeg) σ))))
abbrev w_Sc_around : List Cond := Cond.code y_Sc_around b_Sc_around 2 (some .int) :: gw
abbrev rm_Sc_around : Room := { frames := 1, cells := 0, slots := 0, locals := 21 }
set_option maxHeartbeats 4000000 in
set_option maxRecDepth 100000 in
theorem c_Sc_around (l : Launch) (D : va_G) (ty : Nat → ClassId) (h : Nat → Nat) (px : va_W) (σ : St) (a1 : Int32) (hk : k_Sc_around a1 σ) : Met l y_Sc_around w_Sc_around rm_Sc_around (va_Pc [.ref (h 27), .int a1] (fun U => va_P D classes (Wc ty h σ px) U.heap ∧ va_K D classes (Ta ty) U)) (k2_QcV (.int (f_Sc_around a1 σ))) 0 0 (fun _ => False) := by
  refine Met.ofW (cc := b_Sc_around) (maxL := 2) (ret := (some .int)) (by decide) rfl ?_
  intro p e s m args below meth c s₁ B hml hv
  obtain ⟨ha, hP, hK⟩ := hv
  have hx := B.exec
  have hb := B.bytes
  have hr := B.returns
  have hg : ∀ w ∈ gw, w.before args s = true := fun w h9 => atoms_spec (ws := w_Sc_around) B.pre w (List.mem_cons_of_mem _ h9)
  have hown : s.vm.findClass "ClauseLedger$Scopes" = some m.cls := findClass_of_methodNamed B.named
  have hlocks := B.notSynchronized
  have he : entryFrame m args 2 = entryFrame m ([.ref (h 27), .int a1] : List Value).toArray 2 := by rw [ha]
  rw [he, lg_entry_eq]
  have hl := lv_entry ([.ref (h 27), .int a1]) (n := 2) (Nat.le_of_ble_eq_true rfl)
  generalize (lg_sl ([.ref (h 27), .int a1]) ++ List.replicate (2 - (lg_sl ([.ref (h 27), .int a1])).length) Slot.unset).toArray = ls at hl ⊢
  have hl : lv_has ls 2 [(0, .ref (h 27)), (1, .int a1)] := hl
  generalize hv : f_Sc_around a1 σ = v
  replace hv := hv.symm
  have B18 : ∀ (ls : Array Slot) (s0 : Int32), v = f_Sc_around_18 s0 σ → k_Sc_around_18 s0 σ → lv_has ls 2 [] → W p l e (headSpec w_Sc_around rm_Sc_around).room s m args below meth c s.heap [] 0 0 (MQ below (k2_QcV (.int v)) args s 0 0 (fun _ => False)) (F0 m 18 ls [.int s0]) := by
    intro ls s0 hv hk hl
    unfold f_Sc_around_18 at hv
    unfold k_Sc_around_18 at hk
    exact W.iret hx hb hr (fun t ht hW => ⟨by rw [hv], ht⟩) (fun q h => nomatch h) d_Sc_around_18
  unfold f_Sc_around at hv
  unfold k_Sc_around at hk
  refine lv_aload_n hx hb d_Sc_around_0 rfl (lv_at hl 0 rfl) ?_
  refine lv_iload_n hx hb d_Sc_around_1 rfl (lv_at hl 1 rfl) ?_
  obtain ⟨hk0, hk⟩ := hk
  refine zz_callV (va_runV (As := [.int a1]) (rest := []) ⟨hx, hb, hml, hown, hg⟩ (c_Sc_has l D ty h px σ a1 hk0) ⟨callB_of 1 hg (gw_C m_402) rfl rfl rfl (hg _ m_11) (hg _ m_399) hd_Sc_has ⟨Nat.le_of_ble_eq_true rfl, Nat.le_of_ble_eq_true rfl⟩, hg _ m_401, hg _ ms_2⟩ (zz_preV hK hP 27 rfl rfl) rfl rfl hl.1 rfl (lv_room (Nat.le_of_ble_eq_true rfl)) d_Sc_around_2 ⟨Nat.le_refl _, Nat.le_refl _⟩) ?_
  refine lv_if_eq (tgt := 17) hx hb d_Sc_around_5 (by decide) (fun hc => ?_) (fun hc => ?_)
  · have hv := hv.trans (if_pos hc)
    have hk := hk.1 hc
    refine lv_iconst (v := 0) hx hb d_Sc_around_17 (by decide) ?_
    exact B18 _ 0 hv hk (lv_sub hl [] rfl)
  · have hv := hv.trans (if_neg hc)
    have hk := hk.2 hc
    refine lv_aload_n hx hb d_Sc_around_8 rfl (lv_at hl 0 rfl) ?_
    refine va_get (v := .ref (h 28)) (C := R_Sc) (T := T_Sc) (N := 5) hx hb hg in_Sc hown hK hP 27 rfl rfl 0 (by decide) (hg _ m_245) (fun _ h9 => h9) rfl d_Sc_around_9 ?_
    refine lv_iload_n hx hb d_Sc_around_12 rfl (lv_at hl 1 rfl) ?_
    obtain ⟨hk0, hk⟩ := hk
    refine va_iald hx hb hK hP 28 0 rfl rfl hk0 d_Sc_around_13 ?_
    refine lv_goto (tgt := 18) hx hb d_Sc_around_14 (by decide) ?_
    exact B18 _ (σ.1 28 a1.toNatClampNeg) hv hk (lv_sub hl [] rfl)

-- ClauseLedger$Scopes.depthOf(I)I
abbrev b_Sc_depthOf : ByteArray := prog_7_method_5_code
def y_Sc_depthOf : MethodName := ⟨"ClauseLedger$Scopes", "depthOf", "(I)I"⟩
theorem hd_Sc_depthOf : y_Sc_depthOf.cls ≠ "java/lang/invoke/MethodHandle" ∧ y_Sc_depthOf.cls ≠ "java/lang/invoke/VarHandle" ∧ (parseMethodDescriptor y_Sc_depthOf.desc).map (fun d => d.parameters.length) = some 1 := by decide +kernel
theorem d_Sc_depthOf_0 : decode b_Sc_depthOf 0 = .ok (.aload_n 0, 1) := by decide +kernel
theorem d_Sc_depthOf_1 : decode b_Sc_depthOf 1 = .ok (.iload_n 1, 1) := by decide +kernel
theorem d_Sc_depthOf_2 : decode b_Sc_depthOf 2 = .ok (.invokevirtual 29, 3) := by decide +kernel
theorem d_Sc_depthOf_5 : decode b_Sc_depthOf 5 = .ok (.ifCond .eq 12, 3) := by decide +kernel
theorem d_Sc_depthOf_8 : decode b_Sc_depthOf 8 = .ok (.aload_n 0, 1) := by decide +kernel
theorem d_Sc_depthOf_9 : decode b_Sc_depthOf 9 = .ok (.getfield 15, 3) := by decide +kernel
theorem d_Sc_depthOf_12 : decode b_Sc_depthOf 12 = .ok (.iload_n 1, 1) := by decide +kernel
theorem d_Sc_depthOf_13 : decode b_Sc_depthOf 13 = .ok (.iaload, 1) := by decide +kernel
theorem d_Sc_depthOf_14 : decode b_Sc_depthOf 14 = .ok (.goto 4, 3) := by decide +kernel
theorem d_Sc_depthOf_17 : decode b_Sc_depthOf 17 = .ok (.iconst 0, 1) := by decide +kernel
theorem d_Sc_depthOf_18 : decode b_Sc_depthOf 18 = .ok (.ireturn, 1) := by decide +kernel
def f_Sc_depthOf_18 (s0 : Int32) (σ : St) : Int32 := s0
def k_Sc_depthOf_18 (s0 : Int32) (σ : St) : Prop := True
def f_Sc_depthOf (a1 : Int32) (σ : St) : Int32 := if (f_Sc_has a1 σ) = 0 then (f_Sc_depthOf_18 0 σ) else (f_Sc_depthOf_18 (σ.1 29 a1.toNatClampNeg) σ)
def k_Sc_depthOf (a1 : Int32) (σ : St) : Prop := (k_Sc_has a1 σ) ∧ (((f_Sc_has a1 σ) = 0 → (k_Sc_depthOf_18 0 σ)) ∧ (¬ (f_Sc_has a1 σ) = 0 → (vp_in a1 21 ∧ (k_Sc_depthOf_18 (σ.1 29 a1.toNatClampNeg) σ))))
abbrev w_Sc_depthOf : List Cond := Cond.code y_Sc_depthOf b_Sc_depthOf 2 (some .int) :: gw
abbrev rm_Sc_depthOf : Room := { frames := 1, cells := 0, slots := 0, locals := 21 }
set_option maxHeartbeats 4000000 in
set_option maxRecDepth 100000 in
theorem c_Sc_depthOf (l : Launch) (D : va_G) (ty : Nat → ClassId) (h : Nat → Nat) (px : va_W) (σ : St) (a1 : Int32) (hk : k_Sc_depthOf a1 σ) : Met l y_Sc_depthOf w_Sc_depthOf rm_Sc_depthOf (va_Pc [.ref (h 27), .int a1] (fun U => va_P D classes (Wc ty h σ px) U.heap ∧ va_K D classes (Ta ty) U)) (k2_QcV (.int (f_Sc_depthOf a1 σ))) 0 0 (fun _ => False) := by
  refine Met.ofW (cc := b_Sc_depthOf) (maxL := 2) (ret := (some .int)) (by decide) rfl ?_
  intro p e s m args below meth c s₁ B hml hv
  obtain ⟨ha, hP, hK⟩ := hv
  have hx := B.exec
  have hb := B.bytes
  have hr := B.returns
  have hg : ∀ w ∈ gw, w.before args s = true := fun w h9 => atoms_spec (ws := w_Sc_depthOf) B.pre w (List.mem_cons_of_mem _ h9)
  have hown : s.vm.findClass "ClauseLedger$Scopes" = some m.cls := findClass_of_methodNamed B.named
  have hlocks := B.notSynchronized
  have he : entryFrame m args 2 = entryFrame m ([.ref (h 27), .int a1] : List Value).toArray 2 := by rw [ha]
  rw [he, lg_entry_eq]
  have hl := lv_entry ([.ref (h 27), .int a1]) (n := 2) (Nat.le_of_ble_eq_true rfl)
  generalize (lg_sl ([.ref (h 27), .int a1]) ++ List.replicate (2 - (lg_sl ([.ref (h 27), .int a1])).length) Slot.unset).toArray = ls at hl ⊢
  have hl : lv_has ls 2 [(0, .ref (h 27)), (1, .int a1)] := hl
  generalize hv : f_Sc_depthOf a1 σ = v
  replace hv := hv.symm
  have B18 : ∀ (ls : Array Slot) (s0 : Int32), v = f_Sc_depthOf_18 s0 σ → k_Sc_depthOf_18 s0 σ → lv_has ls 2 [] → W p l e (headSpec w_Sc_depthOf rm_Sc_depthOf).room s m args below meth c s.heap [] 0 0 (MQ below (k2_QcV (.int v)) args s 0 0 (fun _ => False)) (F0 m 18 ls [.int s0]) := by
    intro ls s0 hv hk hl
    unfold f_Sc_depthOf_18 at hv
    unfold k_Sc_depthOf_18 at hk
    exact W.iret hx hb hr (fun t ht hW => ⟨by rw [hv], ht⟩) (fun q h => nomatch h) d_Sc_depthOf_18
  unfold f_Sc_depthOf at hv
  unfold k_Sc_depthOf at hk
  refine lv_aload_n hx hb d_Sc_depthOf_0 rfl (lv_at hl 0 rfl) ?_
  refine lv_iload_n hx hb d_Sc_depthOf_1 rfl (lv_at hl 1 rfl) ?_
  obtain ⟨hk0, hk⟩ := hk
  refine zz_callV (va_runV (As := [.int a1]) (rest := []) ⟨hx, hb, hml, hown, hg⟩ (c_Sc_has l D ty h px σ a1 hk0) ⟨callB_of 1 hg (gw_C m_402) rfl rfl rfl (hg _ m_11) (hg _ m_399) hd_Sc_has ⟨Nat.le_of_ble_eq_true rfl, Nat.le_of_ble_eq_true rfl⟩, hg _ m_401, hg _ ms_2⟩ (zz_preV hK hP 27 rfl rfl) rfl rfl hl.1 rfl (lv_room (Nat.le_of_ble_eq_true rfl)) d_Sc_depthOf_2 ⟨Nat.le_refl _, Nat.le_refl _⟩) ?_
  refine lv_if_eq (tgt := 17) hx hb d_Sc_depthOf_5 (by decide) (fun hc => ?_) (fun hc => ?_)
  · have hv := hv.trans (if_pos hc)
    have hk := hk.1 hc
    refine lv_iconst (v := 0) hx hb d_Sc_depthOf_17 (by decide) ?_
    exact B18 _ 0 hv hk (lv_sub hl [] rfl)
  · have hv := hv.trans (if_neg hc)
    have hk := hk.2 hc
    refine lv_aload_n hx hb d_Sc_depthOf_8 rfl (lv_at hl 0 rfl) ?_
    refine va_get (v := .ref (h 29)) (C := R_Sc) (T := T_Sc) (N := 5) hx hb hg in_Sc hown hK hP 27 rfl rfl 1 (by decide) (hg _ m_246) (fun _ h9 => h9) rfl d_Sc_depthOf_9 ?_
    refine lv_iload_n hx hb d_Sc_depthOf_12 rfl (lv_at hl 1 rfl) ?_
    obtain ⟨hk0, hk⟩ := hk
    refine va_iald hx hb hK hP 29 0 rfl rfl hk0 d_Sc_depthOf_13 ?_
    refine lv_goto (tgt := 18) hx hb d_Sc_depthOf_14 (by decide) ?_
    exact B18 _ (σ.1 29 a1.toNatClampNeg) hv hk (lv_sub hl [] rfl)

-- ClauseLedger$Scopes.isClosed(I)Z
abbrev b_Sc_isClosed : ByteArray := prog_7_method_6_code
def y_Sc_isClosed : MethodName := ⟨"ClauseLedger$Scopes", "isClosed", "(I)Z"⟩
theorem hd_Sc_isClosed : y_Sc_isClosed.cls ≠ "java/lang/invoke/MethodHandle" ∧ y_Sc_isClosed.cls ≠ "java/lang/invoke/VarHandle" ∧ (parseMethodDescriptor y_Sc_isClosed.desc).map (fun d => d.parameters.length) = some 1 := by decide +kernel
theorem d_Sc_isClosed_0 : decode b_Sc_isClosed 0 = .ok (.aload_n 0, 1) := by decide +kernel
theorem d_Sc_isClosed_1 : decode b_Sc_isClosed 1 = .ok (.iload_n 1, 1) := by decide +kernel
theorem d_Sc_isClosed_2 : decode b_Sc_isClosed 2 = .ok (.invokevirtual 29, 3) := by decide +kernel
theorem d_Sc_isClosed_5 : decode b_Sc_isClosed 5 = .ok (.ifCond .eq 16, 3) := by decide +kernel
theorem d_Sc_isClosed_8 : decode b_Sc_isClosed 8 = .ok (.aload_n 0, 1) := by decide +kernel
theorem d_Sc_isClosed_9 : decode b_Sc_isClosed 9 = .ok (.getfield 18, 3) := by decide +kernel
theorem d_Sc_isClosed_12 : decode b_Sc_isClosed 12 = .ok (.iload_n 1, 1) := by decide +kernel
theorem d_Sc_isClosed_13 : decode b_Sc_isClosed 13 = .ok (.baload, 1) := by decide +kernel
theorem d_Sc_isClosed_14 : decode b_Sc_isClosed 14 = .ok (.ifCond .eq 7, 3) := by decide +kernel
theorem d_Sc_isClosed_17 : decode b_Sc_isClosed 17 = .ok (.iconst 1, 1) := by decide +kernel
theorem d_Sc_isClosed_18 : decode b_Sc_isClosed 18 = .ok (.goto 4, 3) := by decide +kernel
theorem d_Sc_isClosed_21 : decode b_Sc_isClosed 21 = .ok (.iconst 0, 1) := by decide +kernel
theorem d_Sc_isClosed_22 : decode b_Sc_isClosed 22 = .ok (.ireturn, 1) := by decide +kernel
def f_Sc_isClosed_22 (s0 : Int32) (σ : St) : Int32 := s0
def k_Sc_isClosed_22 (s0 : Int32) (σ : St) : Prop := (narrow .boolean (.int s0) = .int s0) ∧ True
def f_Sc_isClosed_21 (σ : St) : Int32 := f_Sc_isClosed_22 0 σ
def k_Sc_isClosed_21 (σ : St) : Prop := k_Sc_isClosed_22 0 σ
def f_Sc_isClosed (a1 : Int32) (σ : St) : Int32 := if (f_Sc_has a1 σ) = 0 then (f_Sc_isClosed_21 σ) else (if (σ.1 30 a1.toNatClampNeg) = 0 then (f_Sc_isClosed_21 σ) else (f_Sc_isClosed_22 1 σ))
def k_Sc_isClosed (a1 : Int32) (σ : St) : Prop := (k_Sc_has a1 σ) ∧ (((f_Sc_has a1 σ) = 0 → (k_Sc_isClosed_21 σ)) ∧ (¬ (f_Sc_has a1 σ) = 0 → (vp_in a1 21 ∧ (((σ.1 30 a1.toNatClampNeg) = 0 → (k_Sc_isClosed_21 σ)) ∧ (¬ (σ.1 30 a1.toNatClampNeg) = 0 → (k_Sc_isClosed_22 1 σ))))))
abbrev w_Sc_isClosed : List Cond := Cond.code y_Sc_isClosed b_Sc_isClosed 2 (some .boolean) :: gw
abbrev rm_Sc_isClosed : Room := { frames := 1, cells := 0, slots := 0, locals := 21 }
set_option maxHeartbeats 4000000 in
set_option maxRecDepth 100000 in
theorem c_Sc_isClosed (l : Launch) (D : va_G) (ty : Nat → ClassId) (h : Nat → Nat) (px : va_W) (σ : St) (a1 : Int32) (hk : k_Sc_isClosed a1 σ) : Met l y_Sc_isClosed w_Sc_isClosed rm_Sc_isClosed (va_Pc [.ref (h 27), .int a1] (fun U => va_P D classes (Wc ty h σ px) U.heap ∧ va_K D classes (Ta ty) U)) (k2_QcV (.int (f_Sc_isClosed a1 σ))) 0 0 (fun _ => False) := by
  refine Met.ofW (cc := b_Sc_isClosed) (maxL := 2) (ret := (some .boolean)) (by decide) rfl ?_
  intro p e s m args below meth c s₁ B hml hv
  obtain ⟨ha, hP, hK⟩ := hv
  have hx := B.exec
  have hb := B.bytes
  have hr := B.returns
  have hg : ∀ w ∈ gw, w.before args s = true := fun w h9 => atoms_spec (ws := w_Sc_isClosed) B.pre w (List.mem_cons_of_mem _ h9)
  have hown : s.vm.findClass "ClauseLedger$Scopes" = some m.cls := findClass_of_methodNamed B.named
  have hlocks := B.notSynchronized
  have he : entryFrame m args 2 = entryFrame m ([.ref (h 27), .int a1] : List Value).toArray 2 := by rw [ha]
  rw [he, lg_entry_eq]
  have hl := lv_entry ([.ref (h 27), .int a1]) (n := 2) (Nat.le_of_ble_eq_true rfl)
  generalize (lg_sl ([.ref (h 27), .int a1]) ++ List.replicate (2 - (lg_sl ([.ref (h 27), .int a1])).length) Slot.unset).toArray = ls at hl ⊢
  have hl : lv_has ls 2 [(0, .ref (h 27)), (1, .int a1)] := hl
  generalize hv : f_Sc_isClosed a1 σ = v
  replace hv := hv.symm
  have B22 : ∀ (ls : Array Slot) (s0 : Int32), v = f_Sc_isClosed_22 s0 σ → k_Sc_isClosed_22 s0 σ → lv_has ls 2 [] → W p l e (headSpec w_Sc_isClosed rm_Sc_isClosed).room s m args below meth c s.heap [] 0 0 (MQ below (k2_QcV (.int v)) args s 0 0 (fun _ => False)) (F0 m 22 ls [.int s0]) := by
    intro ls s0 hv hk hl
    unfold f_Sc_isClosed_22 at hv
    unfold k_Sc_isClosed_22 at hk
    obtain ⟨hk0, hk⟩ := hk
    exact W.zret hx hb hr hk0 (fun t ht hW => ⟨by rw [hv], ht⟩) (fun q h => nomatch h) d_Sc_isClosed_22
  have B21 : ∀ (ls : Array Slot), v = f_Sc_isClosed_21 σ → k_Sc_isClosed_21 σ → lv_has ls 2 [] → W p l e (headSpec w_Sc_isClosed rm_Sc_isClosed).room s m args below meth c s.heap [] 0 0 (MQ below (k2_QcV (.int v)) args s 0 0 (fun _ => False)) (F0 m 21 ls []) := by
    intro ls hv hk hl
    unfold f_Sc_isClosed_21 at hv
    unfold k_Sc_isClosed_21 at hk
    refine lv_iconst (v := 0) hx hb d_Sc_isClosed_21 (by decide) ?_
    exact B22 _ 0 hv hk (lv_sub hl [] rfl)
  unfold f_Sc_isClosed at hv
  unfold k_Sc_isClosed at hk
  refine lv_aload_n hx hb d_Sc_isClosed_0 rfl (lv_at hl 0 rfl) ?_
  refine lv_iload_n hx hb d_Sc_isClosed_1 rfl (lv_at hl 1 rfl) ?_
  obtain ⟨hk0, hk⟩ := hk
  refine zz_callV (va_runV (As := [.int a1]) (rest := []) ⟨hx, hb, hml, hown, hg⟩ (c_Sc_has l D ty h px σ a1 hk0) ⟨callB_of 1 hg (gw_C m_402) rfl rfl rfl (hg _ m_11) (hg _ m_399) hd_Sc_has ⟨Nat.le_of_ble_eq_true rfl, Nat.le_of_ble_eq_true rfl⟩, hg _ m_401, hg _ ms_2⟩ (zz_preV hK hP 27 rfl rfl) rfl rfl hl.1 rfl (lv_room (Nat.le_of_ble_eq_true rfl)) d_Sc_isClosed_2 ⟨Nat.le_refl _, Nat.le_refl _⟩) ?_
  refine lv_if_eq (tgt := 21) hx hb d_Sc_isClosed_5 (by decide) (fun hc => ?_) (fun hc => ?_)
  · have hv := hv.trans (if_pos hc)
    have hk := hk.1 hc
    exact B21 _  hv hk (lv_sub hl [] rfl)
  · have hv := hv.trans (if_neg hc)
    have hk := hk.2 hc
    refine lv_aload_n hx hb d_Sc_isClosed_8 rfl (lv_at hl 0 rfl) ?_
    refine va_get (v := .ref (h 30)) (C := R_Sc) (T := T_Sc) (N := 5) hx hb hg in_Sc hown hK hP 27 rfl rfl 2 (by decide) (hg _ m_247) (fun _ h9 => h9) rfl d_Sc_isClosed_9 ?_
    refine lv_iload_n hx hb d_Sc_isClosed_12 rfl (lv_at hl 1 rfl) ?_
    obtain ⟨hk0, hk⟩ := hk
    refine va_zald hx hb hK hP 30 3 rfl rfl hk0 d_Sc_isClosed_13 ?_
    refine lv_if_eq (tgt := 21) hx hb d_Sc_isClosed_14 (by decide) (fun hc => ?_) (fun hc => ?_)
    · have hv := hv.trans (if_pos hc)
      have hk := hk.1 hc
      exact B21 _  hv hk (lv_sub hl [] rfl)
    · have hv := hv.trans (if_neg hc)
      have hk := hk.2 hc
      refine lv_iconst (v := 1) hx hb d_Sc_isClosed_17 (by decide) ?_
      refine lv_goto (tgt := 22) hx hb d_Sc_isClosed_18 (by decide) ?_
      exact B22 _ 1 hv hk (lv_sub hl [] rfl)

-- ClauseLedger$Scopes.openInner()I
abbrev b_Sc_openInner : ByteArray := prog_7_method_7_code
def y_Sc_openInner : MethodName := ⟨"ClauseLedger$Scopes", "openInner", "()I"⟩
theorem hd_Sc_openInner : y_Sc_openInner.cls ≠ "java/lang/invoke/MethodHandle" ∧ y_Sc_openInner.cls ≠ "java/lang/invoke/VarHandle" ∧ (parseMethodDescriptor y_Sc_openInner.desc).map (fun d => d.parameters.length) = some 0 := by decide +kernel
theorem d_Sc_openInner_0 : decode b_Sc_openInner 0 = .ok (.aload_n 0, 1) := by decide +kernel
theorem d_Sc_openInner_1 : decode b_Sc_openInner 1 = .ok (.invokevirtual 33, 3) := by decide +kernel
theorem d_Sc_openInner_4 : decode b_Sc_openInner 4 = .ok (.ifCond .eq 5, 3) := by decide +kernel
theorem d_Sc_openInner_7 : decode b_Sc_openInner 7 = .ok (.iconst (-1), 1) := by decide +kernel
theorem d_Sc_openInner_8 : decode b_Sc_openInner 8 = .ok (.ireturn, 1) := by decide +kernel
theorem d_Sc_openInner_9 : decode b_Sc_openInner 9 = .ok (.aload_n 0, 1) := by decide +kernel
theorem d_Sc_openInner_10 : decode b_Sc_openInner 10 = .ok (.getfield 9, 3) := by decide +kernel
theorem d_Sc_openInner_13 : decode b_Sc_openInner 13 = .ok (.aload_n 0, 1) := by decide +kernel
theorem d_Sc_openInner_14 : decode b_Sc_openInner 14 = .ok (.getfield 22, 3) := by decide +kernel
theorem d_Sc_openInner_17 : decode b_Sc_openInner 17 = .ok (.aload_n 0, 1) := by decide +kernel
theorem d_Sc_openInner_18 : decode b_Sc_openInner 18 = .ok (.getfield 26, 3) := by decide +kernel
theorem d_Sc_openInner_21 : decode b_Sc_openInner 21 = .ok (.iastore, 1) := by decide +kernel
theorem d_Sc_openInner_22 : decode b_Sc_openInner 22 = .ok (.aload_n 0, 1) := by decide +kernel
theorem d_Sc_openInner_23 : decode b_Sc_openInner 23 = .ok (.getfield 15, 3) := by decide +kernel
theorem d_Sc_openInner_26 : decode b_Sc_openInner 26 = .ok (.aload_n 0, 1) := by decide +kernel
theorem d_Sc_openInner_27 : decode b_Sc_openInner 27 = .ok (.getfield 22, 3) := by decide +kernel
theorem d_Sc_openInner_30 : decode b_Sc_openInner 30 = .ok (.aload_n 0, 1) := by decide +kernel
theorem d_Sc_openInner_31 : decode b_Sc_openInner 31 = .ok (.aload_n 0, 1) := by decide +kernel
theorem d_Sc_openInner_32 : decode b_Sc_openInner 32 = .ok (.getfield 26, 3) := by decide +kernel
theorem d_Sc_openInner_35 : decode b_Sc_openInner 35 = .ok (.invokevirtual 37, 3) := by decide +kernel
theorem d_Sc_openInner_38 : decode b_Sc_openInner 38 = .ok (.iconst 1, 1) := by decide +kernel
theorem d_Sc_openInner_39 : decode b_Sc_openInner 39 = .ok (.iadd, 1) := by decide +kernel
theorem d_Sc_openInner_40 : decode b_Sc_openInner 40 = .ok (.iastore, 1) := by decide +kernel
theorem d_Sc_openInner_41 : decode b_Sc_openInner 41 = .ok (.aload_n 0, 1) := by decide +kernel
theorem d_Sc_openInner_42 : decode b_Sc_openInner 42 = .ok (.aload_n 0, 1) := by decide +kernel
theorem d_Sc_openInner_43 : decode b_Sc_openInner 43 = .ok (.getfield 22, 3) := by decide +kernel
theorem d_Sc_openInner_46 : decode b_Sc_openInner 46 = .ok (.putfield 26, 3) := by decide +kernel
theorem d_Sc_openInner_49 : decode b_Sc_openInner 49 = .ok (.aload_n 0, 1) := by decide +kernel
theorem d_Sc_openInner_50 : decode b_Sc_openInner 50 = .ok (.dup, 1) := by decide +kernel
theorem d_Sc_openInner_51 : decode b_Sc_openInner 51 = .ok (.getfield 22, 3) := by decide +kernel
theorem d_Sc_openInner_54 : decode b_Sc_openInner 54 = .ok (.iconst 1, 1) := by decide +kernel
theorem d_Sc_openInner_55 : decode b_Sc_openInner 55 = .ok (.iadd, 1) := by decide +kernel
theorem d_Sc_openInner_56 : decode b_Sc_openInner 56 = .ok (.putfield 22, 3) := by decide +kernel
theorem d_Sc_openInner_59 : decode b_Sc_openInner 59 = .ok (.aload_n 0, 1) := by decide +kernel
theorem d_Sc_openInner_60 : decode b_Sc_openInner 60 = .ok (.getfield 15, 3) := by decide +kernel
theorem d_Sc_openInner_63 : decode b_Sc_openInner 63 = .ok (.aload_n 0, 1) := by decide +kernel
theorem d_Sc_openInner_64 : decode b_Sc_openInner 64 = .ok (.getfield 26, 3) := by decide +kernel
theorem d_Sc_openInner_67 : decode b_Sc_openInner 67 = .ok (.iaload, 1) := by decide +kernel
theorem d_Sc_openInner_68 : decode b_Sc_openInner 68 = .ok (.ireturn, 1) := by decide +kernel
def f_Sc_openInner_59 (σ : St) : Int32 × St := (σ.1 29 (σ.1 27 4).toNatClampNeg, σ)
def k_Sc_openInner_59 (σ : St) : Prop := vp_in (σ.1 27 4) 21 ∧ True
def f_Sc_openInner_49 (σ : St) : Int32 × St := f_Sc_openInner_59 (sF σ 27 3 ((σ.1 27 3) + 1))
def k_Sc_openInner_49 (σ : St) : Prop := k_Sc_openInner_59 (sF σ 27 3 ((σ.1 27 3) + 1))
def f_Sc_openInner_41 (σ : St) : Int32 × St := f_Sc_openInner_49 (sF σ 27 4 (σ.1 27 3))
def k_Sc_openInner_41 (σ : St) : Prop := k_Sc_openInner_49 (sF σ 27 4 (σ.1 27 3))
def f_Sc_openInner_22 (σ : St) : Int32 × St := f_Sc_openInner_41 (sA σ 29 (σ.1 27 3) ((f_Sc_depthOf (σ.1 27 4) σ) + 1))
def k_Sc_openInner_22 (σ : St) : Prop := (k_Sc_depthOf (σ.1 27 4) σ) ∧ (vp_in (σ.1 27 3) 21 ∧ (k_Sc_openInner_41 (sA σ 29 (σ.1 27 3) ((f_Sc_depthOf (σ.1 27 4) σ) + 1))))
def f_Sc_openInner (σ : St) : Int32 × St := if (f_Sc_isFull σ) = 0 then (f_Sc_openInner_22 (sA σ 28 (σ.1 27 3) (σ.1 27 4))) else ((-1), σ)
def k_Sc_openInner (σ : St) : Prop := (k_Sc_isFull σ) ∧ (((f_Sc_isFull σ) = 0 → (vp_in (σ.1 27 3) 21 ∧ (k_Sc_openInner_22 (sA σ 28 (σ.1 27 3) (σ.1 27 4))))) ∧ (¬ (f_Sc_isFull σ) = 0 → True))
abbrev w_Sc_openInner : List Cond := Cond.code y_Sc_openInner b_Sc_openInner 1 (some .int) :: gw
abbrev rm_Sc_openInner : Room := { frames := 2, cells := 0, slots := 0, locals := 42 }
set_option maxHeartbeats 4000000 in
set_option maxRecDepth 100000 in
theorem c_Sc_openInner (l : Launch) (D : va_G) (ty : Nat → ClassId) (h : Nat → Nat) (px : va_W) (σ : St) (sz : Nat) (hk : k_Sc_openInner σ) : Met l y_Sc_openInner w_Sc_openInner rm_Sc_openInner (va_Pc [.ref (h 27)] (fun U => U.heap.size = sz ∧ va_P D classes (Wc ty h σ px) U.heap ∧ va_K D classes (Ta ty) U ∧ va_D (fun _ => True) (Wc ty h σ px))) (va_Qi (fun r (u : St) => (r, u) = f_Sc_openInner σ) (fun u t => va_P D classes (Wc ty h u px) t.heap) (va_A (Wc ty h σ px) sz)) 0 0 (va_A (Wc ty h σ px) sz) := by
  refine Met.ofW (cc := b_Sc_openInner) (maxL := 1) (ret := (some .int)) (by decide) rfl ?_
  intro p e s m args below meth c s₁ B hml hv
  obtain ⟨ha, hsz, hP, hK, hD0⟩ := hv
  have hx := B.exec
  have hb := B.bytes
  have hr := B.returns
  have hg : ∀ w ∈ gw, w.before args s = true := fun w h9 => atoms_spec (ws := w_Sc_openInner) B.pre w (List.mem_cons_of_mem _ h9)
  have hown : s.vm.findClass "ClauseLedger$Scopes" = some m.cls := findClass_of_methodNamed B.named
  have hlocks := B.notSynchronized
  subst hsz
  have hD := hD0.self (sz := s.heap.size)
  generalize hAe : va_A (Wc ty h σ px) s.heap.size = A at hD ⊢
  have hA : ∀ q : Nat, s.heap.size ≤ q → A q := fun q h9 => by rw [← hAe]; exact Or.inr h9
  have hS : va_S A s.heap s.heap [] := va_S.rf
  have he : entryFrame m args 1 = entryFrame m ([.ref (h 27)] : List Value).toArray 1 := by rw [ha]
  rw [he, lg_entry_eq]
  have hl := lv_entry ([.ref (h 27)]) (n := 1) (Nat.le_of_ble_eq_true rfl)
  generalize (lg_sl ([.ref (h 27)]) ++ List.replicate (1 - (lg_sl ([.ref (h 27)])).length) Slot.unset).toArray = ls at hl ⊢
  have hl : lv_has ls 1 [(0, .ref (h 27))] := hl
  generalize hv : f_Sc_openInner σ = v
  replace hv := hv.symm
  have B59 : ∀ (H : Heap) (locs : List Loc) (ls : Array Slot) (σ : St), v = f_Sc_openInner_59 σ → k_Sc_openInner_59 σ → lv_has ls 1 [(0, .ref (h 27))] → va_P D classes (Wc ty h σ px) H → va_D A (Wc ty h σ px) → va_S A s.heap H locs → W p l e (headSpec w_Sc_openInner rm_Sc_openInner).room s m args below meth c H locs 0 0 (MQ below (va_Qi (fun r (u : St) => (r, u) = v) (fun u t => va_P D classes (Wc ty h u px) t.heap) A) args s 0 0 A) (F0 m 59 ls []) := by
    intro H locs ls σ hv hk hl hP hD hS
    unfold f_Sc_openInner_59 at hv
    unfold k_Sc_openInner_59 at hk
    refine lv_aload_n hx hb d_Sc_openInner_59 rfl (lv_at hl 0 rfl) ?_
    refine va_get (v := .ref (h 29)) (C := R_Sc) (T := T_Sc) (N := 5) hx hb hg in_Sc hown hK hP 27 rfl rfl 1 (by decide) (hg _ m_246) (fun _ h9 => h9) rfl d_Sc_openInner_60 ?_
    refine lv_aload_n hx hb d_Sc_openInner_63 rfl (lv_at hl 0 rfl) ?_
    refine va_get (v := .int (σ.1 27 4)) (C := R_Sc) (T := T_Sc) (N := 5) hx hb hg in_Sc hown hK hP 27 rfl rfl 4 (by decide) (hg _ m_249) (fun _ h9 => h9) rfl d_Sc_openInner_64 ?_
    obtain ⟨hk0, hk⟩ := hk
    refine va_iald hx hb hK hP 29 0 rfl rfl hk0 d_Sc_openInner_67 ?_
    exact W.iret hx hb hr (fun t ht hW => ⟨⟨_, _, rfl, hv.symm, by dsimp only; rw [ht]; exact hP⟩, hS.F ht⟩) hS.2.2 d_Sc_openInner_68
  have B49 : ∀ (H : Heap) (locs : List Loc) (ls : Array Slot) (σ : St), v = f_Sc_openInner_49 σ → k_Sc_openInner_49 σ → lv_has ls 1 [(0, .ref (h 27))] → va_P D classes (Wc ty h σ px) H → va_D A (Wc ty h σ px) → va_S A s.heap H locs → W p l e (headSpec w_Sc_openInner rm_Sc_openInner).room s m args below meth c H locs 0 0 (MQ below (va_Qi (fun r (u : St) => (r, u) = v) (fun u t => va_P D classes (Wc ty h u px) t.heap) A) args s 0 0 A) (F0 m 49 ls []) := by
    intro H locs ls σ hv hk hl hP hD hS
    unfold f_Sc_openInner_49 at hv
    unfold k_Sc_openInner_49 at hk
    refine lv_aload_n hx hb d_Sc_openInner_49 rfl (lv_at hl 0 rfl) ?_
    refine lv_dup hx hb d_Sc_openInner_50 rfl ?_
    refine va_get (v := .int (σ.1 27 3)) (C := R_Sc) (T := T_Sc) (N := 5) hx hb hg in_Sc hown hK hP 27 rfl rfl 3 (by decide) (hg _ m_248) (fun _ h9 => h9) rfl d_Sc_openInner_51 ?_
    refine lv_iconst (v := 1) hx hb d_Sc_openInner_54 (by decide) ?_
    refine lv_iadd hx hb d_Sc_openInner_55 ?_
    refine va_put (v := .int ((σ.1 27 3) + 1)) (ty := .int) (C := R_Sc) (T := T_Sc) (N := 5) hx hb hg in_Sc ty_Sc ok_Sc nm_Sc hown hK hP hD hS 27 rfl rfl 3 (by decide) (hg _ m_248) (fun _ h9 => h9) rfl (by decide +kernel) rfl rfl (Nat.le_of_ble_eq_true rfl) d_Sc_openInner_56 (fun H locs hP hD hS => ?_)
    have hP : va_P D classes (Wc ty h (sF σ 27 3 ((σ.1 27 3) + 1)) px) H := hP
    have hD : va_D A (Wc ty h (sF σ 27 3 ((σ.1 27 3) + 1)) px) := hD
    exact B59 _ _ _  (sF σ 27 3 ((σ.1 27 3) + 1)) hv hk (lv_sub hl [0] rfl) hP hD hS
  have B41 : ∀ (H : Heap) (locs : List Loc) (ls : Array Slot) (σ : St), v = f_Sc_openInner_41 σ → k_Sc_openInner_41 σ → lv_has ls 1 [(0, .ref (h 27))] → va_P D classes (Wc ty h σ px) H → va_D A (Wc ty h σ px) → va_S A s.heap H locs → W p l e (headSpec w_Sc_openInner rm_Sc_openInner).room s m args below meth c H locs 0 0 (MQ below (va_Qi (fun r (u : St) => (r, u) = v) (fun u t => va_P D classes (Wc ty h u px) t.heap) A) args s 0 0 A) (F0 m 41 ls []) := by
    intro H locs ls σ hv hk hl hP hD hS
    unfold f_Sc_openInner_41 at hv
    unfold k_Sc_openInner_41 at hk
    refine lv_aload_n hx hb d_Sc_openInner_41 rfl (lv_at hl 0 rfl) ?_
    refine lv_aload_n hx hb d_Sc_openInner_42 rfl (lv_at hl 0 rfl) ?_
    refine va_get (v := .int (σ.1 27 3)) (C := R_Sc) (T := T_Sc) (N := 5) hx hb hg in_Sc hown hK hP 27 rfl rfl 3 (by decide) (hg _ m_248) (fun _ h9 => h9) rfl d_Sc_openInner_43 ?_
    refine va_put (v := .int (σ.1 27 3)) (ty := .int) (C := R_Sc) (T := T_Sc) (N := 5) hx hb hg in_Sc ty_Sc ok_Sc nm_Sc hown hK hP hD hS 27 rfl rfl 4 (by decide) (hg _ m_249) (fun _ h9 => h9) rfl (by decide +kernel) rfl rfl (Nat.le_of_ble_eq_true rfl) d_Sc_openInner_46 (fun H locs hP hD hS => ?_)
    have hP : va_P D classes (Wc ty h (sF σ 27 4 (σ.1 27 3)) px) H := hP
    have hD : va_D A (Wc ty h (sF σ 27 4 (σ.1 27 3)) px) := hD
    exact B49 _ _ _  (sF σ 27 4 (σ.1 27 3)) hv hk (lv_sub hl [0] rfl) hP hD hS
  have B22 : ∀ (H : Heap) (locs : List Loc) (ls : Array Slot) (σ : St), v = f_Sc_openInner_22 σ → k_Sc_openInner_22 σ → lv_has ls 1 [(0, .ref (h 27))] → va_P D classes (Wc ty h σ px) H → va_D A (Wc ty h σ px) → va_S A s.heap H locs → W p l e (headSpec w_Sc_openInner rm_Sc_openInner).room s m args below meth c H locs 0 0 (MQ below (va_Qi (fun r (u : St) => (r, u) = v) (fun u t => va_P D classes (Wc ty h u px) t.heap) A) args s 0 0 A) (F0 m 22 ls []) := by
    intro H locs ls σ hv hk hl hP hD hS
    unfold f_Sc_openInner_22 at hv
    unfold k_Sc_openInner_22 at hk
    refine lv_aload_n hx hb d_Sc_openInner_22 rfl (lv_at hl 0 rfl) ?_
    refine va_get (v := .ref (h 29)) (C := R_Sc) (T := T_Sc) (N := 5) hx hb hg in_Sc hown hK hP 27 rfl rfl 1 (by decide) (hg _ m_246) (fun _ h9 => h9) rfl d_Sc_openInner_23 ?_
    refine lv_aload_n hx hb d_Sc_openInner_26 rfl (lv_at hl 0 rfl) ?_
    refine va_get (v := .int (σ.1 27 3)) (C := R_Sc) (T := T_Sc) (N := 5) hx hb hg in_Sc hown hK hP 27 rfl rfl 3 (by decide) (hg _ m_248) (fun _ h9 => h9) rfl d_Sc_openInner_27 ?_
    refine lv_aload_n hx hb d_Sc_openInner_30 rfl (lv_at hl 0 rfl) ?_
    refine lv_aload_n hx hb d_Sc_openInner_31 rfl (lv_at hl 0 rfl) ?_
    refine va_get (v := .int (σ.1 27 4)) (C := R_Sc) (T := T_Sc) (N := 5) hx hb hg in_Sc hown hK hP 27 rfl rfl 4 (by decide) (hg _ m_249) (fun _ h9 => h9) rfl d_Sc_openInner_32 ?_
    obtain ⟨hk0, hk⟩ := hk
    refine zz_callV (va_runV (As := [.int (σ.1 27 4)]) (rest := [.int (σ.1 27 3), .ref (h 29)]) ⟨hx, hb, hml, hown, hg⟩ (c_Sc_depthOf l D ty h px σ (σ.1 27 4) hk0) ⟨callB_of 1 hg (gw_C m_398) rfl rfl rfl (hg _ m_11) (hg _ m_1225) hd_Sc_depthOf ⟨Nat.le_of_ble_eq_true rfl, Nat.le_of_ble_eq_true rfl⟩, hg _ m_396, hg _ m_397⟩ (zz_preV hK hP 27 rfl rfl) rfl rfl hl.1 rfl (lv_room (Nat.le_of_ble_eq_true rfl)) d_Sc_openInner_35 ⟨Nat.le_refl _, Nat.le_refl _⟩) ?_
    refine lv_iconst (v := 1) hx hb d_Sc_openInner_38 (by decide) ?_
    refine lv_iadd hx hb d_Sc_openInner_39 ?_
    obtain ⟨hk0, hk⟩ := hk
    refine va_iast hx hb hK hP hD hS 29 0 rfl rfl hk0 d_Sc_openInner_40 (fun H locs hP hD hS => ?_)
    have hP : va_P D classes (Wc ty h (sA σ 29 (σ.1 27 3) ((f_Sc_depthOf (σ.1 27 4) σ) + 1)) px) H := hP
    have hD : va_D A (Wc ty h (sA σ 29 (σ.1 27 3) ((f_Sc_depthOf (σ.1 27 4) σ) + 1)) px) := hD
    exact B41 _ _ _  (sA σ 29 (σ.1 27 3) ((f_Sc_depthOf (σ.1 27 4) σ) + 1)) hv hk (lv_sub hl [0] rfl) hP hD hS
  unfold f_Sc_openInner at hv
  unfold k_Sc_openInner at hk
  refine lv_aload_n hx hb d_Sc_openInner_0 rfl (lv_at hl 0 rfl) ?_
  obtain ⟨hk0, hk⟩ := hk
  refine zz_callV (va_runV (As := []) (rest := []) ⟨hx, hb, hml, hown, hg⟩ (c_Sc_isFull l D ty h px σ  hk0) ⟨callB_of 0 hg (gw_C m_1219) rfl rfl rfl (hg _ m_11) (hg _ m_1224) hd_Sc_isFull ⟨Nat.le_of_ble_eq_true rfl, Nat.le_of_ble_eq_true rfl⟩, hg _ m_1217, hg _ m_1218⟩ (zz_preV hK hP 27 rfl rfl) rfl rfl hl.1 rfl (lv_room (Nat.le_of_ble_eq_true rfl)) d_Sc_openInner_1 ⟨Nat.le_refl _, Nat.le_refl _⟩) ?_
  refine lv_if_eq (tgt := 9) hx hb d_Sc_openInner_4 (by decide) (fun hc => ?_) (fun hc => ?_)
  · have hv := hv.trans (if_pos hc)
    have hk := hk.1 hc
    refine lv_aload_n hx hb d_Sc_openInner_9 rfl (lv_at hl 0 rfl) ?_
    refine va_get (v := .ref (h 28)) (C := R_Sc) (T := T_Sc) (N := 5) hx hb hg in_Sc hown hK hP 27 rfl rfl 0 (by decide) (hg _ m_245) (fun _ h9 => h9) rfl d_Sc_openInner_10 ?_
    refine lv_aload_n hx hb d_Sc_openInner_13 rfl (lv_at hl 0 rfl) ?_
    refine va_get (v := .int (σ.1 27 3)) (C := R_Sc) (T := T_Sc) (N := 5) hx hb hg in_Sc hown hK hP 27 rfl rfl 3 (by decide) (hg _ m_248) (fun _ h9 => h9) rfl d_Sc_openInner_14 ?_
    refine lv_aload_n hx hb d_Sc_openInner_17 rfl (lv_at hl 0 rfl) ?_
    refine va_get (v := .int (σ.1 27 4)) (C := R_Sc) (T := T_Sc) (N := 5) hx hb hg in_Sc hown hK hP 27 rfl rfl 4 (by decide) (hg _ m_249) (fun _ h9 => h9) rfl d_Sc_openInner_18 ?_
    obtain ⟨hk0, hk⟩ := hk
    refine va_iast hx hb hK hP hD hS 28 0 rfl rfl hk0 d_Sc_openInner_21 (fun H locs hP hD hS => ?_)
    have hP : va_P D classes (Wc ty h (sA σ 28 (σ.1 27 3) (σ.1 27 4)) px) H := hP
    have hD : va_D A (Wc ty h (sA σ 28 (σ.1 27 3) (σ.1 27 4)) px) := hD
    exact B22 _ _ _  (sA σ 28 (σ.1 27 3) (σ.1 27 4)) hv hk (lv_sub hl [0] rfl) hP hD hS
  · have hv := hv.trans (if_neg hc)
    have hk := hk.2 hc
    refine lv_iconst (v := -1) hx hb d_Sc_openInner_7 (by decide) ?_
    exact W.iret hx hb hr (fun t ht hW => ⟨⟨_, _, rfl, hv.symm, by dsimp only; rw [ht]; exact hP⟩, hS.F ht⟩) hS.2.2 d_Sc_openInner_8

-- ClauseLedger$Scopes.closeInner()V
abbrev b_Sc_closeInner : ByteArray := prog_7_method_8_code
def y_Sc_closeInner : MethodName := ⟨"ClauseLedger$Scopes", "closeInner", "()V"⟩
theorem hd_Sc_closeInner : y_Sc_closeInner.cls ≠ "java/lang/invoke/MethodHandle" ∧ y_Sc_closeInner.cls ≠ "java/lang/invoke/VarHandle" ∧ (parseMethodDescriptor y_Sc_closeInner.desc).map (fun d => d.parameters.length) = some 0 := by decide +kernel
theorem d_Sc_closeInner_0 : decode b_Sc_closeInner 0 = .ok (.aload_n 0, 1) := by decide +kernel
theorem d_Sc_closeInner_1 : decode b_Sc_closeInner 1 = .ok (.getfield 26, 3) := by decide +kernel
theorem d_Sc_closeInner_4 : decode b_Sc_closeInner 4 = .ok (.ifCond .eq 26, 3) := by decide +kernel
theorem d_Sc_closeInner_7 : decode b_Sc_closeInner 7 = .ok (.aload_n 0, 1) := by decide +kernel
theorem d_Sc_closeInner_8 : decode b_Sc_closeInner 8 = .ok (.getfield 18, 3) := by decide +kernel
theorem d_Sc_closeInner_11 : decode b_Sc_closeInner 11 = .ok (.aload_n 0, 1) := by decide +kernel
theorem d_Sc_closeInner_12 : decode b_Sc_closeInner 12 = .ok (.getfield 26, 3) := by decide +kernel
theorem d_Sc_closeInner_15 : decode b_Sc_closeInner 15 = .ok (.iconst 1, 1) := by decide +kernel
theorem d_Sc_closeInner_16 : decode b_Sc_closeInner 16 = .ok (.bastore, 1) := by decide +kernel
theorem d_Sc_closeInner_17 : decode b_Sc_closeInner 17 = .ok (.aload_n 0, 1) := by decide +kernel
theorem d_Sc_closeInner_18 : decode b_Sc_closeInner 18 = .ok (.aload_n 0, 1) := by decide +kernel
theorem d_Sc_closeInner_19 : decode b_Sc_closeInner 19 = .ok (.getfield 9, 3) := by decide +kernel
theorem d_Sc_closeInner_22 : decode b_Sc_closeInner 22 = .ok (.aload_n 0, 1) := by decide +kernel
theorem d_Sc_closeInner_23 : decode b_Sc_closeInner 23 = .ok (.getfield 26, 3) := by decide +kernel
theorem d_Sc_closeInner_26 : decode b_Sc_closeInner 26 = .ok (.iaload, 1) := by decide +kernel
theorem d_Sc_closeInner_27 : decode b_Sc_closeInner 27 = .ok (.putfield 26, 3) := by decide +kernel
theorem d_Sc_closeInner_30 : decode b_Sc_closeInner 30 = .ok (.return_, 1) := by decide +kernel
def f_Sc_closeInner_30 (σ : St) : St := σ
def k_Sc_closeInner_30 (σ : St) : Prop := True
def f_Sc_closeInner_17 (σ : St) : St := f_Sc_closeInner_30 (sF σ 27 4 (σ.1 28 (σ.1 27 4).toNatClampNeg))
def k_Sc_closeInner_17 (σ : St) : Prop := vp_in (σ.1 27 4) 21 ∧ (k_Sc_closeInner_30 (sF σ 27 4 (σ.1 28 (σ.1 27 4).toNatClampNeg)))
def f_Sc_closeInner (σ : St) : St := if (σ.1 27 4) = 0 then (f_Sc_closeInner_30 σ) else (f_Sc_closeInner_17 (sA σ 30 (σ.1 27 4) (vp_nar .boolean 1)))
def k_Sc_closeInner (σ : St) : Prop := ((σ.1 27 4) = 0 → (k_Sc_closeInner_30 σ)) ∧ (¬ (σ.1 27 4) = 0 → (vp_in (σ.1 27 4) 21 ∧ (k_Sc_closeInner_17 (sA σ 30 (σ.1 27 4) (vp_nar .boolean 1)))))
abbrev w_Sc_closeInner : List Cond := Cond.code y_Sc_closeInner b_Sc_closeInner 1 none :: gw
abbrev rm_Sc_closeInner : Room := { frames := 0, cells := 0, slots := 0, locals := 0 }
set_option maxHeartbeats 4000000 in
set_option maxRecDepth 100000 in
theorem c_Sc_closeInner (l : Launch) (D : va_G) (ty : Nat → ClassId) (h : Nat → Nat) (px : va_W) (σ : St) (sz : Nat) (hk : k_Sc_closeInner σ) : Met l y_Sc_closeInner w_Sc_closeInner rm_Sc_closeInner (va_Pc [.ref (h 27)] (fun U => U.heap.size = sz ∧ va_P D classes (Wc ty h σ px) U.heap ∧ va_K D classes (Ta ty) U ∧ va_D (fun _ => True) (Wc ty h σ px))) (va_Qv (fun u : St => u = f_Sc_closeInner σ) (fun u t => va_P D classes (Wc ty h u px) t.heap) (va_A (Wc ty h σ px) sz)) 0 0 (va_A (Wc ty h σ px) sz) := by
  refine Met.ofW (cc := b_Sc_closeInner) (maxL := 1) (ret := none) (by decide) rfl ?_
  intro p e s m args below meth c s₁ B hml hv
  obtain ⟨ha, hsz, hP, hK, hD0⟩ := hv
  have hx := B.exec
  have hb := B.bytes
  have hr := B.returns
  have hg : ∀ w ∈ gw, w.before args s = true := fun w h9 => atoms_spec (ws := w_Sc_closeInner) B.pre w (List.mem_cons_of_mem _ h9)
  have hown : s.vm.findClass "ClauseLedger$Scopes" = some m.cls := findClass_of_methodNamed B.named
  have hlocks := B.notSynchronized
  subst hsz
  have hD := hD0.self (sz := s.heap.size)
  generalize hAe : va_A (Wc ty h σ px) s.heap.size = A at hD ⊢
  have hA : ∀ q : Nat, s.heap.size ≤ q → A q := fun q h9 => by rw [← hAe]; exact Or.inr h9
  have hS : va_S A s.heap s.heap [] := va_S.rf
  have he : entryFrame m args 1 = entryFrame m ([.ref (h 27)] : List Value).toArray 1 := by rw [ha]
  rw [he, lg_entry_eq]
  have hl := lv_entry ([.ref (h 27)]) (n := 1) (Nat.le_of_ble_eq_true rfl)
  generalize (lg_sl ([.ref (h 27)]) ++ List.replicate (1 - (lg_sl ([.ref (h 27)])).length) Slot.unset).toArray = ls at hl ⊢
  have hl : lv_has ls 1 [(0, .ref (h 27))] := hl
  generalize hv : f_Sc_closeInner σ = v
  replace hv := hv.symm
  have B30 : ∀ (H : Heap) (locs : List Loc) (ls : Array Slot) (σ : St), v = f_Sc_closeInner_30 σ → k_Sc_closeInner_30 σ → lv_has ls 1 [] → va_P D classes (Wc ty h σ px) H → va_D A (Wc ty h σ px) → va_S A s.heap H locs → W p l e (headSpec w_Sc_closeInner rm_Sc_closeInner).room s m args below meth c H locs 0 0 (MQ below (va_Qv (fun u : St => u = v) (fun u t => va_P D classes (Wc ty h u px) t.heap) A) args s 0 0 A) (F0 m 30 ls []) := by
    intro H locs ls σ hv hk hl hP hD hS
    unfold f_Sc_closeInner_30 at hv
    unfold k_Sc_closeInner_30 at hk
    exact W.vret hx hb hr (fun t ht hW => ⟨⟨_, rfl, hv.symm, by dsimp only; rw [ht]; exact hP⟩, hS.F ht⟩) hS.2.2 d_Sc_closeInner_30
  have B17 : ∀ (H : Heap) (locs : List Loc) (ls : Array Slot) (σ : St), v = f_Sc_closeInner_17 σ → k_Sc_closeInner_17 σ → lv_has ls 1 [(0, .ref (h 27))] → va_P D classes (Wc ty h σ px) H → va_D A (Wc ty h σ px) → va_S A s.heap H locs → W p l e (headSpec w_Sc_closeInner rm_Sc_closeInner).room s m args below meth c H locs 0 0 (MQ below (va_Qv (fun u : St => u = v) (fun u t => va_P D classes (Wc ty h u px) t.heap) A) args s 0 0 A) (F0 m 17 ls []) := by
    intro H locs ls σ hv hk hl hP hD hS
    unfold f_Sc_closeInner_17 at hv
    unfold k_Sc_closeInner_17 at hk
    refine lv_aload_n hx hb d_Sc_closeInner_17 rfl (lv_at hl 0 rfl) ?_
    refine lv_aload_n hx hb d_Sc_closeInner_18 rfl (lv_at hl 0 rfl) ?_
    refine va_get (v := .ref (h 28)) (C := R_Sc) (T := T_Sc) (N := 5) hx hb hg in_Sc hown hK hP 27 rfl rfl 0 (by decide) (hg _ m_245) (fun _ h9 => h9) rfl d_Sc_closeInner_19 ?_
    refine lv_aload_n hx hb d_Sc_closeInner_22 rfl (lv_at hl 0 rfl) ?_
    refine va_get (v := .int (σ.1 27 4)) (C := R_Sc) (T := T_Sc) (N := 5) hx hb hg in_Sc hown hK hP 27 rfl rfl 4 (by decide) (hg _ m_249) (fun _ h9 => h9) rfl d_Sc_closeInner_23 ?_
    obtain ⟨hk0, hk⟩ := hk
    refine va_iald hx hb hK hP 28 0 rfl rfl hk0 d_Sc_closeInner_26 ?_
    refine va_put (v := .int (σ.1 28 (σ.1 27 4).toNatClampNeg)) (ty := .int) (C := R_Sc) (T := T_Sc) (N := 5) hx hb hg in_Sc ty_Sc ok_Sc nm_Sc hown hK hP hD hS 27 rfl rfl 4 (by decide) (hg _ m_249) (fun _ h9 => h9) rfl (by decide +kernel) rfl rfl (Nat.le_of_ble_eq_true rfl) d_Sc_closeInner_27 (fun H locs hP hD hS => ?_)
    have hP : va_P D classes (Wc ty h (sF σ 27 4 (σ.1 28 (σ.1 27 4).toNatClampNeg)) px) H := hP
    have hD : va_D A (Wc ty h (sF σ 27 4 (σ.1 28 (σ.1 27 4).toNatClampNeg)) px) := hD
    exact B30 _ _ _  (sF σ 27 4 (σ.1 28 (σ.1 27 4).toNatClampNeg)) hv hk (lv_sub hl [] rfl) hP hD hS
  unfold f_Sc_closeInner at hv
  unfold k_Sc_closeInner at hk
  refine lv_aload_n hx hb d_Sc_closeInner_0 rfl (lv_at hl 0 rfl) ?_
  refine va_get (v := .int (σ.1 27 4)) (C := R_Sc) (T := T_Sc) (N := 5) hx hb hg in_Sc hown hK hP 27 rfl rfl 4 (by decide) (hg _ m_249) (fun _ h9 => h9) rfl d_Sc_closeInner_1 ?_
  refine lv_if_eq (tgt := 30) hx hb d_Sc_closeInner_4 (by decide) (fun hc => ?_) (fun hc => ?_)
  · have hv := hv.trans (if_pos hc)
    have hk := hk.1 hc
    exact B30 _ _ _  σ hv hk (lv_sub hl [] rfl) hP hD hS
  · have hv := hv.trans (if_neg hc)
    have hk := hk.2 hc
    refine lv_aload_n hx hb d_Sc_closeInner_7 rfl (lv_at hl 0 rfl) ?_
    refine va_get (v := .ref (h 30)) (C := R_Sc) (T := T_Sc) (N := 5) hx hb hg in_Sc hown hK hP 27 rfl rfl 2 (by decide) (hg _ m_247) (fun _ h9 => h9) rfl d_Sc_closeInner_8 ?_
    refine lv_aload_n hx hb d_Sc_closeInner_11 rfl (lv_at hl 0 rfl) ?_
    refine va_get (v := .int (σ.1 27 4)) (C := R_Sc) (T := T_Sc) (N := 5) hx hb hg in_Sc hown hK hP 27 rfl rfl 4 (by decide) (hg _ m_249) (fun _ h9 => h9) rfl d_Sc_closeInner_12 ?_
    refine lv_iconst (v := 1) hx hb d_Sc_closeInner_15 (by decide) ?_
    obtain ⟨hk0, hk⟩ := hk
    refine va_zast hx hb hK hP hD hS 30 3 rfl rfl hk0 d_Sc_closeInner_16 (fun H locs hP hD hS => ?_)
    have hP : va_P D classes (Wc ty h (sA σ 30 (σ.1 27 4) (vp_nar .boolean 1)) px) H := hP
    have hD : va_D A (Wc ty h (sA σ 30 (σ.1 27 4) (vp_nar .boolean 1)) px) := hD
    exact B17 _ _ _  (sA σ 30 (σ.1 27 4) (vp_nar .boolean 1)) hv hk (lv_sub hl [0] rfl) hP hD hS

