-- ClauseLedger$Terms.count()I
abbrev b_Te_count : ByteArray := prog_11_method_2_code
def y_Te_count : MethodName := ⟨"ClauseLedger$Terms", "count", "()I"⟩
theorem hd_Te_count : y_Te_count.cls ≠ "java/lang/invoke/MethodHandle" ∧ y_Te_count.cls ≠ "java/lang/invoke/VarHandle" ∧ (parseMethodDescriptor y_Te_count.desc).map (fun d => d.parameters.length) = some 0 := by decide +kernel
theorem d_Te_count_0 : decode b_Te_count 0 = .ok (.aload_n 0, 1) := by decide +kernel
theorem d_Te_count_1 : decode b_Te_count 1 = .ok (.getfield 46, 3) := by decide +kernel
theorem d_Te_count_4 : decode b_Te_count 4 = .ok (.ireturn, 1) := by decide +kernel
def f_Te_count (σ : St) : Int32 := σ.1 6 11
def k_Te_count (σ : St) : Prop := True
abbrev w_Te_count : List Cond := Cond.code y_Te_count b_Te_count 1 (some .int) :: gw
abbrev rm_Te_count : Room := { frames := 0, cells := 0, slots := 0, locals := 0 }
set_option maxHeartbeats 4000000 in
set_option maxRecDepth 100000 in
theorem c_Te_count (l : Launch) (D : va_G) (ty : Nat → ClassId) (h : Nat → Nat) (px : va_W) (σ : St) (hk : k_Te_count σ) : Met l y_Te_count w_Te_count rm_Te_count (va_Pc [.ref (h 6)] (fun U => va_P D classes (Wc ty h σ px) U.heap ∧ va_K D classes (Ta ty) U)) (k2_QcV (.int (f_Te_count σ))) 0 0 (fun _ => False) := by
  refine Met.ofW (cc := b_Te_count) (maxL := 1) (ret := (some .int)) (by decide) rfl ?_
  intro p e s m args below meth c s₁ B hml hv
  obtain ⟨ha, hP, hK⟩ := hv
  have hx := B.exec
  have hb := B.bytes
  have hr := B.returns
  have hg : ∀ w ∈ gw, w.before args s = true := fun w h9 => atoms_spec (ws := w_Te_count) B.pre w (List.mem_cons_of_mem _ h9)
  have hown : s.vm.findClass "ClauseLedger$Terms" = some m.cls := findClass_of_methodNamed B.named
  have hlocks := B.notSynchronized
  have he : entryFrame m args 1 = entryFrame m ([.ref (h 6)] : List Value).toArray 1 := by rw [ha]
  rw [he, lg_entry_eq]
  have hl := lv_entry ([.ref (h 6)]) (n := 1) (Nat.le_of_ble_eq_true rfl)
  generalize (lg_sl ([.ref (h 6)]) ++ List.replicate (1 - (lg_sl ([.ref (h 6)])).length) Slot.unset).toArray = ls at hl ⊢
  have hl : lv_has ls 1 [(0, .ref (h 6))] := hl
  generalize hv : f_Te_count σ = v
  replace hv := hv.symm
  unfold f_Te_count at hv
  unfold k_Te_count at hk
  refine lv_aload_n hx hb d_Te_count_0 rfl (lv_at hl 0 rfl) ?_
  refine va_get (v := .int (σ.1 6 11)) (C := R_Te) (T := T_Te) (N := 14) hx hb hg in_Te hown hK hP 6 rfl rfl 11 (by decide) (hg _ m_80) (fun _ h9 => h9) rfl d_Te_count_1 ?_
  exact W.iret hx hb hr (fun t ht hW => ⟨by rw [hv], ht⟩) (fun q h => nomatch h) d_Te_count_4

-- ClauseLedger$Terms.has(I)Z
abbrev b_Te_has : ByteArray := prog_11_method_3_code
def y_Te_has : MethodName := ⟨"ClauseLedger$Terms", "has", "(I)Z"⟩
theorem hd_Te_has : y_Te_has.cls ≠ "java/lang/invoke/MethodHandle" ∧ y_Te_has.cls ≠ "java/lang/invoke/VarHandle" ∧ (parseMethodDescriptor y_Te_has.desc).map (fun d => d.parameters.length) = some 1 := by decide +kernel
theorem d_Te_has_0 : decode b_Te_has 0 = .ok (.iload_n 1, 1) := by decide +kernel
theorem d_Te_has_1 : decode b_Te_has 1 = .ok (.ifCond .lt 15, 3) := by decide +kernel
theorem d_Te_has_4 : decode b_Te_has 4 = .ok (.iload_n 1, 1) := by decide +kernel
theorem d_Te_has_5 : decode b_Te_has 5 = .ok (.aload_n 0, 1) := by decide +kernel
theorem d_Te_has_6 : decode b_Te_has 6 = .ok (.getfield 46, 3) := by decide +kernel
theorem d_Te_has_9 : decode b_Te_has 9 = .ok (.if_icmp .ge 7, 3) := by decide +kernel
theorem d_Te_has_12 : decode b_Te_has 12 = .ok (.iconst 1, 1) := by decide +kernel
theorem d_Te_has_13 : decode b_Te_has 13 = .ok (.goto 4, 3) := by decide +kernel
theorem d_Te_has_16 : decode b_Te_has 16 = .ok (.iconst 0, 1) := by decide +kernel
theorem d_Te_has_17 : decode b_Te_has 17 = .ok (.ireturn, 1) := by decide +kernel
def f_Te_has_17 (s0 : Int32) (σ : St) : Int32 := s0
def k_Te_has_17 (s0 : Int32) (σ : St) : Prop := (narrow .boolean (.int s0) = .int s0) ∧ True
def f_Te_has_16 (σ : St) : Int32 := f_Te_has_17 0 σ
def k_Te_has_16 (σ : St) : Prop := k_Te_has_17 0 σ
def f_Te_has (a1 : Int32) (σ : St) : Int32 := if a1 < 0 then (f_Te_has_16 σ) else (if (σ.1 6 11) ≤ a1 then (f_Te_has_16 σ) else (f_Te_has_17 1 σ))
def k_Te_has (a1 : Int32) (σ : St) : Prop := (a1 < 0 → (k_Te_has_16 σ)) ∧ (¬ a1 < 0 → (((σ.1 6 11) ≤ a1 → (k_Te_has_16 σ)) ∧ (¬ (σ.1 6 11) ≤ a1 → (k_Te_has_17 1 σ))))
abbrev w_Te_has : List Cond := Cond.code y_Te_has b_Te_has 2 (some .boolean) :: gw
abbrev rm_Te_has : Room := { frames := 0, cells := 0, slots := 0, locals := 0 }
set_option maxHeartbeats 4000000 in
set_option maxRecDepth 100000 in
theorem c_Te_has (l : Launch) (D : va_G) (ty : Nat → ClassId) (h : Nat → Nat) (px : va_W) (σ : St) (a1 : Int32) (hk : k_Te_has a1 σ) : Met l y_Te_has w_Te_has rm_Te_has (va_Pc [.ref (h 6), .int a1] (fun U => va_P D classes (Wc ty h σ px) U.heap ∧ va_K D classes (Ta ty) U)) (k2_QcV (.int (f_Te_has a1 σ))) 0 0 (fun _ => False) := by
  refine Met.ofW (cc := b_Te_has) (maxL := 2) (ret := (some .boolean)) (by decide) rfl ?_
  intro p e s m args below meth c s₁ B hml hv
  obtain ⟨ha, hP, hK⟩ := hv
  have hx := B.exec
  have hb := B.bytes
  have hr := B.returns
  have hg : ∀ w ∈ gw, w.before args s = true := fun w h9 => atoms_spec (ws := w_Te_has) B.pre w (List.mem_cons_of_mem _ h9)
  have hown : s.vm.findClass "ClauseLedger$Terms" = some m.cls := findClass_of_methodNamed B.named
  have hlocks := B.notSynchronized
  have he : entryFrame m args 2 = entryFrame m ([.ref (h 6), .int a1] : List Value).toArray 2 := by rw [ha]
  rw [he, lg_entry_eq]
  have hl := lv_entry ([.ref (h 6), .int a1]) (n := 2) (Nat.le_of_ble_eq_true rfl)
  generalize (lg_sl ([.ref (h 6), .int a1]) ++ List.replicate (2 - (lg_sl ([.ref (h 6), .int a1])).length) Slot.unset).toArray = ls at hl ⊢
  have hl : lv_has ls 2 [(0, .ref (h 6)), (1, .int a1)] := hl
  generalize hv : f_Te_has a1 σ = v
  replace hv := hv.symm
  have B17 : ∀ (ls : Array Slot) (s0 : Int32), v = f_Te_has_17 s0 σ → k_Te_has_17 s0 σ → lv_has ls 2 [] → W p l e (headSpec w_Te_has rm_Te_has).room s m args below meth c s.heap [] 0 0 (MQ below (k2_QcV (.int v)) args s 0 0 (fun _ => False)) (F0 m 17 ls [.int s0]) := by
    intro ls s0 hv hk hl
    unfold f_Te_has_17 at hv
    unfold k_Te_has_17 at hk
    obtain ⟨hk0, hk⟩ := hk
    exact W.zret hx hb hr hk0 (fun t ht hW => ⟨by rw [hv], ht⟩) (fun q h => nomatch h) d_Te_has_17
  have B16 : ∀ (ls : Array Slot), v = f_Te_has_16 σ → k_Te_has_16 σ → lv_has ls 2 [] → W p l e (headSpec w_Te_has rm_Te_has).room s m args below meth c s.heap [] 0 0 (MQ below (k2_QcV (.int v)) args s 0 0 (fun _ => False)) (F0 m 16 ls []) := by
    intro ls hv hk hl
    unfold f_Te_has_16 at hv
    unfold k_Te_has_16 at hk
    refine lv_iconst (v := 0) hx hb d_Te_has_16 (by decide) ?_
    exact B17 _ 0 hv hk (lv_sub hl [] rfl)
  unfold f_Te_has at hv
  unfold k_Te_has at hk
  refine lv_iload_n hx hb d_Te_has_0 rfl (lv_at hl 1 rfl) ?_
  refine lv_if_lt (tgt := 16) hx hb d_Te_has_1 (by decide) (fun hc => ?_) (fun hc => ?_)
  · have hv := hv.trans (if_pos hc)
    have hk := hk.1 hc
    exact B16 _  hv hk (lv_sub hl [] rfl)
  · have hv := hv.trans (if_neg hc)
    have hk := hk.2 hc
    refine lv_iload_n hx hb d_Te_has_4 rfl (lv_at hl 1 rfl) ?_
    refine lv_aload_n hx hb d_Te_has_5 rfl (lv_at hl 0 rfl) ?_
    refine va_get (v := .int (σ.1 6 11)) (C := R_Te) (T := T_Te) (N := 14) hx hb hg in_Te hown hK hP 6 rfl rfl 11 (by decide) (hg _ m_80) (fun _ h9 => h9) rfl d_Te_has_6 ?_
    refine lv_icmp_ge (tgt := 16) hx hb d_Te_has_9 (by decide) (fun hc => ?_) (fun hc => ?_)
    · have hv := hv.trans (if_pos hc)
      have hk := hk.1 hc
      exact B16 _  hv hk (lv_sub hl [] rfl)
    · have hv := hv.trans (if_neg hc)
      have hk := hk.2 hc
      refine lv_iconst (v := 1) hx hb d_Te_has_12 (by decide) ?_
      refine lv_goto (tgt := 17) hx hb d_Te_has_13 (by decide) ?_
      exact B17 _ 1 hv hk (lv_sub hl [] rfl)

-- ClauseLedger$Terms.kindOf(I)I
abbrev b_Te_kindOf : ByteArray := prog_11_method_4_code
def y_Te_kindOf : MethodName := ⟨"ClauseLedger$Terms", "kindOf", "(I)I"⟩
theorem hd_Te_kindOf : y_Te_kindOf.cls ≠ "java/lang/invoke/MethodHandle" ∧ y_Te_kindOf.cls ≠ "java/lang/invoke/VarHandle" ∧ (parseMethodDescriptor y_Te_kindOf.desc).map (fun d => d.parameters.length) = some 1 := by decide +kernel
theorem d_Te_kindOf_0 : decode b_Te_kindOf 0 = .ok (.aload_n 0, 1) := by decide +kernel
theorem d_Te_kindOf_1 : decode b_Te_kindOf 1 = .ok (.iload_n 1, 1) := by decide +kernel
theorem d_Te_kindOf_2 : decode b_Te_kindOf 2 = .ok (.invokevirtual 57, 3) := by decide +kernel
theorem d_Te_kindOf_5 : decode b_Te_kindOf 5 = .ok (.ifCond .eq 12, 3) := by decide +kernel
theorem d_Te_kindOf_8 : decode b_Te_kindOf 8 = .ok (.aload_n 0, 1) := by decide +kernel
theorem d_Te_kindOf_9 : decode b_Te_kindOf 9 = .ok (.getfield 11, 3) := by decide +kernel
theorem d_Te_kindOf_12 : decode b_Te_kindOf 12 = .ok (.iload_n 1, 1) := by decide +kernel
theorem d_Te_kindOf_13 : decode b_Te_kindOf 13 = .ok (.iaload, 1) := by decide +kernel
theorem d_Te_kindOf_14 : decode b_Te_kindOf 14 = .ok (.goto 4, 3) := by decide +kernel
theorem d_Te_kindOf_17 : decode b_Te_kindOf 17 = .ok (.iconst (-1), 1) := by decide +kernel
theorem d_Te_kindOf_18 : decode b_Te_kindOf 18 = .ok (.ireturn, 1) := by decide +kernel
def f_Te_kindOf_18 (s0 : Int32) (σ : St) : Int32 := s0
def k_Te_kindOf_18 (s0 : Int32) (σ : St) : Prop := True
def f_Te_kindOf (a1 : Int32) (σ : St) : Int32 := if (f_Te_has a1 σ) = 0 then (f_Te_kindOf_18 (-1) σ) else (f_Te_kindOf_18 (σ.1 7 a1.toNatClampNeg) σ)
def k_Te_kindOf (a1 : Int32) (σ : St) : Prop := (k_Te_has a1 σ) ∧ (((f_Te_has a1 σ) = 0 → (k_Te_kindOf_18 (-1) σ)) ∧ (¬ (f_Te_has a1 σ) = 0 → (vp_in a1 208 ∧ (k_Te_kindOf_18 (σ.1 7 a1.toNatClampNeg) σ))))
abbrev w_Te_kindOf : List Cond := Cond.code y_Te_kindOf b_Te_kindOf 2 (some .int) :: gw
abbrev rm_Te_kindOf : Room := { frames := 1, cells := 0, slots := 0, locals := 21 }
set_option maxHeartbeats 4000000 in
set_option maxRecDepth 100000 in
theorem c_Te_kindOf (l : Launch) (D : va_G) (ty : Nat → ClassId) (h : Nat → Nat) (px : va_W) (σ : St) (a1 : Int32) (hk : k_Te_kindOf a1 σ) : Met l y_Te_kindOf w_Te_kindOf rm_Te_kindOf (va_Pc [.ref (h 6), .int a1] (fun U => va_P D classes (Wc ty h σ px) U.heap ∧ va_K D classes (Ta ty) U)) (k2_QcV (.int (f_Te_kindOf a1 σ))) 0 0 (fun _ => False) := by
  refine Met.ofW (cc := b_Te_kindOf) (maxL := 2) (ret := (some .int)) (by decide) rfl ?_
  intro p e s m args below meth c s₁ B hml hv
  obtain ⟨ha, hP, hK⟩ := hv
  have hx := B.exec
  have hb := B.bytes
  have hr := B.returns
  have hg : ∀ w ∈ gw, w.before args s = true := fun w h9 => atoms_spec (ws := w_Te_kindOf) B.pre w (List.mem_cons_of_mem _ h9)
  have hown : s.vm.findClass "ClauseLedger$Terms" = some m.cls := findClass_of_methodNamed B.named
  have hlocks := B.notSynchronized
  have he : entryFrame m args 2 = entryFrame m ([.ref (h 6), .int a1] : List Value).toArray 2 := by rw [ha]
  rw [he, lg_entry_eq]
  have hl := lv_entry ([.ref (h 6), .int a1]) (n := 2) (Nat.le_of_ble_eq_true rfl)
  generalize (lg_sl ([.ref (h 6), .int a1]) ++ List.replicate (2 - (lg_sl ([.ref (h 6), .int a1])).length) Slot.unset).toArray = ls at hl ⊢
  have hl : lv_has ls 2 [(0, .ref (h 6)), (1, .int a1)] := hl
  generalize hv : f_Te_kindOf a1 σ = v
  replace hv := hv.symm
  have B18 : ∀ (ls : Array Slot) (s0 : Int32), v = f_Te_kindOf_18 s0 σ → k_Te_kindOf_18 s0 σ → lv_has ls 2 [] → W p l e (headSpec w_Te_kindOf rm_Te_kindOf).room s m args below meth c s.heap [] 0 0 (MQ below (k2_QcV (.int v)) args s 0 0 (fun _ => False)) (F0 m 18 ls [.int s0]) := by
    intro ls s0 hv hk hl
    unfold f_Te_kindOf_18 at hv
    unfold k_Te_kindOf_18 at hk
    exact W.iret hx hb hr (fun t ht hW => ⟨by rw [hv], ht⟩) (fun q h => nomatch h) d_Te_kindOf_18
  unfold f_Te_kindOf at hv
  unfold k_Te_kindOf at hk
  refine lv_aload_n hx hb d_Te_kindOf_0 rfl (lv_at hl 0 rfl) ?_
  refine lv_iload_n hx hb d_Te_kindOf_1 rfl (lv_at hl 1 rfl) ?_
  obtain ⟨hk0, hk⟩ := hk
  refine zz_callV (va_runV (As := [.int a1]) (rest := []) ⟨hx, hb, hml, hown, hg⟩ (c_Te_has l D ty h px σ a1 hk0) ⟨callB_of 1 hg (gw_C m_430) rfl rfl rfl (hg _ m_3) (hg _ m_435) hd_Te_has ⟨Nat.le_of_ble_eq_true rfl, Nat.le_of_ble_eq_true rfl⟩, hg _ m_428, hg _ m_429⟩ (zz_preV hK hP 6 rfl rfl) rfl rfl hl.1 rfl (lv_room (Nat.le_of_ble_eq_true rfl)) d_Te_kindOf_2 ⟨Nat.le_refl _, Nat.le_refl _⟩) ?_
  refine lv_if_eq (tgt := 17) hx hb d_Te_kindOf_5 (by decide) (fun hc => ?_) (fun hc => ?_)
  · have hv := hv.trans (if_pos hc)
    have hk := hk.1 hc
    refine lv_iconst (v := -1) hx hb d_Te_kindOf_17 (by decide) ?_
    exact B18 _ (-1) hv hk (lv_sub hl [] rfl)
  · have hv := hv.trans (if_neg hc)
    have hk := hk.2 hc
    refine lv_aload_n hx hb d_Te_kindOf_8 rfl (lv_at hl 0 rfl) ?_
    refine va_get (v := .ref (h 7)) (C := R_Te) (T := T_Te) (N := 14) hx hb hg in_Te hown hK hP 6 rfl rfl 0 (by decide) (hg _ m_69) (fun _ h9 => h9) rfl d_Te_kindOf_9 ?_
    refine lv_iload_n hx hb d_Te_kindOf_12 rfl (lv_at hl 1 rfl) ?_
    obtain ⟨hk0, hk⟩ := hk
    refine va_iald hx hb hK hP 7 0 rfl rfl hk0 d_Te_kindOf_13 ?_
    refine lv_goto (tgt := 18) hx hb d_Te_kindOf_14 (by decide) ?_
    exact B18 _ (σ.1 7 a1.toNatClampNeg) hv hk (lv_sub hl [] rfl)

-- ClauseLedger$Terms.sortOf(I)I
abbrev b_Te_sortOf : ByteArray := prog_11_method_5_code
def y_Te_sortOf : MethodName := ⟨"ClauseLedger$Terms", "sortOf", "(I)I"⟩
theorem hd_Te_sortOf : y_Te_sortOf.cls ≠ "java/lang/invoke/MethodHandle" ∧ y_Te_sortOf.cls ≠ "java/lang/invoke/VarHandle" ∧ (parseMethodDescriptor y_Te_sortOf.desc).map (fun d => d.parameters.length) = some 1 := by decide +kernel
theorem d_Te_sortOf_0 : decode b_Te_sortOf 0 = .ok (.aload_n 0, 1) := by decide +kernel
theorem d_Te_sortOf_1 : decode b_Te_sortOf 1 = .ok (.iload_n 1, 1) := by decide +kernel
theorem d_Te_sortOf_2 : decode b_Te_sortOf 2 = .ok (.invokevirtual 57, 3) := by decide +kernel
theorem d_Te_sortOf_5 : decode b_Te_sortOf 5 = .ok (.ifCond .eq 12, 3) := by decide +kernel
theorem d_Te_sortOf_8 : decode b_Te_sortOf 8 = .ok (.aload_n 0, 1) := by decide +kernel
theorem d_Te_sortOf_9 : decode b_Te_sortOf 9 = .ok (.getfield 15, 3) := by decide +kernel
theorem d_Te_sortOf_12 : decode b_Te_sortOf 12 = .ok (.iload_n 1, 1) := by decide +kernel
theorem d_Te_sortOf_13 : decode b_Te_sortOf 13 = .ok (.iaload, 1) := by decide +kernel
theorem d_Te_sortOf_14 : decode b_Te_sortOf 14 = .ok (.goto 4, 3) := by decide +kernel
theorem d_Te_sortOf_17 : decode b_Te_sortOf 17 = .ok (.iconst (-1), 1) := by decide +kernel
theorem d_Te_sortOf_18 : decode b_Te_sortOf 18 = .ok (.ireturn, 1) := by decide +kernel
def f_Te_sortOf_18 (s0 : Int32) (σ : St) : Int32 := s0
def k_Te_sortOf_18 (s0 : Int32) (σ : St) : Prop := True
def f_Te_sortOf (a1 : Int32) (σ : St) : Int32 := if (f_Te_has a1 σ) = 0 then (f_Te_sortOf_18 (-1) σ) else (f_Te_sortOf_18 (σ.1 8 a1.toNatClampNeg) σ)
def k_Te_sortOf (a1 : Int32) (σ : St) : Prop := (k_Te_has a1 σ) ∧ (((f_Te_has a1 σ) = 0 → (k_Te_sortOf_18 (-1) σ)) ∧ (¬ (f_Te_has a1 σ) = 0 → (vp_in a1 208 ∧ (k_Te_sortOf_18 (σ.1 8 a1.toNatClampNeg) σ))))
abbrev w_Te_sortOf : List Cond := Cond.code y_Te_sortOf b_Te_sortOf 2 (some .int) :: gw
abbrev rm_Te_sortOf : Room := { frames := 1, cells := 0, slots := 0, locals := 21 }
set_option maxHeartbeats 4000000 in
set_option maxRecDepth 100000 in
theorem c_Te_sortOf (l : Launch) (D : va_G) (ty : Nat → ClassId) (h : Nat → Nat) (px : va_W) (σ : St) (a1 : Int32) (hk : k_Te_sortOf a1 σ) : Met l y_Te_sortOf w_Te_sortOf rm_Te_sortOf (va_Pc [.ref (h 6), .int a1] (fun U => va_P D classes (Wc ty h σ px) U.heap ∧ va_K D classes (Ta ty) U)) (k2_QcV (.int (f_Te_sortOf a1 σ))) 0 0 (fun _ => False) := by
  refine Met.ofW (cc := b_Te_sortOf) (maxL := 2) (ret := (some .int)) (by decide) rfl ?_
  intro p e s m args below meth c s₁ B hml hv
  obtain ⟨ha, hP, hK⟩ := hv
  have hx := B.exec
  have hb := B.bytes
  have hr := B.returns
  have hg : ∀ w ∈ gw, w.before args s = true := fun w h9 => atoms_spec (ws := w_Te_sortOf) B.pre w (List.mem_cons_of_mem _ h9)
  have hown : s.vm.findClass "ClauseLedger$Terms" = some m.cls := findClass_of_methodNamed B.named
  have hlocks := B.notSynchronized
  have he : entryFrame m args 2 = entryFrame m ([.ref (h 6), .int a1] : List Value).toArray 2 := by rw [ha]
  rw [he, lg_entry_eq]
  have hl := lv_entry ([.ref (h 6), .int a1]) (n := 2) (Nat.le_of_ble_eq_true rfl)
  generalize (lg_sl ([.ref (h 6), .int a1]) ++ List.replicate (2 - (lg_sl ([.ref (h 6), .int a1])).length) Slot.unset).toArray = ls at hl ⊢
  have hl : lv_has ls 2 [(0, .ref (h 6)), (1, .int a1)] := hl
  generalize hv : f_Te_sortOf a1 σ = v
  replace hv := hv.symm
  have B18 : ∀ (ls : Array Slot) (s0 : Int32), v = f_Te_sortOf_18 s0 σ → k_Te_sortOf_18 s0 σ → lv_has ls 2 [] → W p l e (headSpec w_Te_sortOf rm_Te_sortOf).room s m args below meth c s.heap [] 0 0 (MQ below (k2_QcV (.int v)) args s 0 0 (fun _ => False)) (F0 m 18 ls [.int s0]) := by
    intro ls s0 hv hk hl
    unfold f_Te_sortOf_18 at hv
    unfold k_Te_sortOf_18 at hk
    exact W.iret hx hb hr (fun t ht hW => ⟨by rw [hv], ht⟩) (fun q h => nomatch h) d_Te_sortOf_18
  unfold f_Te_sortOf at hv
  unfold k_Te_sortOf at hk
  refine lv_aload_n hx hb d_Te_sortOf_0 rfl (lv_at hl 0 rfl) ?_
  refine lv_iload_n hx hb d_Te_sortOf_1 rfl (lv_at hl 1 rfl) ?_
  obtain ⟨hk0, hk⟩ := hk
  refine zz_callV (va_runV (As := [.int a1]) (rest := []) ⟨hx, hb, hml, hown, hg⟩ (c_Te_has l D ty h px σ a1 hk0) ⟨callB_of 1 hg (gw_C m_430) rfl rfl rfl (hg _ m_3) (hg _ m_435) hd_Te_has ⟨Nat.le_of_ble_eq_true rfl, Nat.le_of_ble_eq_true rfl⟩, hg _ m_428, hg _ m_429⟩ (zz_preV hK hP 6 rfl rfl) rfl rfl hl.1 rfl (lv_room (Nat.le_of_ble_eq_true rfl)) d_Te_sortOf_2 ⟨Nat.le_refl _, Nat.le_refl _⟩) ?_
  refine lv_if_eq (tgt := 17) hx hb d_Te_sortOf_5 (by decide) (fun hc => ?_) (fun hc => ?_)
  · have hv := hv.trans (if_pos hc)
    have hk := hk.1 hc
    refine lv_iconst (v := -1) hx hb d_Te_sortOf_17 (by decide) ?_
    exact B18 _ (-1) hv hk (lv_sub hl [] rfl)
  · have hv := hv.trans (if_neg hc)
    have hk := hk.2 hc
    refine lv_aload_n hx hb d_Te_sortOf_8 rfl (lv_at hl 0 rfl) ?_
    refine va_get (v := .ref (h 8)) (C := R_Te) (T := T_Te) (N := 14) hx hb hg in_Te hown hK hP 6 rfl rfl 1 (by decide) (hg _ m_70) (fun _ h9 => h9) rfl d_Te_sortOf_9 ?_
    refine lv_iload_n hx hb d_Te_sortOf_12 rfl (lv_at hl 1 rfl) ?_
    obtain ⟨hk0, hk⟩ := hk
    refine va_iald hx hb hK hP 8 0 rfl rfl hk0 d_Te_sortOf_13 ?_
    refine lv_goto (tgt := 18) hx hb d_Te_sortOf_14 (by decide) ?_
    exact B18 _ (σ.1 8 a1.toNatClampNeg) hv hk (lv_sub hl [] rfl)

-- ClauseLedger$Terms.isTruth(I)Z
abbrev b_Te_isTruth : ByteArray := prog_11_method_6_code
def y_Te_isTruth : MethodName := ⟨"ClauseLedger$Terms", "isTruth", "(I)Z"⟩
theorem hd_Te_isTruth : y_Te_isTruth.cls ≠ "java/lang/invoke/MethodHandle" ∧ y_Te_isTruth.cls ≠ "java/lang/invoke/VarHandle" ∧ (parseMethodDescriptor y_Te_isTruth.desc).map (fun d => d.parameters.length) = some 1 := by decide +kernel
theorem d_Te_isTruth_0 : decode b_Te_isTruth 0 = .ok (.aload_n 0, 1) := by decide +kernel
theorem d_Te_isTruth_1 : decode b_Te_isTruth 1 = .ok (.iload_n 1, 1) := by decide +kernel
theorem d_Te_isTruth_2 : decode b_Te_isTruth 2 = .ok (.invokevirtual 61, 3) := by decide +kernel
theorem d_Te_isTruth_5 : decode b_Te_isTruth 5 = .ok (.ifCond .ne 7, 3) := by decide +kernel
theorem d_Te_isTruth_8 : decode b_Te_isTruth 8 = .ok (.iconst 1, 1) := by decide +kernel
theorem d_Te_isTruth_9 : decode b_Te_isTruth 9 = .ok (.goto 4, 3) := by decide +kernel
theorem d_Te_isTruth_12 : decode b_Te_isTruth 12 = .ok (.iconst 0, 1) := by decide +kernel
theorem d_Te_isTruth_13 : decode b_Te_isTruth 13 = .ok (.ireturn, 1) := by decide +kernel
def f_Te_isTruth_13 (s0 : Int32) (σ : St) : Int32 := s0
def k_Te_isTruth_13 (s0 : Int32) (σ : St) : Prop := (narrow .boolean (.int s0) = .int s0) ∧ True
def f_Te_isTruth (a1 : Int32) (σ : St) : Int32 := if (f_Te_sortOf a1 σ) = 0 then (f_Te_isTruth_13 1 σ) else (f_Te_isTruth_13 0 σ)
def k_Te_isTruth (a1 : Int32) (σ : St) : Prop := (k_Te_sortOf a1 σ) ∧ (((f_Te_sortOf a1 σ) = 0 → (k_Te_isTruth_13 1 σ)) ∧ (¬ (f_Te_sortOf a1 σ) = 0 → (k_Te_isTruth_13 0 σ)))
abbrev w_Te_isTruth : List Cond := Cond.code y_Te_isTruth b_Te_isTruth 2 (some .boolean) :: gw
abbrev rm_Te_isTruth : Room := { frames := 2, cells := 0, slots := 0, locals := 42 }
set_option maxHeartbeats 4000000 in
set_option maxRecDepth 100000 in
theorem c_Te_isTruth (l : Launch) (D : va_G) (ty : Nat → ClassId) (h : Nat → Nat) (px : va_W) (σ : St) (a1 : Int32) (hk : k_Te_isTruth a1 σ) : Met l y_Te_isTruth w_Te_isTruth rm_Te_isTruth (va_Pc [.ref (h 6), .int a1] (fun U => va_P D classes (Wc ty h σ px) U.heap ∧ va_K D classes (Ta ty) U)) (k2_QcV (.int (f_Te_isTruth a1 σ))) 0 0 (fun _ => False) := by
  refine Met.ofW (cc := b_Te_isTruth) (maxL := 2) (ret := (some .boolean)) (by decide) rfl ?_
  intro p e s m args below meth c s₁ B hml hv
  obtain ⟨ha, hP, hK⟩ := hv
  have hx := B.exec
  have hb := B.bytes
  have hr := B.returns
  have hg : ∀ w ∈ gw, w.before args s = true := fun w h9 => atoms_spec (ws := w_Te_isTruth) B.pre w (List.mem_cons_of_mem _ h9)
  have hown : s.vm.findClass "ClauseLedger$Terms" = some m.cls := findClass_of_methodNamed B.named
  have hlocks := B.notSynchronized
  have he : entryFrame m args 2 = entryFrame m ([.ref (h 6), .int a1] : List Value).toArray 2 := by rw [ha]
  rw [he, lg_entry_eq]
  have hl := lv_entry ([.ref (h 6), .int a1]) (n := 2) (Nat.le_of_ble_eq_true rfl)
  generalize (lg_sl ([.ref (h 6), .int a1]) ++ List.replicate (2 - (lg_sl ([.ref (h 6), .int a1])).length) Slot.unset).toArray = ls at hl ⊢
  have hl : lv_has ls 2 [(0, .ref (h 6)), (1, .int a1)] := hl
  generalize hv : f_Te_isTruth a1 σ = v
  replace hv := hv.symm
  have B13 : ∀ (ls : Array Slot) (s0 : Int32), v = f_Te_isTruth_13 s0 σ → k_Te_isTruth_13 s0 σ → lv_has ls 2 [] → W p l e (headSpec w_Te_isTruth rm_Te_isTruth).room s m args below meth c s.heap [] 0 0 (MQ below (k2_QcV (.int v)) args s 0 0 (fun _ => False)) (F0 m 13 ls [.int s0]) := by
    intro ls s0 hv hk hl
    unfold f_Te_isTruth_13 at hv
    unfold k_Te_isTruth_13 at hk
    obtain ⟨hk0, hk⟩ := hk
    exact W.zret hx hb hr hk0 (fun t ht hW => ⟨by rw [hv], ht⟩) (fun q h => nomatch h) d_Te_isTruth_13
  unfold f_Te_isTruth at hv
  unfold k_Te_isTruth at hk
  refine lv_aload_n hx hb d_Te_isTruth_0 rfl (lv_at hl 0 rfl) ?_
  refine lv_iload_n hx hb d_Te_isTruth_1 rfl (lv_at hl 1 rfl) ?_
  obtain ⟨hk0, hk⟩ := hk
  refine zz_callV (va_runV (As := [.int a1]) (rest := []) ⟨hx, hb, hml, hown, hg⟩ (c_Te_sortOf l D ty h px σ a1 hk0) ⟨callB_of 1 hg (gw_C m_439) rfl rfl rfl (hg _ m_3) (hg _ m_662) hd_Te_sortOf ⟨Nat.le_of_ble_eq_true rfl, Nat.le_of_ble_eq_true rfl⟩, hg _ m_437, hg _ m_438⟩ (zz_preV hK hP 6 rfl rfl) rfl rfl hl.1 rfl (lv_room (Nat.le_of_ble_eq_true rfl)) d_Te_isTruth_2 ⟨Nat.le_refl _, Nat.le_refl _⟩) ?_
  refine lv_if_ne (tgt := 12) hx hb d_Te_isTruth_5 (by decide) (fun hc => ?_) (fun hc => ?_)
  · have hv := hv.trans (if_neg hc)
    have hk := hk.2 hc
    refine lv_iconst (v := 0) hx hb d_Te_isTruth_12 (by decide) ?_
    exact B13 _ 0 hv hk (lv_sub hl [] rfl)
  · have hv := hv.trans (if_pos hc)
    have hk := hk.1 hc
    refine lv_iconst (v := 1) hx hb d_Te_isTruth_8 (by decide) ?_
    refine lv_goto (tgt := 13) hx hb d_Te_isTruth_9 (by decide) ?_
    exact B13 _ 1 hv hk (lv_sub hl [] rfl)

-- ClauseLedger$Terms.nameOf(I)I
abbrev b_Te_nameOf : ByteArray := prog_11_method_7_code
def y_Te_nameOf : MethodName := ⟨"ClauseLedger$Terms", "nameOf", "(I)I"⟩
theorem hd_Te_nameOf : y_Te_nameOf.cls ≠ "java/lang/invoke/MethodHandle" ∧ y_Te_nameOf.cls ≠ "java/lang/invoke/VarHandle" ∧ (parseMethodDescriptor y_Te_nameOf.desc).map (fun d => d.parameters.length) = some 1 := by decide +kernel
theorem d_Te_nameOf_0 : decode b_Te_nameOf 0 = .ok (.aload_n 0, 1) := by decide +kernel
theorem d_Te_nameOf_1 : decode b_Te_nameOf 1 = .ok (.iload_n 1, 1) := by decide +kernel
theorem d_Te_nameOf_2 : decode b_Te_nameOf 2 = .ok (.invokevirtual 57, 3) := by decide +kernel
theorem d_Te_nameOf_5 : decode b_Te_nameOf 5 = .ok (.ifCond .eq 12, 3) := by decide +kernel
theorem d_Te_nameOf_8 : decode b_Te_nameOf 8 = .ok (.aload_n 0, 1) := by decide +kernel
theorem d_Te_nameOf_9 : decode b_Te_nameOf 9 = .ok (.getfield 18, 3) := by decide +kernel
theorem d_Te_nameOf_12 : decode b_Te_nameOf 12 = .ok (.iload_n 1, 1) := by decide +kernel
theorem d_Te_nameOf_13 : decode b_Te_nameOf 13 = .ok (.iaload, 1) := by decide +kernel
theorem d_Te_nameOf_14 : decode b_Te_nameOf 14 = .ok (.goto 4, 3) := by decide +kernel
theorem d_Te_nameOf_17 : decode b_Te_nameOf 17 = .ok (.iconst (-1), 1) := by decide +kernel
theorem d_Te_nameOf_18 : decode b_Te_nameOf 18 = .ok (.ireturn, 1) := by decide +kernel
def f_Te_nameOf_18 (s0 : Int32) (σ : St) : Int32 := s0
def k_Te_nameOf_18 (s0 : Int32) (σ : St) : Prop := True
def f_Te_nameOf (a1 : Int32) (σ : St) : Int32 := if (f_Te_has a1 σ) = 0 then (f_Te_nameOf_18 (-1) σ) else (f_Te_nameOf_18 (σ.1 9 a1.toNatClampNeg) σ)
def k_Te_nameOf (a1 : Int32) (σ : St) : Prop := (k_Te_has a1 σ) ∧ (((f_Te_has a1 σ) = 0 → (k_Te_nameOf_18 (-1) σ)) ∧ (¬ (f_Te_has a1 σ) = 0 → (vp_in a1 208 ∧ (k_Te_nameOf_18 (σ.1 9 a1.toNatClampNeg) σ))))
abbrev w_Te_nameOf : List Cond := Cond.code y_Te_nameOf b_Te_nameOf 2 (some .int) :: gw
abbrev rm_Te_nameOf : Room := { frames := 1, cells := 0, slots := 0, locals := 21 }
set_option maxHeartbeats 4000000 in
set_option maxRecDepth 100000 in
theorem c_Te_nameOf (l : Launch) (D : va_G) (ty : Nat → ClassId) (h : Nat → Nat) (px : va_W) (σ : St) (a1 : Int32) (hk : k_Te_nameOf a1 σ) : Met l y_Te_nameOf w_Te_nameOf rm_Te_nameOf (va_Pc [.ref (h 6), .int a1] (fun U => va_P D classes (Wc ty h σ px) U.heap ∧ va_K D classes (Ta ty) U)) (k2_QcV (.int (f_Te_nameOf a1 σ))) 0 0 (fun _ => False) := by
  refine Met.ofW (cc := b_Te_nameOf) (maxL := 2) (ret := (some .int)) (by decide) rfl ?_
  intro p e s m args below meth c s₁ B hml hv
  obtain ⟨ha, hP, hK⟩ := hv
  have hx := B.exec
  have hb := B.bytes
  have hr := B.returns
  have hg : ∀ w ∈ gw, w.before args s = true := fun w h9 => atoms_spec (ws := w_Te_nameOf) B.pre w (List.mem_cons_of_mem _ h9)
  have hown : s.vm.findClass "ClauseLedger$Terms" = some m.cls := findClass_of_methodNamed B.named
  have hlocks := B.notSynchronized
  have he : entryFrame m args 2 = entryFrame m ([.ref (h 6), .int a1] : List Value).toArray 2 := by rw [ha]
  rw [he, lg_entry_eq]
  have hl := lv_entry ([.ref (h 6), .int a1]) (n := 2) (Nat.le_of_ble_eq_true rfl)
  generalize (lg_sl ([.ref (h 6), .int a1]) ++ List.replicate (2 - (lg_sl ([.ref (h 6), .int a1])).length) Slot.unset).toArray = ls at hl ⊢
  have hl : lv_has ls 2 [(0, .ref (h 6)), (1, .int a1)] := hl
  generalize hv : f_Te_nameOf a1 σ = v
  replace hv := hv.symm
  have B18 : ∀ (ls : Array Slot) (s0 : Int32), v = f_Te_nameOf_18 s0 σ → k_Te_nameOf_18 s0 σ → lv_has ls 2 [] → W p l e (headSpec w_Te_nameOf rm_Te_nameOf).room s m args below meth c s.heap [] 0 0 (MQ below (k2_QcV (.int v)) args s 0 0 (fun _ => False)) (F0 m 18 ls [.int s0]) := by
    intro ls s0 hv hk hl
    unfold f_Te_nameOf_18 at hv
    unfold k_Te_nameOf_18 at hk
    exact W.iret hx hb hr (fun t ht hW => ⟨by rw [hv], ht⟩) (fun q h => nomatch h) d_Te_nameOf_18
  unfold f_Te_nameOf at hv
  unfold k_Te_nameOf at hk
  refine lv_aload_n hx hb d_Te_nameOf_0 rfl (lv_at hl 0 rfl) ?_
  refine lv_iload_n hx hb d_Te_nameOf_1 rfl (lv_at hl 1 rfl) ?_
  obtain ⟨hk0, hk⟩ := hk
  refine zz_callV (va_runV (As := [.int a1]) (rest := []) ⟨hx, hb, hml, hown, hg⟩ (c_Te_has l D ty h px σ a1 hk0) ⟨callB_of 1 hg (gw_C m_430) rfl rfl rfl (hg _ m_3) (hg _ m_435) hd_Te_has ⟨Nat.le_of_ble_eq_true rfl, Nat.le_of_ble_eq_true rfl⟩, hg _ m_428, hg _ m_429⟩ (zz_preV hK hP 6 rfl rfl) rfl rfl hl.1 rfl (lv_room (Nat.le_of_ble_eq_true rfl)) d_Te_nameOf_2 ⟨Nat.le_refl _, Nat.le_refl _⟩) ?_
  refine lv_if_eq (tgt := 17) hx hb d_Te_nameOf_5 (by decide) (fun hc => ?_) (fun hc => ?_)
  · have hv := hv.trans (if_pos hc)
    have hk := hk.1 hc
    refine lv_iconst (v := -1) hx hb d_Te_nameOf_17 (by decide) ?_
    exact B18 _ (-1) hv hk (lv_sub hl [] rfl)
  · have hv := hv.trans (if_neg hc)
    have hk := hk.2 hc
    refine lv_aload_n hx hb d_Te_nameOf_8 rfl (lv_at hl 0 rfl) ?_
    refine va_get (v := .ref (h 9)) (C := R_Te) (T := T_Te) (N := 14) hx hb hg in_Te hown hK hP 6 rfl rfl 2 (by decide) (hg _ m_71) (fun _ h9 => h9) rfl d_Te_nameOf_9 ?_
    refine lv_iload_n hx hb d_Te_nameOf_12 rfl (lv_at hl 1 rfl) ?_
    obtain ⟨hk0, hk⟩ := hk
    refine va_iald hx hb hK hP 9 0 rfl rfl hk0 d_Te_nameOf_13 ?_
    refine lv_goto (tgt := 18) hx hb d_Te_nameOf_14 (by decide) ?_
    exact B18 _ (σ.1 9 a1.toNatClampNeg) hv hk (lv_sub hl [] rfl)

-- ClauseLedger$Terms.firstOf(I)I
abbrev b_Te_firstOf : ByteArray := prog_11_method_8_code
def y_Te_firstOf : MethodName := ⟨"ClauseLedger$Terms", "firstOf", "(I)I"⟩
theorem hd_Te_firstOf : y_Te_firstOf.cls ≠ "java/lang/invoke/MethodHandle" ∧ y_Te_firstOf.cls ≠ "java/lang/invoke/VarHandle" ∧ (parseMethodDescriptor y_Te_firstOf.desc).map (fun d => d.parameters.length) = some 1 := by decide +kernel
theorem d_Te_firstOf_0 : decode b_Te_firstOf 0 = .ok (.aload_n 0, 1) := by decide +kernel
theorem d_Te_firstOf_1 : decode b_Te_firstOf 1 = .ok (.iload_n 1, 1) := by decide +kernel
theorem d_Te_firstOf_2 : decode b_Te_firstOf 2 = .ok (.invokevirtual 57, 3) := by decide +kernel
theorem d_Te_firstOf_5 : decode b_Te_firstOf 5 = .ok (.ifCond .eq 12, 3) := by decide +kernel
theorem d_Te_firstOf_8 : decode b_Te_firstOf 8 = .ok (.aload_n 0, 1) := by decide +kernel
theorem d_Te_firstOf_9 : decode b_Te_firstOf 9 = .ok (.getfield 21, 3) := by decide +kernel
theorem d_Te_firstOf_12 : decode b_Te_firstOf 12 = .ok (.iload_n 1, 1) := by decide +kernel
theorem d_Te_firstOf_13 : decode b_Te_firstOf 13 = .ok (.iaload, 1) := by decide +kernel
theorem d_Te_firstOf_14 : decode b_Te_firstOf 14 = .ok (.goto 4, 3) := by decide +kernel
theorem d_Te_firstOf_17 : decode b_Te_firstOf 17 = .ok (.iconst (-1), 1) := by decide +kernel
theorem d_Te_firstOf_18 : decode b_Te_firstOf 18 = .ok (.ireturn, 1) := by decide +kernel
def f_Te_firstOf_18 (s0 : Int32) (σ : St) : Int32 := s0
def k_Te_firstOf_18 (s0 : Int32) (σ : St) : Prop := True
def f_Te_firstOf (a1 : Int32) (σ : St) : Int32 := if (f_Te_has a1 σ) = 0 then (f_Te_firstOf_18 (-1) σ) else (f_Te_firstOf_18 (σ.1 10 a1.toNatClampNeg) σ)
def k_Te_firstOf (a1 : Int32) (σ : St) : Prop := (k_Te_has a1 σ) ∧ (((f_Te_has a1 σ) = 0 → (k_Te_firstOf_18 (-1) σ)) ∧ (¬ (f_Te_has a1 σ) = 0 → (vp_in a1 208 ∧ (k_Te_firstOf_18 (σ.1 10 a1.toNatClampNeg) σ))))
abbrev w_Te_firstOf : List Cond := Cond.code y_Te_firstOf b_Te_firstOf 2 (some .int) :: gw
abbrev rm_Te_firstOf : Room := { frames := 1, cells := 0, slots := 0, locals := 21 }
set_option maxHeartbeats 4000000 in
set_option maxRecDepth 100000 in
theorem c_Te_firstOf (l : Launch) (D : va_G) (ty : Nat → ClassId) (h : Nat → Nat) (px : va_W) (σ : St) (a1 : Int32) (hk : k_Te_firstOf a1 σ) : Met l y_Te_firstOf w_Te_firstOf rm_Te_firstOf (va_Pc [.ref (h 6), .int a1] (fun U => va_P D classes (Wc ty h σ px) U.heap ∧ va_K D classes (Ta ty) U)) (k2_QcV (.int (f_Te_firstOf a1 σ))) 0 0 (fun _ => False) := by
  refine Met.ofW (cc := b_Te_firstOf) (maxL := 2) (ret := (some .int)) (by decide) rfl ?_
  intro p e s m args below meth c s₁ B hml hv
  obtain ⟨ha, hP, hK⟩ := hv
  have hx := B.exec
  have hb := B.bytes
  have hr := B.returns
  have hg : ∀ w ∈ gw, w.before args s = true := fun w h9 => atoms_spec (ws := w_Te_firstOf) B.pre w (List.mem_cons_of_mem _ h9)
  have hown : s.vm.findClass "ClauseLedger$Terms" = some m.cls := findClass_of_methodNamed B.named
  have hlocks := B.notSynchronized
  have he : entryFrame m args 2 = entryFrame m ([.ref (h 6), .int a1] : List Value).toArray 2 := by rw [ha]
  rw [he, lg_entry_eq]
  have hl := lv_entry ([.ref (h 6), .int a1]) (n := 2) (Nat.le_of_ble_eq_true rfl)
  generalize (lg_sl ([.ref (h 6), .int a1]) ++ List.replicate (2 - (lg_sl ([.ref (h 6), .int a1])).length) Slot.unset).toArray = ls at hl ⊢
  have hl : lv_has ls 2 [(0, .ref (h 6)), (1, .int a1)] := hl
  generalize hv : f_Te_firstOf a1 σ = v
  replace hv := hv.symm
  have B18 : ∀ (ls : Array Slot) (s0 : Int32), v = f_Te_firstOf_18 s0 σ → k_Te_firstOf_18 s0 σ → lv_has ls 2 [] → W p l e (headSpec w_Te_firstOf rm_Te_firstOf).room s m args below meth c s.heap [] 0 0 (MQ below (k2_QcV (.int v)) args s 0 0 (fun _ => False)) (F0 m 18 ls [.int s0]) := by
    intro ls s0 hv hk hl
    unfold f_Te_firstOf_18 at hv
    unfold k_Te_firstOf_18 at hk
    exact W.iret hx hb hr (fun t ht hW => ⟨by rw [hv], ht⟩) (fun q h => nomatch h) d_Te_firstOf_18
  unfold f_Te_firstOf at hv
  unfold k_Te_firstOf at hk
  refine lv_aload_n hx hb d_Te_firstOf_0 rfl (lv_at hl 0 rfl) ?_
  refine lv_iload_n hx hb d_Te_firstOf_1 rfl (lv_at hl 1 rfl) ?_
  obtain ⟨hk0, hk⟩ := hk
  refine zz_callV (va_runV (As := [.int a1]) (rest := []) ⟨hx, hb, hml, hown, hg⟩ (c_Te_has l D ty h px σ a1 hk0) ⟨callB_of 1 hg (gw_C m_430) rfl rfl rfl (hg _ m_3) (hg _ m_435) hd_Te_has ⟨Nat.le_of_ble_eq_true rfl, Nat.le_of_ble_eq_true rfl⟩, hg _ m_428, hg _ m_429⟩ (zz_preV hK hP 6 rfl rfl) rfl rfl hl.1 rfl (lv_room (Nat.le_of_ble_eq_true rfl)) d_Te_firstOf_2 ⟨Nat.le_refl _, Nat.le_refl _⟩) ?_
  refine lv_if_eq (tgt := 17) hx hb d_Te_firstOf_5 (by decide) (fun hc => ?_) (fun hc => ?_)
  · have hv := hv.trans (if_pos hc)
    have hk := hk.1 hc
    refine lv_iconst (v := -1) hx hb d_Te_firstOf_17 (by decide) ?_
    exact B18 _ (-1) hv hk (lv_sub hl [] rfl)
  · have hv := hv.trans (if_neg hc)
    have hk := hk.2 hc
    refine lv_aload_n hx hb d_Te_firstOf_8 rfl (lv_at hl 0 rfl) ?_
    refine va_get (v := .ref (h 10)) (C := R_Te) (T := T_Te) (N := 14) hx hb hg in_Te hown hK hP 6 rfl rfl 3 (by decide) (hg _ m_72) (fun _ h9 => h9) rfl d_Te_firstOf_9 ?_
    refine lv_iload_n hx hb d_Te_firstOf_12 rfl (lv_at hl 1 rfl) ?_
    obtain ⟨hk0, hk⟩ := hk
    refine va_iald hx hb hK hP 10 0 rfl rfl hk0 d_Te_firstOf_13 ?_
    refine lv_goto (tgt := 18) hx hb d_Te_firstOf_14 (by decide) ?_
    exact B18 _ (σ.1 10 a1.toNatClampNeg) hv hk (lv_sub hl [] rfl)

-- ClauseLedger$Terms.secondOf(I)I
abbrev b_Te_secondOf : ByteArray := prog_11_method_9_code
def y_Te_secondOf : MethodName := ⟨"ClauseLedger$Terms", "secondOf", "(I)I"⟩
theorem hd_Te_secondOf : y_Te_secondOf.cls ≠ "java/lang/invoke/MethodHandle" ∧ y_Te_secondOf.cls ≠ "java/lang/invoke/VarHandle" ∧ (parseMethodDescriptor y_Te_secondOf.desc).map (fun d => d.parameters.length) = some 1 := by decide +kernel
theorem d_Te_secondOf_0 : decode b_Te_secondOf 0 = .ok (.aload_n 0, 1) := by decide +kernel
theorem d_Te_secondOf_1 : decode b_Te_secondOf 1 = .ok (.iload_n 1, 1) := by decide +kernel
theorem d_Te_secondOf_2 : decode b_Te_secondOf 2 = .ok (.invokevirtual 57, 3) := by decide +kernel
theorem d_Te_secondOf_5 : decode b_Te_secondOf 5 = .ok (.ifCond .eq 12, 3) := by decide +kernel
theorem d_Te_secondOf_8 : decode b_Te_secondOf 8 = .ok (.aload_n 0, 1) := by decide +kernel
theorem d_Te_secondOf_9 : decode b_Te_secondOf 9 = .ok (.getfield 24, 3) := by decide +kernel
theorem d_Te_secondOf_12 : decode b_Te_secondOf 12 = .ok (.iload_n 1, 1) := by decide +kernel
theorem d_Te_secondOf_13 : decode b_Te_secondOf 13 = .ok (.iaload, 1) := by decide +kernel
theorem d_Te_secondOf_14 : decode b_Te_secondOf 14 = .ok (.goto 4, 3) := by decide +kernel
theorem d_Te_secondOf_17 : decode b_Te_secondOf 17 = .ok (.iconst (-1), 1) := by decide +kernel
theorem d_Te_secondOf_18 : decode b_Te_secondOf 18 = .ok (.ireturn, 1) := by decide +kernel
def f_Te_secondOf_18 (s0 : Int32) (σ : St) : Int32 := s0
def k_Te_secondOf_18 (s0 : Int32) (σ : St) : Prop := True
def f_Te_secondOf (a1 : Int32) (σ : St) : Int32 := if (f_Te_has a1 σ) = 0 then (f_Te_secondOf_18 (-1) σ) else (f_Te_secondOf_18 (σ.1 11 a1.toNatClampNeg) σ)
def k_Te_secondOf (a1 : Int32) (σ : St) : Prop := (k_Te_has a1 σ) ∧ (((f_Te_has a1 σ) = 0 → (k_Te_secondOf_18 (-1) σ)) ∧ (¬ (f_Te_has a1 σ) = 0 → (vp_in a1 208 ∧ (k_Te_secondOf_18 (σ.1 11 a1.toNatClampNeg) σ))))
abbrev w_Te_secondOf : List Cond := Cond.code y_Te_secondOf b_Te_secondOf 2 (some .int) :: gw
abbrev rm_Te_secondOf : Room := { frames := 1, cells := 0, slots := 0, locals := 21 }
set_option maxHeartbeats 4000000 in
set_option maxRecDepth 100000 in
theorem c_Te_secondOf (l : Launch) (D : va_G) (ty : Nat → ClassId) (h : Nat → Nat) (px : va_W) (σ : St) (a1 : Int32) (hk : k_Te_secondOf a1 σ) : Met l y_Te_secondOf w_Te_secondOf rm_Te_secondOf (va_Pc [.ref (h 6), .int a1] (fun U => va_P D classes (Wc ty h σ px) U.heap ∧ va_K D classes (Ta ty) U)) (k2_QcV (.int (f_Te_secondOf a1 σ))) 0 0 (fun _ => False) := by
  refine Met.ofW (cc := b_Te_secondOf) (maxL := 2) (ret := (some .int)) (by decide) rfl ?_
  intro p e s m args below meth c s₁ B hml hv
  obtain ⟨ha, hP, hK⟩ := hv
  have hx := B.exec
  have hb := B.bytes
  have hr := B.returns
  have hg : ∀ w ∈ gw, w.before args s = true := fun w h9 => atoms_spec (ws := w_Te_secondOf) B.pre w (List.mem_cons_of_mem _ h9)
  have hown : s.vm.findClass "ClauseLedger$Terms" = some m.cls := findClass_of_methodNamed B.named
  have hlocks := B.notSynchronized
  have he : entryFrame m args 2 = entryFrame m ([.ref (h 6), .int a1] : List Value).toArray 2 := by rw [ha]
  rw [he, lg_entry_eq]
  have hl := lv_entry ([.ref (h 6), .int a1]) (n := 2) (Nat.le_of_ble_eq_true rfl)
  generalize (lg_sl ([.ref (h 6), .int a1]) ++ List.replicate (2 - (lg_sl ([.ref (h 6), .int a1])).length) Slot.unset).toArray = ls at hl ⊢
  have hl : lv_has ls 2 [(0, .ref (h 6)), (1, .int a1)] := hl
  generalize hv : f_Te_secondOf a1 σ = v
  replace hv := hv.symm
  have B18 : ∀ (ls : Array Slot) (s0 : Int32), v = f_Te_secondOf_18 s0 σ → k_Te_secondOf_18 s0 σ → lv_has ls 2 [] → W p l e (headSpec w_Te_secondOf rm_Te_secondOf).room s m args below meth c s.heap [] 0 0 (MQ below (k2_QcV (.int v)) args s 0 0 (fun _ => False)) (F0 m 18 ls [.int s0]) := by
    intro ls s0 hv hk hl
    unfold f_Te_secondOf_18 at hv
    unfold k_Te_secondOf_18 at hk
    exact W.iret hx hb hr (fun t ht hW => ⟨by rw [hv], ht⟩) (fun q h => nomatch h) d_Te_secondOf_18
  unfold f_Te_secondOf at hv
  unfold k_Te_secondOf at hk
  refine lv_aload_n hx hb d_Te_secondOf_0 rfl (lv_at hl 0 rfl) ?_
  refine lv_iload_n hx hb d_Te_secondOf_1 rfl (lv_at hl 1 rfl) ?_
  obtain ⟨hk0, hk⟩ := hk
  refine zz_callV (va_runV (As := [.int a1]) (rest := []) ⟨hx, hb, hml, hown, hg⟩ (c_Te_has l D ty h px σ a1 hk0) ⟨callB_of 1 hg (gw_C m_430) rfl rfl rfl (hg _ m_3) (hg _ m_435) hd_Te_has ⟨Nat.le_of_ble_eq_true rfl, Nat.le_of_ble_eq_true rfl⟩, hg _ m_428, hg _ m_429⟩ (zz_preV hK hP 6 rfl rfl) rfl rfl hl.1 rfl (lv_room (Nat.le_of_ble_eq_true rfl)) d_Te_secondOf_2 ⟨Nat.le_refl _, Nat.le_refl _⟩) ?_
  refine lv_if_eq (tgt := 17) hx hb d_Te_secondOf_5 (by decide) (fun hc => ?_) (fun hc => ?_)
  · have hv := hv.trans (if_pos hc)
    have hk := hk.1 hc
    refine lv_iconst (v := -1) hx hb d_Te_secondOf_17 (by decide) ?_
    exact B18 _ (-1) hv hk (lv_sub hl [] rfl)
  · have hv := hv.trans (if_neg hc)
    have hk := hk.2 hc
    refine lv_aload_n hx hb d_Te_secondOf_8 rfl (lv_at hl 0 rfl) ?_
    refine va_get (v := .ref (h 11)) (C := R_Te) (T := T_Te) (N := 14) hx hb hg in_Te hown hK hP 6 rfl rfl 4 (by decide) (hg _ m_73) (fun _ h9 => h9) rfl d_Te_secondOf_9 ?_
    refine lv_iload_n hx hb d_Te_secondOf_12 rfl (lv_at hl 1 rfl) ?_
    obtain ⟨hk0, hk⟩ := hk
    refine va_iald hx hb hK hP 11 0 rfl rfl hk0 d_Te_secondOf_13 ?_
    refine lv_goto (tgt := 18) hx hb d_Te_secondOf_14 (by decide) ?_
    exact B18 _ (σ.1 11 a1.toNatClampNeg) hv hk (lv_sub hl [] rfl)

-- ClauseLedger$Terms.topOf(I)I
abbrev b_Te_topOf : ByteArray := prog_11_method_10_code
def y_Te_topOf : MethodName := ⟨"ClauseLedger$Terms", "topOf", "(I)I"⟩
theorem hd_Te_topOf : y_Te_topOf.cls ≠ "java/lang/invoke/MethodHandle" ∧ y_Te_topOf.cls ≠ "java/lang/invoke/VarHandle" ∧ (parseMethodDescriptor y_Te_topOf.desc).map (fun d => d.parameters.length) = some 1 := by decide +kernel
theorem d_Te_topOf_0 : decode b_Te_topOf 0 = .ok (.aload_n 0, 1) := by decide +kernel
theorem d_Te_topOf_1 : decode b_Te_topOf 1 = .ok (.iload_n 1, 1) := by decide +kernel
theorem d_Te_topOf_2 : decode b_Te_topOf 2 = .ok (.invokevirtual 57, 3) := by decide +kernel
theorem d_Te_topOf_5 : decode b_Te_topOf 5 = .ok (.ifCond .eq 12, 3) := by decide +kernel
theorem d_Te_topOf_8 : decode b_Te_topOf 8 = .ok (.aload_n 0, 1) := by decide +kernel
theorem d_Te_topOf_9 : decode b_Te_topOf 9 = .ok (.getfield 27, 3) := by decide +kernel
theorem d_Te_topOf_12 : decode b_Te_topOf 12 = .ok (.iload_n 1, 1) := by decide +kernel
theorem d_Te_topOf_13 : decode b_Te_topOf 13 = .ok (.iaload, 1) := by decide +kernel
theorem d_Te_topOf_14 : decode b_Te_topOf 14 = .ok (.goto 4, 3) := by decide +kernel
theorem d_Te_topOf_17 : decode b_Te_topOf 17 = .ok (.iconst 0, 1) := by decide +kernel
theorem d_Te_topOf_18 : decode b_Te_topOf 18 = .ok (.ireturn, 1) := by decide +kernel
def f_Te_topOf_18 (s0 : Int32) (σ : St) : Int32 := s0
def k_Te_topOf_18 (s0 : Int32) (σ : St) : Prop := True
def f_Te_topOf (a1 : Int32) (σ : St) : Int32 := if (f_Te_has a1 σ) = 0 then (f_Te_topOf_18 0 σ) else (f_Te_topOf_18 (σ.1 12 a1.toNatClampNeg) σ)
def k_Te_topOf (a1 : Int32) (σ : St) : Prop := (k_Te_has a1 σ) ∧ (((f_Te_has a1 σ) = 0 → (k_Te_topOf_18 0 σ)) ∧ (¬ (f_Te_has a1 σ) = 0 → (vp_in a1 208 ∧ (k_Te_topOf_18 (σ.1 12 a1.toNatClampNeg) σ))))
abbrev w_Te_topOf : List Cond := Cond.code y_Te_topOf b_Te_topOf 2 (some .int) :: gw
abbrev rm_Te_topOf : Room := { frames := 1, cells := 0, slots := 0, locals := 21 }
set_option maxHeartbeats 4000000 in
set_option maxRecDepth 100000 in
theorem c_Te_topOf (l : Launch) (D : va_G) (ty : Nat → ClassId) (h : Nat → Nat) (px : va_W) (σ : St) (a1 : Int32) (hk : k_Te_topOf a1 σ) : Met l y_Te_topOf w_Te_topOf rm_Te_topOf (va_Pc [.ref (h 6), .int a1] (fun U => va_P D classes (Wc ty h σ px) U.heap ∧ va_K D classes (Ta ty) U)) (k2_QcV (.int (f_Te_topOf a1 σ))) 0 0 (fun _ => False) := by
  refine Met.ofW (cc := b_Te_topOf) (maxL := 2) (ret := (some .int)) (by decide) rfl ?_
  intro p e s m args below meth c s₁ B hml hv
  obtain ⟨ha, hP, hK⟩ := hv
  have hx := B.exec
  have hb := B.bytes
  have hr := B.returns
  have hg : ∀ w ∈ gw, w.before args s = true := fun w h9 => atoms_spec (ws := w_Te_topOf) B.pre w (List.mem_cons_of_mem _ h9)
  have hown : s.vm.findClass "ClauseLedger$Terms" = some m.cls := findClass_of_methodNamed B.named
  have hlocks := B.notSynchronized
  have he : entryFrame m args 2 = entryFrame m ([.ref (h 6), .int a1] : List Value).toArray 2 := by rw [ha]
  rw [he, lg_entry_eq]
  have hl := lv_entry ([.ref (h 6), .int a1]) (n := 2) (Nat.le_of_ble_eq_true rfl)
  generalize (lg_sl ([.ref (h 6), .int a1]) ++ List.replicate (2 - (lg_sl ([.ref (h 6), .int a1])).length) Slot.unset).toArray = ls at hl ⊢
  have hl : lv_has ls 2 [(0, .ref (h 6)), (1, .int a1)] := hl
  generalize hv : f_Te_topOf a1 σ = v
  replace hv := hv.symm
  have B18 : ∀ (ls : Array Slot) (s0 : Int32), v = f_Te_topOf_18 s0 σ → k_Te_topOf_18 s0 σ → lv_has ls 2 [] → W p l e (headSpec w_Te_topOf rm_Te_topOf).room s m args below meth c s.heap [] 0 0 (MQ below (k2_QcV (.int v)) args s 0 0 (fun _ => False)) (F0 m 18 ls [.int s0]) := by
    intro ls s0 hv hk hl
    unfold f_Te_topOf_18 at hv
    unfold k_Te_topOf_18 at hk
    exact W.iret hx hb hr (fun t ht hW => ⟨by rw [hv], ht⟩) (fun q h => nomatch h) d_Te_topOf_18
  unfold f_Te_topOf at hv
  unfold k_Te_topOf at hk
  refine lv_aload_n hx hb d_Te_topOf_0 rfl (lv_at hl 0 rfl) ?_
  refine lv_iload_n hx hb d_Te_topOf_1 rfl (lv_at hl 1 rfl) ?_
  obtain ⟨hk0, hk⟩ := hk
  refine zz_callV (va_runV (As := [.int a1]) (rest := []) ⟨hx, hb, hml, hown, hg⟩ (c_Te_has l D ty h px σ a1 hk0) ⟨callB_of 1 hg (gw_C m_430) rfl rfl rfl (hg _ m_3) (hg _ m_435) hd_Te_has ⟨Nat.le_of_ble_eq_true rfl, Nat.le_of_ble_eq_true rfl⟩, hg _ m_428, hg _ m_429⟩ (zz_preV hK hP 6 rfl rfl) rfl rfl hl.1 rfl (lv_room (Nat.le_of_ble_eq_true rfl)) d_Te_topOf_2 ⟨Nat.le_refl _, Nat.le_refl _⟩) ?_
  refine lv_if_eq (tgt := 17) hx hb d_Te_topOf_5 (by decide) (fun hc => ?_) (fun hc => ?_)
  · have hv := hv.trans (if_pos hc)
    have hk := hk.1 hc
    refine lv_iconst (v := 0) hx hb d_Te_topOf_17 (by decide) ?_
    exact B18 _ 0 hv hk (lv_sub hl [] rfl)
  · have hv := hv.trans (if_neg hc)
    have hk := hk.2 hc
    refine lv_aload_n hx hb d_Te_topOf_8 rfl (lv_at hl 0 rfl) ?_
    refine va_get (v := .ref (h 12)) (C := R_Te) (T := T_Te) (N := 14) hx hb hg in_Te hown hK hP 6 rfl rfl 5 (by decide) (hg _ m_74) (fun _ h9 => h9) rfl d_Te_topOf_9 ?_
    refine lv_iload_n hx hb d_Te_topOf_12 rfl (lv_at hl 1 rfl) ?_
    obtain ⟨hk0, hk⟩ := hk
    refine va_iald hx hb hK hP 12 0 rfl rfl hk0 d_Te_topOf_13 ?_
    refine lv_goto (tgt := 18) hx hb d_Te_topOf_14 (by decide) ?_
    exact B18 _ (σ.1 12 a1.toNatClampNeg) hv hk (lv_sub hl [] rfl)

-- ClauseLedger$Terms.bottomOf(I)I
abbrev b_Te_bottomOf : ByteArray := prog_11_method_11_code
def y_Te_bottomOf : MethodName := ⟨"ClauseLedger$Terms", "bottomOf", "(I)I"⟩
theorem hd_Te_bottomOf : y_Te_bottomOf.cls ≠ "java/lang/invoke/MethodHandle" ∧ y_Te_bottomOf.cls ≠ "java/lang/invoke/VarHandle" ∧ (parseMethodDescriptor y_Te_bottomOf.desc).map (fun d => d.parameters.length) = some 1 := by decide +kernel
theorem d_Te_bottomOf_0 : decode b_Te_bottomOf 0 = .ok (.aload_n 0, 1) := by decide +kernel
theorem d_Te_bottomOf_1 : decode b_Te_bottomOf 1 = .ok (.iload_n 1, 1) := by decide +kernel
theorem d_Te_bottomOf_2 : decode b_Te_bottomOf 2 = .ok (.invokevirtual 57, 3) := by decide +kernel
theorem d_Te_bottomOf_5 : decode b_Te_bottomOf 5 = .ok (.ifCond .eq 12, 3) := by decide +kernel
theorem d_Te_bottomOf_8 : decode b_Te_bottomOf 8 = .ok (.aload_n 0, 1) := by decide +kernel
theorem d_Te_bottomOf_9 : decode b_Te_bottomOf 9 = .ok (.getfield 30, 3) := by decide +kernel
theorem d_Te_bottomOf_12 : decode b_Te_bottomOf 12 = .ok (.iload_n 1, 1) := by decide +kernel
theorem d_Te_bottomOf_13 : decode b_Te_bottomOf 13 = .ok (.iaload, 1) := by decide +kernel
theorem d_Te_bottomOf_14 : decode b_Te_bottomOf 14 = .ok (.goto 4, 3) := by decide +kernel
theorem d_Te_bottomOf_17 : decode b_Te_bottomOf 17 = .ok (.iconst 1, 1) := by decide +kernel
theorem d_Te_bottomOf_18 : decode b_Te_bottomOf 18 = .ok (.ireturn, 1) := by decide +kernel
def f_Te_bottomOf_18 (s0 : Int32) (σ : St) : Int32 := s0
def k_Te_bottomOf_18 (s0 : Int32) (σ : St) : Prop := True
def f_Te_bottomOf (a1 : Int32) (σ : St) : Int32 := if (f_Te_has a1 σ) = 0 then (f_Te_bottomOf_18 1 σ) else (f_Te_bottomOf_18 (σ.1 13 a1.toNatClampNeg) σ)
def k_Te_bottomOf (a1 : Int32) (σ : St) : Prop := (k_Te_has a1 σ) ∧ (((f_Te_has a1 σ) = 0 → (k_Te_bottomOf_18 1 σ)) ∧ (¬ (f_Te_has a1 σ) = 0 → (vp_in a1 208 ∧ (k_Te_bottomOf_18 (σ.1 13 a1.toNatClampNeg) σ))))
abbrev w_Te_bottomOf : List Cond := Cond.code y_Te_bottomOf b_Te_bottomOf 2 (some .int) :: gw
abbrev rm_Te_bottomOf : Room := { frames := 1, cells := 0, slots := 0, locals := 21 }
set_option maxHeartbeats 4000000 in
set_option maxRecDepth 100000 in
theorem c_Te_bottomOf (l : Launch) (D : va_G) (ty : Nat → ClassId) (h : Nat → Nat) (px : va_W) (σ : St) (a1 : Int32) (hk : k_Te_bottomOf a1 σ) : Met l y_Te_bottomOf w_Te_bottomOf rm_Te_bottomOf (va_Pc [.ref (h 6), .int a1] (fun U => va_P D classes (Wc ty h σ px) U.heap ∧ va_K D classes (Ta ty) U)) (k2_QcV (.int (f_Te_bottomOf a1 σ))) 0 0 (fun _ => False) := by
  refine Met.ofW (cc := b_Te_bottomOf) (maxL := 2) (ret := (some .int)) (by decide) rfl ?_
  intro p e s m args below meth c s₁ B hml hv
  obtain ⟨ha, hP, hK⟩ := hv
  have hx := B.exec
  have hb := B.bytes
  have hr := B.returns
  have hg : ∀ w ∈ gw, w.before args s = true := fun w h9 => atoms_spec (ws := w_Te_bottomOf) B.pre w (List.mem_cons_of_mem _ h9)
  have hown : s.vm.findClass "ClauseLedger$Terms" = some m.cls := findClass_of_methodNamed B.named
  have hlocks := B.notSynchronized
  have he : entryFrame m args 2 = entryFrame m ([.ref (h 6), .int a1] : List Value).toArray 2 := by rw [ha]
  rw [he, lg_entry_eq]
  have hl := lv_entry ([.ref (h 6), .int a1]) (n := 2) (Nat.le_of_ble_eq_true rfl)
  generalize (lg_sl ([.ref (h 6), .int a1]) ++ List.replicate (2 - (lg_sl ([.ref (h 6), .int a1])).length) Slot.unset).toArray = ls at hl ⊢
  have hl : lv_has ls 2 [(0, .ref (h 6)), (1, .int a1)] := hl
  generalize hv : f_Te_bottomOf a1 σ = v
  replace hv := hv.symm
  have B18 : ∀ (ls : Array Slot) (s0 : Int32), v = f_Te_bottomOf_18 s0 σ → k_Te_bottomOf_18 s0 σ → lv_has ls 2 [] → W p l e (headSpec w_Te_bottomOf rm_Te_bottomOf).room s m args below meth c s.heap [] 0 0 (MQ below (k2_QcV (.int v)) args s 0 0 (fun _ => False)) (F0 m 18 ls [.int s0]) := by
    intro ls s0 hv hk hl
    unfold f_Te_bottomOf_18 at hv
    unfold k_Te_bottomOf_18 at hk
    exact W.iret hx hb hr (fun t ht hW => ⟨by rw [hv], ht⟩) (fun q h => nomatch h) d_Te_bottomOf_18
  unfold f_Te_bottomOf at hv
  unfold k_Te_bottomOf at hk
  refine lv_aload_n hx hb d_Te_bottomOf_0 rfl (lv_at hl 0 rfl) ?_
  refine lv_iload_n hx hb d_Te_bottomOf_1 rfl (lv_at hl 1 rfl) ?_
  obtain ⟨hk0, hk⟩ := hk
  refine zz_callV (va_runV (As := [.int a1]) (rest := []) ⟨hx, hb, hml, hown, hg⟩ (c_Te_has l D ty h px σ a1 hk0) ⟨callB_of 1 hg (gw_C m_430) rfl rfl rfl (hg _ m_3) (hg _ m_435) hd_Te_has ⟨Nat.le_of_ble_eq_true rfl, Nat.le_of_ble_eq_true rfl⟩, hg _ m_428, hg _ m_429⟩ (zz_preV hK hP 6 rfl rfl) rfl rfl hl.1 rfl (lv_room (Nat.le_of_ble_eq_true rfl)) d_Te_bottomOf_2 ⟨Nat.le_refl _, Nat.le_refl _⟩) ?_
  refine lv_if_eq (tgt := 17) hx hb d_Te_bottomOf_5 (by decide) (fun hc => ?_) (fun hc => ?_)
  · have hv := hv.trans (if_pos hc)
    have hk := hk.1 hc
    refine lv_iconst (v := 1) hx hb d_Te_bottomOf_17 (by decide) ?_
    exact B18 _ 1 hv hk (lv_sub hl [] rfl)
  · have hv := hv.trans (if_neg hc)
    have hk := hk.2 hc
    refine lv_aload_n hx hb d_Te_bottomOf_8 rfl (lv_at hl 0 rfl) ?_
    refine va_get (v := .ref (h 13)) (C := R_Te) (T := T_Te) (N := 14) hx hb hg in_Te hown hK hP 6 rfl rfl 6 (by decide) (hg _ m_75) (fun _ h9 => h9) rfl d_Te_bottomOf_9 ?_
    refine lv_iload_n hx hb d_Te_bottomOf_12 rfl (lv_at hl 1 rfl) ?_
    obtain ⟨hk0, hk⟩ := hk
    refine va_iald hx hb hK hP 13 0 rfl rfl hk0 d_Te_bottomOf_13 ?_
    refine lv_goto (tgt := 18) hx hb d_Te_bottomOf_14 (by decide) ?_
    exact B18 _ (σ.1 13 a1.toNatClampNeg) hv hk (lv_sub hl [] rfl)

-- ClauseLedger$Terms.depthOf(I)I
abbrev b_Te_depthOf : ByteArray := prog_11_method_12_code
def y_Te_depthOf : MethodName := ⟨"ClauseLedger$Terms", "depthOf", "(I)I"⟩
theorem hd_Te_depthOf : y_Te_depthOf.cls ≠ "java/lang/invoke/MethodHandle" ∧ y_Te_depthOf.cls ≠ "java/lang/invoke/VarHandle" ∧ (parseMethodDescriptor y_Te_depthOf.desc).map (fun d => d.parameters.length) = some 1 := by decide +kernel
theorem d_Te_depthOf_0 : decode b_Te_depthOf 0 = .ok (.aload_n 0, 1) := by decide +kernel
theorem d_Te_depthOf_1 : decode b_Te_depthOf 1 = .ok (.iload_n 1, 1) := by decide +kernel
theorem d_Te_depthOf_2 : decode b_Te_depthOf 2 = .ok (.invokevirtual 57, 3) := by decide +kernel
theorem d_Te_depthOf_5 : decode b_Te_depthOf 5 = .ok (.ifCond .eq 12, 3) := by decide +kernel
theorem d_Te_depthOf_8 : decode b_Te_depthOf 8 = .ok (.aload_n 0, 1) := by decide +kernel
theorem d_Te_depthOf_9 : decode b_Te_depthOf 9 = .ok (.getfield 33, 3) := by decide +kernel
theorem d_Te_depthOf_12 : decode b_Te_depthOf 12 = .ok (.iload_n 1, 1) := by decide +kernel
theorem d_Te_depthOf_13 : decode b_Te_depthOf 13 = .ok (.iaload, 1) := by decide +kernel
theorem d_Te_depthOf_14 : decode b_Te_depthOf 14 = .ok (.goto 4, 3) := by decide +kernel
theorem d_Te_depthOf_17 : decode b_Te_depthOf 17 = .ok (.iconst 0, 1) := by decide +kernel
theorem d_Te_depthOf_18 : decode b_Te_depthOf 18 = .ok (.ireturn, 1) := by decide +kernel
def f_Te_depthOf_18 (s0 : Int32) (σ : St) : Int32 := s0
def k_Te_depthOf_18 (s0 : Int32) (σ : St) : Prop := True
def f_Te_depthOf (a1 : Int32) (σ : St) : Int32 := if (f_Te_has a1 σ) = 0 then (f_Te_depthOf_18 0 σ) else (f_Te_depthOf_18 (σ.1 14 a1.toNatClampNeg) σ)
def k_Te_depthOf (a1 : Int32) (σ : St) : Prop := (k_Te_has a1 σ) ∧ (((f_Te_has a1 σ) = 0 → (k_Te_depthOf_18 0 σ)) ∧ (¬ (f_Te_has a1 σ) = 0 → (vp_in a1 208 ∧ (k_Te_depthOf_18 (σ.1 14 a1.toNatClampNeg) σ))))
abbrev w_Te_depthOf : List Cond := Cond.code y_Te_depthOf b_Te_depthOf 2 (some .int) :: gw
abbrev rm_Te_depthOf : Room := { frames := 1, cells := 0, slots := 0, locals := 21 }
set_option maxHeartbeats 4000000 in
set_option maxRecDepth 100000 in
theorem c_Te_depthOf (l : Launch) (D : va_G) (ty : Nat → ClassId) (h : Nat → Nat) (px : va_W) (σ : St) (a1 : Int32) (hk : k_Te_depthOf a1 σ) : Met l y_Te_depthOf w_Te_depthOf rm_Te_depthOf (va_Pc [.ref (h 6), .int a1] (fun U => va_P D classes (Wc ty h σ px) U.heap ∧ va_K D classes (Ta ty) U)) (k2_QcV (.int (f_Te_depthOf a1 σ))) 0 0 (fun _ => False) := by
  refine Met.ofW (cc := b_Te_depthOf) (maxL := 2) (ret := (some .int)) (by decide) rfl ?_
  intro p e s m args below meth c s₁ B hml hv
  obtain ⟨ha, hP, hK⟩ := hv
  have hx := B.exec
  have hb := B.bytes
  have hr := B.returns
  have hg : ∀ w ∈ gw, w.before args s = true := fun w h9 => atoms_spec (ws := w_Te_depthOf) B.pre w (List.mem_cons_of_mem _ h9)
  have hown : s.vm.findClass "ClauseLedger$Terms" = some m.cls := findClass_of_methodNamed B.named
  have hlocks := B.notSynchronized
  have he : entryFrame m args 2 = entryFrame m ([.ref (h 6), .int a1] : List Value).toArray 2 := by rw [ha]
  rw [he, lg_entry_eq]
  have hl := lv_entry ([.ref (h 6), .int a1]) (n := 2) (Nat.le_of_ble_eq_true rfl)
  generalize (lg_sl ([.ref (h 6), .int a1]) ++ List.replicate (2 - (lg_sl ([.ref (h 6), .int a1])).length) Slot.unset).toArray = ls at hl ⊢
  have hl : lv_has ls 2 [(0, .ref (h 6)), (1, .int a1)] := hl
  generalize hv : f_Te_depthOf a1 σ = v
  replace hv := hv.symm
  have B18 : ∀ (ls : Array Slot) (s0 : Int32), v = f_Te_depthOf_18 s0 σ → k_Te_depthOf_18 s0 σ → lv_has ls 2 [] → W p l e (headSpec w_Te_depthOf rm_Te_depthOf).room s m args below meth c s.heap [] 0 0 (MQ below (k2_QcV (.int v)) args s 0 0 (fun _ => False)) (F0 m 18 ls [.int s0]) := by
    intro ls s0 hv hk hl
    unfold f_Te_depthOf_18 at hv
    unfold k_Te_depthOf_18 at hk
    exact W.iret hx hb hr (fun t ht hW => ⟨by rw [hv], ht⟩) (fun q h => nomatch h) d_Te_depthOf_18
  unfold f_Te_depthOf at hv
  unfold k_Te_depthOf at hk
  refine lv_aload_n hx hb d_Te_depthOf_0 rfl (lv_at hl 0 rfl) ?_
  refine lv_iload_n hx hb d_Te_depthOf_1 rfl (lv_at hl 1 rfl) ?_
  obtain ⟨hk0, hk⟩ := hk
  refine zz_callV (va_runV (As := [.int a1]) (rest := []) ⟨hx, hb, hml, hown, hg⟩ (c_Te_has l D ty h px σ a1 hk0) ⟨callB_of 1 hg (gw_C m_430) rfl rfl rfl (hg _ m_3) (hg _ m_435) hd_Te_has ⟨Nat.le_of_ble_eq_true rfl, Nat.le_of_ble_eq_true rfl⟩, hg _ m_428, hg _ m_429⟩ (zz_preV hK hP 6 rfl rfl) rfl rfl hl.1 rfl (lv_room (Nat.le_of_ble_eq_true rfl)) d_Te_depthOf_2 ⟨Nat.le_refl _, Nat.le_refl _⟩) ?_
  refine lv_if_eq (tgt := 17) hx hb d_Te_depthOf_5 (by decide) (fun hc => ?_) (fun hc => ?_)
  · have hv := hv.trans (if_pos hc)
    have hk := hk.1 hc
    refine lv_iconst (v := 0) hx hb d_Te_depthOf_17 (by decide) ?_
    exact B18 _ 0 hv hk (lv_sub hl [] rfl)
  · have hv := hv.trans (if_neg hc)
    have hk := hk.2 hc
    refine lv_aload_n hx hb d_Te_depthOf_8 rfl (lv_at hl 0 rfl) ?_
    refine va_get (v := .ref (h 14)) (C := R_Te) (T := T_Te) (N := 14) hx hb hg in_Te hown hK hP 6 rfl rfl 7 (by decide) (hg _ m_76) (fun _ h9 => h9) rfl d_Te_depthOf_9 ?_
    refine lv_iload_n hx hb d_Te_depthOf_12 rfl (lv_at hl 1 rfl) ?_
    obtain ⟨hk0, hk⟩ := hk
    refine va_iald hx hb hK hP 14 0 rfl rfl hk0 d_Te_depthOf_13 ?_
    refine lv_goto (tgt := 18) hx hb d_Te_depthOf_14 (by decide) ?_
    exact B18 _ (σ.1 14 a1.toNatClampNeg) hv hk (lv_sub hl [] rfl)

-- ClauseLedger$Terms.lengthOf(I)I
abbrev b_Te_lengthOf : ByteArray := prog_11_method_13_code
def y_Te_lengthOf : MethodName := ⟨"ClauseLedger$Terms", "lengthOf", "(I)I"⟩
theorem hd_Te_lengthOf : y_Te_lengthOf.cls ≠ "java/lang/invoke/MethodHandle" ∧ y_Te_lengthOf.cls ≠ "java/lang/invoke/VarHandle" ∧ (parseMethodDescriptor y_Te_lengthOf.desc).map (fun d => d.parameters.length) = some 1 := by decide +kernel
theorem d_Te_lengthOf_0 : decode b_Te_lengthOf 0 = .ok (.aload_n 0, 1) := by decide +kernel
theorem d_Te_lengthOf_1 : decode b_Te_lengthOf 1 = .ok (.iload_n 1, 1) := by decide +kernel
theorem d_Te_lengthOf_2 : decode b_Te_lengthOf 2 = .ok (.invokevirtual 57, 3) := by decide +kernel
theorem d_Te_lengthOf_5 : decode b_Te_lengthOf 5 = .ok (.ifCond .eq 12, 3) := by decide +kernel
theorem d_Te_lengthOf_8 : decode b_Te_lengthOf 8 = .ok (.aload_n 0, 1) := by decide +kernel
theorem d_Te_lengthOf_9 : decode b_Te_lengthOf 9 = .ok (.getfield 36, 3) := by decide +kernel
theorem d_Te_lengthOf_12 : decode b_Te_lengthOf 12 = .ok (.iload_n 1, 1) := by decide +kernel
theorem d_Te_lengthOf_13 : decode b_Te_lengthOf 13 = .ok (.iaload, 1) := by decide +kernel
theorem d_Te_lengthOf_14 : decode b_Te_lengthOf 14 = .ok (.goto 4, 3) := by decide +kernel
theorem d_Te_lengthOf_17 : decode b_Te_lengthOf 17 = .ok (.iconst 0, 1) := by decide +kernel
theorem d_Te_lengthOf_18 : decode b_Te_lengthOf 18 = .ok (.ireturn, 1) := by decide +kernel
def f_Te_lengthOf_18 (s0 : Int32) (σ : St) : Int32 := s0
def k_Te_lengthOf_18 (s0 : Int32) (σ : St) : Prop := True
def f_Te_lengthOf (a1 : Int32) (σ : St) : Int32 := if (f_Te_has a1 σ) = 0 then (f_Te_lengthOf_18 0 σ) else (f_Te_lengthOf_18 (σ.1 15 a1.toNatClampNeg) σ)
def k_Te_lengthOf (a1 : Int32) (σ : St) : Prop := (k_Te_has a1 σ) ∧ (((f_Te_has a1 σ) = 0 → (k_Te_lengthOf_18 0 σ)) ∧ (¬ (f_Te_has a1 σ) = 0 → (vp_in a1 208 ∧ (k_Te_lengthOf_18 (σ.1 15 a1.toNatClampNeg) σ))))
abbrev w_Te_lengthOf : List Cond := Cond.code y_Te_lengthOf b_Te_lengthOf 2 (some .int) :: gw
abbrev rm_Te_lengthOf : Room := { frames := 1, cells := 0, slots := 0, locals := 21 }
set_option maxHeartbeats 4000000 in
set_option maxRecDepth 100000 in
theorem c_Te_lengthOf (l : Launch) (D : va_G) (ty : Nat → ClassId) (h : Nat → Nat) (px : va_W) (σ : St) (a1 : Int32) (hk : k_Te_lengthOf a1 σ) : Met l y_Te_lengthOf w_Te_lengthOf rm_Te_lengthOf (va_Pc [.ref (h 6), .int a1] (fun U => va_P D classes (Wc ty h σ px) U.heap ∧ va_K D classes (Ta ty) U)) (k2_QcV (.int (f_Te_lengthOf a1 σ))) 0 0 (fun _ => False) := by
  refine Met.ofW (cc := b_Te_lengthOf) (maxL := 2) (ret := (some .int)) (by decide) rfl ?_
  intro p e s m args below meth c s₁ B hml hv
  obtain ⟨ha, hP, hK⟩ := hv
  have hx := B.exec
  have hb := B.bytes
  have hr := B.returns
  have hg : ∀ w ∈ gw, w.before args s = true := fun w h9 => atoms_spec (ws := w_Te_lengthOf) B.pre w (List.mem_cons_of_mem _ h9)
  have hown : s.vm.findClass "ClauseLedger$Terms" = some m.cls := findClass_of_methodNamed B.named
  have hlocks := B.notSynchronized
  have he : entryFrame m args 2 = entryFrame m ([.ref (h 6), .int a1] : List Value).toArray 2 := by rw [ha]
  rw [he, lg_entry_eq]
  have hl := lv_entry ([.ref (h 6), .int a1]) (n := 2) (Nat.le_of_ble_eq_true rfl)
  generalize (lg_sl ([.ref (h 6), .int a1]) ++ List.replicate (2 - (lg_sl ([.ref (h 6), .int a1])).length) Slot.unset).toArray = ls at hl ⊢
  have hl : lv_has ls 2 [(0, .ref (h 6)), (1, .int a1)] := hl
  generalize hv : f_Te_lengthOf a1 σ = v
  replace hv := hv.symm
  have B18 : ∀ (ls : Array Slot) (s0 : Int32), v = f_Te_lengthOf_18 s0 σ → k_Te_lengthOf_18 s0 σ → lv_has ls 2 [] → W p l e (headSpec w_Te_lengthOf rm_Te_lengthOf).room s m args below meth c s.heap [] 0 0 (MQ below (k2_QcV (.int v)) args s 0 0 (fun _ => False)) (F0 m 18 ls [.int s0]) := by
    intro ls s0 hv hk hl
    unfold f_Te_lengthOf_18 at hv
    unfold k_Te_lengthOf_18 at hk
    exact W.iret hx hb hr (fun t ht hW => ⟨by rw [hv], ht⟩) (fun q h => nomatch h) d_Te_lengthOf_18
  unfold f_Te_lengthOf at hv
  unfold k_Te_lengthOf at hk
  refine lv_aload_n hx hb d_Te_lengthOf_0 rfl (lv_at hl 0 rfl) ?_
  refine lv_iload_n hx hb d_Te_lengthOf_1 rfl (lv_at hl 1 rfl) ?_
  obtain ⟨hk0, hk⟩ := hk
  refine zz_callV (va_runV (As := [.int a1]) (rest := []) ⟨hx, hb, hml, hown, hg⟩ (c_Te_has l D ty h px σ a1 hk0) ⟨callB_of 1 hg (gw_C m_430) rfl rfl rfl (hg _ m_3) (hg _ m_435) hd_Te_has ⟨Nat.le_of_ble_eq_true rfl, Nat.le_of_ble_eq_true rfl⟩, hg _ m_428, hg _ m_429⟩ (zz_preV hK hP 6 rfl rfl) rfl rfl hl.1 rfl (lv_room (Nat.le_of_ble_eq_true rfl)) d_Te_lengthOf_2 ⟨Nat.le_refl _, Nat.le_refl _⟩) ?_
  refine lv_if_eq (tgt := 17) hx hb d_Te_lengthOf_5 (by decide) (fun hc => ?_) (fun hc => ?_)
  · have hv := hv.trans (if_pos hc)
    have hk := hk.1 hc
    refine lv_iconst (v := 0) hx hb d_Te_lengthOf_17 (by decide) ?_
    exact B18 _ 0 hv hk (lv_sub hl [] rfl)
  · have hv := hv.trans (if_neg hc)
    have hk := hk.2 hc
    refine lv_aload_n hx hb d_Te_lengthOf_8 rfl (lv_at hl 0 rfl) ?_
    refine va_get (v := .ref (h 15)) (C := R_Te) (T := T_Te) (N := 14) hx hb hg in_Te hown hK hP 6 rfl rfl 8 (by decide) (hg _ m_77) (fun _ h9 => h9) rfl d_Te_lengthOf_9 ?_
    refine lv_iload_n hx hb d_Te_lengthOf_12 rfl (lv_at hl 1 rfl) ?_
    obtain ⟨hk0, hk⟩ := hk
    refine va_iald hx hb hK hP 15 0 rfl rfl hk0 d_Te_lengthOf_13 ?_
    refine lv_goto (tgt := 18) hx hb d_Te_lengthOf_14 (by decide) ?_
    exact B18 _ (σ.1 15 a1.toNatClampNeg) hv hk (lv_sub hl [] rfl)

-- ClauseLedger$Terms.freeOf(I)I
abbrev b_Te_freeOf : ByteArray := prog_11_method_24_code
def y_Te_freeOf : MethodName := ⟨"ClauseLedger$Terms", "freeOf", "(I)I"⟩
theorem hd_Te_freeOf : y_Te_freeOf.cls ≠ "java/lang/invoke/MethodHandle" ∧ y_Te_freeOf.cls ≠ "java/lang/invoke/VarHandle" ∧ (parseMethodDescriptor y_Te_freeOf.desc).map (fun d => d.parameters.length) = some 1 := by decide +kernel
theorem d_Te_freeOf_0 : decode b_Te_freeOf 0 = .ok (.aload_n 0, 1) := by decide +kernel
theorem d_Te_freeOf_1 : decode b_Te_freeOf 1 = .ok (.iload_n 1, 1) := by decide +kernel
theorem d_Te_freeOf_2 : decode b_Te_freeOf 2 = .ok (.invokevirtual 57, 3) := by decide +kernel
theorem d_Te_freeOf_5 : decode b_Te_freeOf 5 = .ok (.ifCond .eq 12, 3) := by decide +kernel
theorem d_Te_freeOf_8 : decode b_Te_freeOf 8 = .ok (.aload_n 0, 1) := by decide +kernel
theorem d_Te_freeOf_9 : decode b_Te_freeOf 9 = .ok (.getfield 39, 3) := by decide +kernel
theorem d_Te_freeOf_12 : decode b_Te_freeOf 12 = .ok (.iload_n 1, 1) := by decide +kernel
theorem d_Te_freeOf_13 : decode b_Te_freeOf 13 = .ok (.iaload, 1) := by decide +kernel
theorem d_Te_freeOf_14 : decode b_Te_freeOf 14 = .ok (.goto 4, 3) := by decide +kernel
theorem d_Te_freeOf_17 : decode b_Te_freeOf 17 = .ok (.iconst 0, 1) := by decide +kernel
theorem d_Te_freeOf_18 : decode b_Te_freeOf 18 = .ok (.ireturn, 1) := by decide +kernel
def f_Te_freeOf_18 (s0 : Int32) (σ : St) : Int32 := s0
def k_Te_freeOf_18 (s0 : Int32) (σ : St) : Prop := True
def f_Te_freeOf (a1 : Int32) (σ : St) : Int32 := if (f_Te_has a1 σ) = 0 then (f_Te_freeOf_18 0 σ) else (f_Te_freeOf_18 (σ.1 16 a1.toNatClampNeg) σ)
def k_Te_freeOf (a1 : Int32) (σ : St) : Prop := (k_Te_has a1 σ) ∧ (((f_Te_has a1 σ) = 0 → (k_Te_freeOf_18 0 σ)) ∧ (¬ (f_Te_has a1 σ) = 0 → (vp_in a1 208 ∧ (k_Te_freeOf_18 (σ.1 16 a1.toNatClampNeg) σ))))
abbrev w_Te_freeOf : List Cond := Cond.code y_Te_freeOf b_Te_freeOf 2 (some .int) :: gw
abbrev rm_Te_freeOf : Room := { frames := 1, cells := 0, slots := 0, locals := 21 }
set_option maxHeartbeats 4000000 in
set_option maxRecDepth 100000 in
theorem c_Te_freeOf (l : Launch) (D : va_G) (ty : Nat → ClassId) (h : Nat → Nat) (px : va_W) (σ : St) (a1 : Int32) (hk : k_Te_freeOf a1 σ) : Met l y_Te_freeOf w_Te_freeOf rm_Te_freeOf (va_Pc [.ref (h 6), .int a1] (fun U => va_P D classes (Wc ty h σ px) U.heap ∧ va_K D classes (Ta ty) U)) (k2_QcV (.int (f_Te_freeOf a1 σ))) 0 0 (fun _ => False) := by
  refine Met.ofW (cc := b_Te_freeOf) (maxL := 2) (ret := (some .int)) (by decide) rfl ?_
  intro p e s m args below meth c s₁ B hml hv
  obtain ⟨ha, hP, hK⟩ := hv
  have hx := B.exec
  have hb := B.bytes
  have hr := B.returns
  have hg : ∀ w ∈ gw, w.before args s = true := fun w h9 => atoms_spec (ws := w_Te_freeOf) B.pre w (List.mem_cons_of_mem _ h9)
  have hown : s.vm.findClass "ClauseLedger$Terms" = some m.cls := findClass_of_methodNamed B.named
  have hlocks := B.notSynchronized
  have he : entryFrame m args 2 = entryFrame m ([.ref (h 6), .int a1] : List Value).toArray 2 := by rw [ha]
  rw [he, lg_entry_eq]
  have hl := lv_entry ([.ref (h 6), .int a1]) (n := 2) (Nat.le_of_ble_eq_true rfl)
  generalize (lg_sl ([.ref (h 6), .int a1]) ++ List.replicate (2 - (lg_sl ([.ref (h 6), .int a1])).length) Slot.unset).toArray = ls at hl ⊢
  have hl : lv_has ls 2 [(0, .ref (h 6)), (1, .int a1)] := hl
  generalize hv : f_Te_freeOf a1 σ = v
  replace hv := hv.symm
  have B18 : ∀ (ls : Array Slot) (s0 : Int32), v = f_Te_freeOf_18 s0 σ → k_Te_freeOf_18 s0 σ → lv_has ls 2 [] → W p l e (headSpec w_Te_freeOf rm_Te_freeOf).room s m args below meth c s.heap [] 0 0 (MQ below (k2_QcV (.int v)) args s 0 0 (fun _ => False)) (F0 m 18 ls [.int s0]) := by
    intro ls s0 hv hk hl
    unfold f_Te_freeOf_18 at hv
    unfold k_Te_freeOf_18 at hk
    exact W.iret hx hb hr (fun t ht hW => ⟨by rw [hv], ht⟩) (fun q h => nomatch h) d_Te_freeOf_18
  unfold f_Te_freeOf at hv
  unfold k_Te_freeOf at hk
  refine lv_aload_n hx hb d_Te_freeOf_0 rfl (lv_at hl 0 rfl) ?_
  refine lv_iload_n hx hb d_Te_freeOf_1 rfl (lv_at hl 1 rfl) ?_
  obtain ⟨hk0, hk⟩ := hk
  refine zz_callV (va_runV (As := [.int a1]) (rest := []) ⟨hx, hb, hml, hown, hg⟩ (c_Te_has l D ty h px σ a1 hk0) ⟨callB_of 1 hg (gw_C m_430) rfl rfl rfl (hg _ m_3) (hg _ m_435) hd_Te_has ⟨Nat.le_of_ble_eq_true rfl, Nat.le_of_ble_eq_true rfl⟩, hg _ m_428, hg _ m_429⟩ (zz_preV hK hP 6 rfl rfl) rfl rfl hl.1 rfl (lv_room (Nat.le_of_ble_eq_true rfl)) d_Te_freeOf_2 ⟨Nat.le_refl _, Nat.le_refl _⟩) ?_
  refine lv_if_eq (tgt := 17) hx hb d_Te_freeOf_5 (by decide) (fun hc => ?_) (fun hc => ?_)
  · have hv := hv.trans (if_pos hc)
    have hk := hk.1 hc
    refine lv_iconst (v := 0) hx hb d_Te_freeOf_17 (by decide) ?_
    exact B18 _ 0 hv hk (lv_sub hl [] rfl)
  · have hv := hv.trans (if_neg hc)
    have hk := hk.2 hc
    refine lv_aload_n hx hb d_Te_freeOf_8 rfl (lv_at hl 0 rfl) ?_
    refine va_get (v := .ref (h 16)) (C := R_Te) (T := T_Te) (N := 14) hx hb hg in_Te hown hK hP 6 rfl rfl 9 (by decide) (hg _ m_78) (fun _ h9 => h9) rfl d_Te_freeOf_9 ?_
    refine lv_iload_n hx hb d_Te_freeOf_12 rfl (lv_at hl 1 rfl) ?_
    obtain ⟨hk0, hk⟩ := hk
    refine va_iald hx hb hK hP 16 0 rfl rfl hk0 d_Te_freeOf_13 ?_
    refine lv_goto (tgt := 18) hx hb d_Te_freeOf_14 (by decide) ?_
    exact B18 _ (σ.1 16 a1.toNatClampNeg) hv hk (lv_sub hl [] rfl)

-- ClauseLedger$Terms.isFree(II)Z
abbrev b_Te_isFree : ByteArray := prog_11_method_14_code
def y_Te_isFree : MethodName := ⟨"ClauseLedger$Terms", "isFree", "(II)Z"⟩
theorem hd_Te_isFree : y_Te_isFree.cls ≠ "java/lang/invoke/MethodHandle" ∧ y_Te_isFree.cls ≠ "java/lang/invoke/VarHandle" ∧ (parseMethodDescriptor y_Te_isFree.desc).map (fun d => d.parameters.length) = some 2 := by decide +kernel
theorem d_Te_isFree_0 : decode b_Te_isFree 0 = .ok (.aload_n 0, 1) := by decide +kernel
theorem d_Te_isFree_1 : decode b_Te_isFree 1 = .ok (.iload_n 2, 1) := by decide +kernel
theorem d_Te_isFree_2 : decode b_Te_isFree 2 = .ok (.invokevirtual 65, 3) := by decide +kernel
theorem d_Te_isFree_5 : decode b_Te_isFree 5 = .ok (.iconst 1, 1) := by decide +kernel
theorem d_Te_isFree_6 : decode b_Te_isFree 6 = .ok (.iload_n 1, 1) := by decide +kernel
theorem d_Te_isFree_7 : decode b_Te_isFree 7 = .ok (.ishl, 1) := by decide +kernel
theorem d_Te_isFree_8 : decode b_Te_isFree 8 = .ok (.iand, 1) := by decide +kernel
theorem d_Te_isFree_9 : decode b_Te_isFree 9 = .ok (.ifCond .eq 7, 3) := by decide +kernel
theorem d_Te_isFree_12 : decode b_Te_isFree 12 = .ok (.iconst 1, 1) := by decide +kernel
theorem d_Te_isFree_13 : decode b_Te_isFree 13 = .ok (.goto 4, 3) := by decide +kernel
theorem d_Te_isFree_16 : decode b_Te_isFree 16 = .ok (.iconst 0, 1) := by decide +kernel
theorem d_Te_isFree_17 : decode b_Te_isFree 17 = .ok (.ireturn, 1) := by decide +kernel
def f_Te_isFree_17 (s0 : Int32) (σ : St) : Int32 := s0
def k_Te_isFree_17 (s0 : Int32) (σ : St) : Prop := (narrow .boolean (.int s0) = .int s0) ∧ True
def f_Te_isFree (a1 : Int32) (a2 : Int32) (σ : St) : Int32 := if ((f_Te_freeOf a2 σ) &&& (1 <<< (a1 &&& 31))) = 0 then (f_Te_isFree_17 0 σ) else (f_Te_isFree_17 1 σ)
def k_Te_isFree (a1 : Int32) (a2 : Int32) (σ : St) : Prop := (k_Te_freeOf a2 σ) ∧ ((((f_Te_freeOf a2 σ) &&& (1 <<< (a1 &&& 31))) = 0 → (k_Te_isFree_17 0 σ)) ∧ (¬ ((f_Te_freeOf a2 σ) &&& (1 <<< (a1 &&& 31))) = 0 → (k_Te_isFree_17 1 σ)))
abbrev w_Te_isFree : List Cond := Cond.code y_Te_isFree b_Te_isFree 3 (some .boolean) :: gw
abbrev rm_Te_isFree : Room := { frames := 2, cells := 0, slots := 0, locals := 42 }
set_option maxHeartbeats 4000000 in
set_option maxRecDepth 100000 in
theorem c_Te_isFree (l : Launch) (D : va_G) (ty : Nat → ClassId) (h : Nat → Nat) (px : va_W) (σ : St) (a1 : Int32) (a2 : Int32) (hk : k_Te_isFree a1 a2 σ) : Met l y_Te_isFree w_Te_isFree rm_Te_isFree (va_Pc [.ref (h 6), .int a1, .int a2] (fun U => va_P D classes (Wc ty h σ px) U.heap ∧ va_K D classes (Ta ty) U)) (k2_QcV (.int (f_Te_isFree a1 a2 σ))) 0 0 (fun _ => False) := by
  refine Met.ofW (cc := b_Te_isFree) (maxL := 3) (ret := (some .boolean)) (by decide) rfl ?_
  intro p e s m args below meth c s₁ B hml hv
  obtain ⟨ha, hP, hK⟩ := hv
  have hx := B.exec
  have hb := B.bytes
  have hr := B.returns
  have hg : ∀ w ∈ gw, w.before args s = true := fun w h9 => atoms_spec (ws := w_Te_isFree) B.pre w (List.mem_cons_of_mem _ h9)
  have hown : s.vm.findClass "ClauseLedger$Terms" = some m.cls := findClass_of_methodNamed B.named
  have hlocks := B.notSynchronized
  have he : entryFrame m args 3 = entryFrame m ([.ref (h 6), .int a1, .int a2] : List Value).toArray 3 := by rw [ha]
  rw [he, lg_entry_eq]
  have hl := lv_entry ([.ref (h 6), .int a1, .int a2]) (n := 3) (Nat.le_of_ble_eq_true rfl)
  generalize (lg_sl ([.ref (h 6), .int a1, .int a2]) ++ List.replicate (3 - (lg_sl ([.ref (h 6), .int a1, .int a2])).length) Slot.unset).toArray = ls at hl ⊢
  have hl : lv_has ls 3 [(0, .ref (h 6)), (1, .int a1), (2, .int a2)] := hl
  generalize hv : f_Te_isFree a1 a2 σ = v
  replace hv := hv.symm
  have B17 : ∀ (ls : Array Slot) (s0 : Int32), v = f_Te_isFree_17 s0 σ → k_Te_isFree_17 s0 σ → lv_has ls 3 [] → W p l e (headSpec w_Te_isFree rm_Te_isFree).room s m args below meth c s.heap [] 0 0 (MQ below (k2_QcV (.int v)) args s 0 0 (fun _ => False)) (F0 m 17 ls [.int s0]) := by
    intro ls s0 hv hk hl
    unfold f_Te_isFree_17 at hv
    unfold k_Te_isFree_17 at hk
    obtain ⟨hk0, hk⟩ := hk
    exact W.zret hx hb hr hk0 (fun t ht hW => ⟨by rw [hv], ht⟩) (fun q h => nomatch h) d_Te_isFree_17
  unfold f_Te_isFree at hv
  unfold k_Te_isFree at hk
  refine lv_aload_n hx hb d_Te_isFree_0 rfl (lv_at hl 0 rfl) ?_
  refine lv_iload_n hx hb d_Te_isFree_1 rfl (lv_at hl 2 rfl) ?_
  obtain ⟨hk0, hk⟩ := hk
  refine zz_callV (va_runV (As := [.int a2]) (rest := []) ⟨hx, hb, hml, hown, hg⟩ (c_Te_freeOf l D ty h px σ a2 hk0) ⟨callB_of 1 hg (gw_C m_650) rfl rfl rfl (hg _ m_3) (hg _ m_647) hd_Te_freeOf ⟨Nat.le_of_ble_eq_true rfl, Nat.le_of_ble_eq_true rfl⟩, hg _ m_649, hg _ ms_16⟩ (zz_preV hK hP 6 rfl rfl) rfl rfl hl.1 rfl (lv_room (Nat.le_of_ble_eq_true rfl)) d_Te_isFree_2 ⟨Nat.le_refl _, Nat.le_refl _⟩) ?_
  refine lv_iconst (v := 1) hx hb d_Te_isFree_5 (by decide) ?_
  refine lv_iload_n hx hb d_Te_isFree_6 rfl (lv_at hl 1 rfl) ?_
  refine lv_ishl hx hb d_Te_isFree_7 ?_
  refine lv_iand hx hb d_Te_isFree_8 ?_
  refine lv_if_eq (tgt := 16) hx hb d_Te_isFree_9 (by decide) (fun hc => ?_) (fun hc => ?_)
  · have hv := hv.trans (if_pos hc)
    have hk := hk.1 hc
    refine lv_iconst (v := 0) hx hb d_Te_isFree_16 (by decide) ?_
    exact B17 _ 0 hv hk (lv_sub hl [] rfl)
  · have hv := hv.trans (if_neg hc)
    have hk := hk.2 hc
    refine lv_iconst (v := 1) hx hb d_Te_isFree_12 (by decide) ?_
    refine lv_goto (tgt := 17) hx hb d_Te_isFree_13 (by decide) ?_
    exact B17 _ 1 hv hk (lv_sub hl [] rfl)

-- ClauseLedger$Terms.tooDeep()Z
abbrev b_Te_tooDeep : ByteArray := prog_11_method_15_code
def y_Te_tooDeep : MethodName := ⟨"ClauseLedger$Terms", "tooDeep", "()Z"⟩
theorem hd_Te_tooDeep : y_Te_tooDeep.cls ≠ "java/lang/invoke/MethodHandle" ∧ y_Te_tooDeep.cls ≠ "java/lang/invoke/VarHandle" ∧ (parseMethodDescriptor y_Te_tooDeep.desc).map (fun d => d.parameters.length) = some 0 := by decide +kernel
theorem d_Te_tooDeep_0 : decode b_Te_tooDeep 0 = .ok (.aload_n 0, 1) := by decide +kernel
theorem d_Te_tooDeep_1 : decode b_Te_tooDeep 1 = .ok (.getfield 53, 3) := by decide +kernel
theorem d_Te_tooDeep_4 : decode b_Te_tooDeep 4 = .ok (.ireturn, 1) := by decide +kernel
def f_Te_tooDeep (σ : St) : Int32 := σ.1 6 13
def k_Te_tooDeep (σ : St) : Prop := (narrow .boolean (.int (σ.1 6 13)) = .int (σ.1 6 13)) ∧ True
abbrev w_Te_tooDeep : List Cond := Cond.code y_Te_tooDeep b_Te_tooDeep 1 (some .boolean) :: gw
abbrev rm_Te_tooDeep : Room := { frames := 0, cells := 0, slots := 0, locals := 0 }
set_option maxHeartbeats 4000000 in
set_option maxRecDepth 100000 in
theorem c_Te_tooDeep (l : Launch) (D : va_G) (ty : Nat → ClassId) (h : Nat → Nat) (px : va_W) (σ : St) (hk : k_Te_tooDeep σ) : Met l y_Te_tooDeep w_Te_tooDeep rm_Te_tooDeep (va_Pc [.ref (h 6)] (fun U => va_P D classes (Wc ty h σ px) U.heap ∧ va_K D classes (Ta ty) U)) (k2_QcV (.int (f_Te_tooDeep σ))) 0 0 (fun _ => False) := by
  refine Met.ofW (cc := b_Te_tooDeep) (maxL := 1) (ret := (some .boolean)) (by decide) rfl ?_
  intro p e s m args below meth c s₁ B hml hv
  obtain ⟨ha, hP, hK⟩ := hv
  have hx := B.exec
  have hb := B.bytes
  have hr := B.returns
  have hg : ∀ w ∈ gw, w.before args s = true := fun w h9 => atoms_spec (ws := w_Te_tooDeep) B.pre w (List.mem_cons_of_mem _ h9)
  have hown : s.vm.findClass "ClauseLedger$Terms" = some m.cls := findClass_of_methodNamed B.named
  have hlocks := B.notSynchronized
  have he : entryFrame m args 1 = entryFrame m ([.ref (h 6)] : List Value).toArray 1 := by rw [ha]
  rw [he, lg_entry_eq]
  have hl := lv_entry ([.ref (h 6)]) (n := 1) (Nat.le_of_ble_eq_true rfl)
  generalize (lg_sl ([.ref (h 6)]) ++ List.replicate (1 - (lg_sl ([.ref (h 6)])).length) Slot.unset).toArray = ls at hl ⊢
  have hl : lv_has ls 1 [(0, .ref (h 6))] := hl
  generalize hv : f_Te_tooDeep σ = v
  replace hv := hv.symm
  unfold f_Te_tooDeep at hv
  unfold k_Te_tooDeep at hk
  refine lv_aload_n hx hb d_Te_tooDeep_0 rfl (lv_at hl 0 rfl) ?_
  refine va_get (v := .int (σ.1 6 13)) (C := R_Te) (T := T_Te) (N := 14) hx hb hg in_Te hown hK hP 6 rfl rfl 13 (by decide) (hg _ m_82) (fun _ h9 => h9) rfl d_Te_tooDeep_1 ?_
  obtain ⟨hk0, hk⟩ := hk
  exact W.zret hx hb hr hk0 (fun t ht hW => ⟨by rw [hv], ht⟩) (fun q h => nomatch h) d_Te_tooDeep_4

-- ClauseLedger$Terms.tooMany()Z
abbrev b_Te_tooMany : ByteArray := prog_11_method_16_code
def y_Te_tooMany : MethodName := ⟨"ClauseLedger$Terms", "tooMany", "()Z"⟩
theorem hd_Te_tooMany : y_Te_tooMany.cls ≠ "java/lang/invoke/MethodHandle" ∧ y_Te_tooMany.cls ≠ "java/lang/invoke/VarHandle" ∧ (parseMethodDescriptor y_Te_tooMany.desc).map (fun d => d.parameters.length) = some 0 := by decide +kernel
theorem d_Te_tooMany_0 : decode b_Te_tooMany 0 = .ok (.aload_n 0, 1) := by decide +kernel
theorem d_Te_tooMany_1 : decode b_Te_tooMany 1 = .ok (.getfield 46, 3) := by decide +kernel
theorem d_Te_tooMany_4 : decode b_Te_tooMany 4 = .ok (.bipush 100, 2) := by decide +kernel
theorem d_Te_tooMany_6 : decode b_Te_tooMany 6 = .ok (.if_icmp .le 7, 3) := by decide +kernel
theorem d_Te_tooMany_9 : decode b_Te_tooMany 9 = .ok (.iconst 1, 1) := by decide +kernel
theorem d_Te_tooMany_10 : decode b_Te_tooMany 10 = .ok (.goto 4, 3) := by decide +kernel
theorem d_Te_tooMany_13 : decode b_Te_tooMany 13 = .ok (.iconst 0, 1) := by decide +kernel
theorem d_Te_tooMany_14 : decode b_Te_tooMany 14 = .ok (.ireturn, 1) := by decide +kernel
def f_Te_tooMany_14 (s0 : Int32) (σ : St) : Int32 := s0
def k_Te_tooMany_14 (s0 : Int32) (σ : St) : Prop := (narrow .boolean (.int s0) = .int s0) ∧ True
def f_Te_tooMany (σ : St) : Int32 := if (σ.1 6 11) ≤ 100 then (f_Te_tooMany_14 0 σ) else (f_Te_tooMany_14 1 σ)
def k_Te_tooMany (σ : St) : Prop := ((σ.1 6 11) ≤ 100 → (k_Te_tooMany_14 0 σ)) ∧ (¬ (σ.1 6 11) ≤ 100 → (k_Te_tooMany_14 1 σ))
abbrev w_Te_tooMany : List Cond := Cond.code y_Te_tooMany b_Te_tooMany 1 (some .boolean) :: gw
abbrev rm_Te_tooMany : Room := { frames := 0, cells := 0, slots := 0, locals := 0 }
set_option maxHeartbeats 4000000 in
set_option maxRecDepth 100000 in
theorem c_Te_tooMany (l : Launch) (D : va_G) (ty : Nat → ClassId) (h : Nat → Nat) (px : va_W) (σ : St) (hk : k_Te_tooMany σ) : Met l y_Te_tooMany w_Te_tooMany rm_Te_tooMany (va_Pc [.ref (h 6)] (fun U => va_P D classes (Wc ty h σ px) U.heap ∧ va_K D classes (Ta ty) U)) (k2_QcV (.int (f_Te_tooMany σ))) 0 0 (fun _ => False) := by
  refine Met.ofW (cc := b_Te_tooMany) (maxL := 1) (ret := (some .boolean)) (by decide) rfl ?_
  intro p e s m args below meth c s₁ B hml hv
  obtain ⟨ha, hP, hK⟩ := hv
  have hx := B.exec
  have hb := B.bytes
  have hr := B.returns
  have hg : ∀ w ∈ gw, w.before args s = true := fun w h9 => atoms_spec (ws := w_Te_tooMany) B.pre w (List.mem_cons_of_mem _ h9)
  have hown : s.vm.findClass "ClauseLedger$Terms" = some m.cls := findClass_of_methodNamed B.named
  have hlocks := B.notSynchronized
  have he : entryFrame m args 1 = entryFrame m ([.ref (h 6)] : List Value).toArray 1 := by rw [ha]
  rw [he, lg_entry_eq]
  have hl := lv_entry ([.ref (h 6)]) (n := 1) (Nat.le_of_ble_eq_true rfl)
  generalize (lg_sl ([.ref (h 6)]) ++ List.replicate (1 - (lg_sl ([.ref (h 6)])).length) Slot.unset).toArray = ls at hl ⊢
  have hl : lv_has ls 1 [(0, .ref (h 6))] := hl
  generalize hv : f_Te_tooMany σ = v
  replace hv := hv.symm
  have B14 : ∀ (ls : Array Slot) (s0 : Int32), v = f_Te_tooMany_14 s0 σ → k_Te_tooMany_14 s0 σ → lv_has ls 1 [] → W p l e (headSpec w_Te_tooMany rm_Te_tooMany).room s m args below meth c s.heap [] 0 0 (MQ below (k2_QcV (.int v)) args s 0 0 (fun _ => False)) (F0 m 14 ls [.int s0]) := by
    intro ls s0 hv hk hl
    unfold f_Te_tooMany_14 at hv
    unfold k_Te_tooMany_14 at hk
    obtain ⟨hk0, hk⟩ := hk
    exact W.zret hx hb hr hk0 (fun t ht hW => ⟨by rw [hv], ht⟩) (fun q h => nomatch h) d_Te_tooMany_14
  unfold f_Te_tooMany at hv
  unfold k_Te_tooMany at hk
  refine lv_aload_n hx hb d_Te_tooMany_0 rfl (lv_at hl 0 rfl) ?_
  refine va_get (v := .int (σ.1 6 11)) (C := R_Te) (T := T_Te) (N := 14) hx hb hg in_Te hown hK hP 6 rfl rfl 11 (by decide) (hg _ m_80) (fun _ h9 => h9) rfl d_Te_tooMany_1 ?_
  refine lv_bipush (v := 100) hx hb d_Te_tooMany_4 (by decide) ?_
  refine lv_icmp_le (tgt := 13) hx hb d_Te_tooMany_6 (by decide) (fun hc => ?_) (fun hc => ?_)
  · have hv := hv.trans (if_pos hc)
    have hk := hk.1 hc
    refine lv_iconst (v := 0) hx hb d_Te_tooMany_13 (by decide) ?_
    exact B14 _ 0 hv hk (lv_sub hl [] rfl)
  · have hv := hv.trans (if_neg hc)
    have hk := hk.2 hc
    refine lv_iconst (v := 1) hx hb d_Te_tooMany_9 (by decide) ?_
    refine lv_goto (tgt := 14) hx hb d_Te_tooMany_10 (by decide) ?_
    exact B14 _ 1 hv hk (lv_sub hl [] rfl)

-- ClauseLedger$Terms.keep()V
abbrev b_Te_keep : ByteArray := prog_11_method_17_code
def y_Te_keep : MethodName := ⟨"ClauseLedger$Terms", "keep", "()V"⟩
theorem hd_Te_keep : y_Te_keep.cls ≠ "java/lang/invoke/MethodHandle" ∧ y_Te_keep.cls ≠ "java/lang/invoke/VarHandle" ∧ (parseMethodDescriptor y_Te_keep.desc).map (fun d => d.parameters.length) = some 0 := by decide +kernel
theorem d_Te_keep_0 : decode b_Te_keep 0 = .ok (.aload_n 0, 1) := by decide +kernel
theorem d_Te_keep_1 : decode b_Te_keep 1 = .ok (.aload_n 0, 1) := by decide +kernel
theorem d_Te_keep_2 : decode b_Te_keep 2 = .ok (.getfield 46, 3) := by decide +kernel
theorem d_Te_keep_5 : decode b_Te_keep 5 = .ok (.putfield 50, 3) := by decide +kernel
theorem d_Te_keep_8 : decode b_Te_keep 8 = .ok (.aload_n 0, 1) := by decide +kernel
theorem d_Te_keep_9 : decode b_Te_keep 9 = .ok (.iconst 0, 1) := by decide +kernel
theorem d_Te_keep_10 : decode b_Te_keep 10 = .ok (.putfield 53, 3) := by decide +kernel
theorem d_Te_keep_13 : decode b_Te_keep 13 = .ok (.return_, 1) := by decide +kernel
def f_Te_keep_13 (σ : St) : St := σ
def k_Te_keep_13 (σ : St) : Prop := True
def f_Te_keep_8 (σ : St) : St := f_Te_keep_13 (sF σ 6 13 0)
def k_Te_keep_8 (σ : St) : Prop := k_Te_keep_13 (sF σ 6 13 0)
def f_Te_keep (σ : St) : St := f_Te_keep_8 (sF σ 6 12 (σ.1 6 11))
def k_Te_keep (σ : St) : Prop := k_Te_keep_8 (sF σ 6 12 (σ.1 6 11))
abbrev w_Te_keep : List Cond := Cond.code y_Te_keep b_Te_keep 1 none :: gw
abbrev rm_Te_keep : Room := { frames := 0, cells := 0, slots := 0, locals := 0 }
set_option maxHeartbeats 4000000 in
set_option maxRecDepth 100000 in
theorem c_Te_keep (l : Launch) (D : va_G) (ty : Nat → ClassId) (h : Nat → Nat) (px : va_W) (σ : St) (sz : Nat) (hk : k_Te_keep σ) : Met l y_Te_keep w_Te_keep rm_Te_keep (va_Pc [.ref (h 6)] (fun U => U.heap.size = sz ∧ va_P D classes (Wc ty h σ px) U.heap ∧ va_K D classes (Ta ty) U ∧ va_D (fun _ => True) (Wc ty h σ px))) (va_Qv (fun u : St => u = f_Te_keep σ) (fun u t => va_P D classes (Wc ty h u px) t.heap) (va_A (Wc ty h σ px) sz)) 0 0 (va_A (Wc ty h σ px) sz) := by
  refine Met.ofW (cc := b_Te_keep) (maxL := 1) (ret := none) (by decide) rfl ?_
  intro p e s m args below meth c s₁ B hml hv
  obtain ⟨ha, hsz, hP, hK, hD0⟩ := hv
  have hx := B.exec
  have hb := B.bytes
  have hr := B.returns
  have hg : ∀ w ∈ gw, w.before args s = true := fun w h9 => atoms_spec (ws := w_Te_keep) B.pre w (List.mem_cons_of_mem _ h9)
  have hown : s.vm.findClass "ClauseLedger$Terms" = some m.cls := findClass_of_methodNamed B.named
  have hlocks := B.notSynchronized
  subst hsz
  have hD := hD0.self (sz := s.heap.size)
  generalize hAe : va_A (Wc ty h σ px) s.heap.size = A at hD ⊢
  have hA : ∀ q : Nat, s.heap.size ≤ q → A q := fun q h9 => by rw [← hAe]; exact Or.inr h9
  have hS : va_S A s.heap s.heap [] := va_S.rf
  have he : entryFrame m args 1 = entryFrame m ([.ref (h 6)] : List Value).toArray 1 := by rw [ha]
  rw [he, lg_entry_eq]
  have hl := lv_entry ([.ref (h 6)]) (n := 1) (Nat.le_of_ble_eq_true rfl)
  generalize (lg_sl ([.ref (h 6)]) ++ List.replicate (1 - (lg_sl ([.ref (h 6)])).length) Slot.unset).toArray = ls at hl ⊢
  have hl : lv_has ls 1 [(0, .ref (h 6))] := hl
  generalize hv : f_Te_keep σ = v
  replace hv := hv.symm
  have B13 : ∀ (H : Heap) (locs : List Loc) (ls : Array Slot) (σ : St), v = f_Te_keep_13 σ → k_Te_keep_13 σ → lv_has ls 1 [] → va_P D classes (Wc ty h σ px) H → va_D A (Wc ty h σ px) → va_S A s.heap H locs → W p l e (headSpec w_Te_keep rm_Te_keep).room s m args below meth c H locs 0 0 (MQ below (va_Qv (fun u : St => u = v) (fun u t => va_P D classes (Wc ty h u px) t.heap) A) args s 0 0 A) (F0 m 13 ls []) := by
    intro H locs ls σ hv hk hl hP hD hS
    unfold f_Te_keep_13 at hv
    unfold k_Te_keep_13 at hk
    exact W.vret hx hb hr (fun t ht hW => ⟨⟨_, rfl, hv.symm, by dsimp only; rw [ht]; exact hP⟩, hS.F ht⟩) hS.2.2 d_Te_keep_13
  have B8 : ∀ (H : Heap) (locs : List Loc) (ls : Array Slot) (σ : St), v = f_Te_keep_8 σ → k_Te_keep_8 σ → lv_has ls 1 [(0, .ref (h 6))] → va_P D classes (Wc ty h σ px) H → va_D A (Wc ty h σ px) → va_S A s.heap H locs → W p l e (headSpec w_Te_keep rm_Te_keep).room s m args below meth c H locs 0 0 (MQ below (va_Qv (fun u : St => u = v) (fun u t => va_P D classes (Wc ty h u px) t.heap) A) args s 0 0 A) (F0 m 8 ls []) := by
    intro H locs ls σ hv hk hl hP hD hS
    unfold f_Te_keep_8 at hv
    unfold k_Te_keep_8 at hk
    refine lv_aload_n hx hb d_Te_keep_8 rfl (lv_at hl 0 rfl) ?_
    refine lv_iconst (v := 0) hx hb d_Te_keep_9 (by decide) ?_
    refine va_put (v := .int 0) (ty := .boolean) (C := R_Te) (T := T_Te) (N := 14) hx hb hg in_Te ty_Te ok_Te nm_Te hown hK hP hD hS 6 rfl rfl 13 (by decide) (hg _ m_82) (fun _ h9 => h9) rfl (by decide +kernel) rfl rfl (Nat.le_of_ble_eq_true rfl) d_Te_keep_10 (fun H locs hP hD hS => ?_)
    have hP : va_P D classes (Wc ty h (sF σ 6 13 0) px) H := hP
    have hD : va_D A (Wc ty h (sF σ 6 13 0) px) := hD
    exact B13 _ _ _  (sF σ 6 13 0) hv hk (lv_sub hl [] rfl) hP hD hS
  unfold f_Te_keep at hv
  unfold k_Te_keep at hk
  refine lv_aload_n hx hb d_Te_keep_0 rfl (lv_at hl 0 rfl) ?_
  refine lv_aload_n hx hb d_Te_keep_1 rfl (lv_at hl 0 rfl) ?_
  refine va_get (v := .int (σ.1 6 11)) (C := R_Te) (T := T_Te) (N := 14) hx hb hg in_Te hown hK hP 6 rfl rfl 11 (by decide) (hg _ m_80) (fun _ h9 => h9) rfl d_Te_keep_2 ?_
  refine va_put (v := .int (σ.1 6 11)) (ty := .int) (C := R_Te) (T := T_Te) (N := 14) hx hb hg in_Te ty_Te ok_Te nm_Te hown hK hP hD hS 6 rfl rfl 12 (by decide) (hg _ m_81) (fun _ h9 => h9) rfl (by decide +kernel) rfl rfl (Nat.le_of_ble_eq_true rfl) d_Te_keep_5 (fun H locs hP hD hS => ?_)
  have hP : va_P D classes (Wc ty h (sF σ 6 12 (σ.1 6 11)) px) H := hP
  have hD : va_D A (Wc ty h (sF σ 6 12 (σ.1 6 11)) px) := hD
  exact B8 _ _ _  (sF σ 6 12 (σ.1 6 11)) hv hk (lv_sub hl [0] rfl) hP hD hS

-- ClauseLedger$Terms.takeBack()V
abbrev b_Te_takeBack : ByteArray := prog_11_method_18_code
def y_Te_takeBack : MethodName := ⟨"ClauseLedger$Terms", "takeBack", "()V"⟩
theorem hd_Te_takeBack : y_Te_takeBack.cls ≠ "java/lang/invoke/MethodHandle" ∧ y_Te_takeBack.cls ≠ "java/lang/invoke/VarHandle" ∧ (parseMethodDescriptor y_Te_takeBack.desc).map (fun d => d.parameters.length) = some 0 := by decide +kernel
theorem d_Te_takeBack_0 : decode b_Te_takeBack 0 = .ok (.aload_n 0, 1) := by decide +kernel
theorem d_Te_takeBack_1 : decode b_Te_takeBack 1 = .ok (.aload_n 0, 1) := by decide +kernel
theorem d_Te_takeBack_2 : decode b_Te_takeBack 2 = .ok (.getfield 50, 3) := by decide +kernel
theorem d_Te_takeBack_5 : decode b_Te_takeBack 5 = .ok (.putfield 46, 3) := by decide +kernel
theorem d_Te_takeBack_8 : decode b_Te_takeBack 8 = .ok (.aload_n 0, 1) := by decide +kernel
theorem d_Te_takeBack_9 : decode b_Te_takeBack 9 = .ok (.iconst 0, 1) := by decide +kernel
theorem d_Te_takeBack_10 : decode b_Te_takeBack 10 = .ok (.putfield 53, 3) := by decide +kernel
theorem d_Te_takeBack_13 : decode b_Te_takeBack 13 = .ok (.return_, 1) := by decide +kernel
def f_Te_takeBack_13 (σ : St) : St := σ
def k_Te_takeBack_13 (σ : St) : Prop := True
def f_Te_takeBack_8 (σ : St) : St := f_Te_takeBack_13 (sF σ 6 13 0)
def k_Te_takeBack_8 (σ : St) : Prop := k_Te_takeBack_13 (sF σ 6 13 0)
def f_Te_takeBack (σ : St) : St := f_Te_takeBack_8 (sF σ 6 11 (σ.1 6 12))
def k_Te_takeBack (σ : St) : Prop := k_Te_takeBack_8 (sF σ 6 11 (σ.1 6 12))
abbrev w_Te_takeBack : List Cond := Cond.code y_Te_takeBack b_Te_takeBack 1 none :: gw
abbrev rm_Te_takeBack : Room := { frames := 0, cells := 0, slots := 0, locals := 0 }
set_option maxHeartbeats 4000000 in
set_option maxRecDepth 100000 in
theorem c_Te_takeBack (l : Launch) (D : va_G) (ty : Nat → ClassId) (h : Nat → Nat) (px : va_W) (σ : St) (sz : Nat) (hk : k_Te_takeBack σ) : Met l y_Te_takeBack w_Te_takeBack rm_Te_takeBack (va_Pc [.ref (h 6)] (fun U => U.heap.size = sz ∧ va_P D classes (Wc ty h σ px) U.heap ∧ va_K D classes (Ta ty) U ∧ va_D (fun _ => True) (Wc ty h σ px))) (va_Qv (fun u : St => u = f_Te_takeBack σ) (fun u t => va_P D classes (Wc ty h u px) t.heap) (va_A (Wc ty h σ px) sz)) 0 0 (va_A (Wc ty h σ px) sz) := by
  refine Met.ofW (cc := b_Te_takeBack) (maxL := 1) (ret := none) (by decide) rfl ?_
  intro p e s m args below meth c s₁ B hml hv
  obtain ⟨ha, hsz, hP, hK, hD0⟩ := hv
  have hx := B.exec
  have hb := B.bytes
  have hr := B.returns
  have hg : ∀ w ∈ gw, w.before args s = true := fun w h9 => atoms_spec (ws := w_Te_takeBack) B.pre w (List.mem_cons_of_mem _ h9)
  have hown : s.vm.findClass "ClauseLedger$Terms" = some m.cls := findClass_of_methodNamed B.named
  have hlocks := B.notSynchronized
  subst hsz
  have hD := hD0.self (sz := s.heap.size)
  generalize hAe : va_A (Wc ty h σ px) s.heap.size = A at hD ⊢
  have hA : ∀ q : Nat, s.heap.size ≤ q → A q := fun q h9 => by rw [← hAe]; exact Or.inr h9
  have hS : va_S A s.heap s.heap [] := va_S.rf
  have he : entryFrame m args 1 = entryFrame m ([.ref (h 6)] : List Value).toArray 1 := by rw [ha]
  rw [he, lg_entry_eq]
  have hl := lv_entry ([.ref (h 6)]) (n := 1) (Nat.le_of_ble_eq_true rfl)
  generalize (lg_sl ([.ref (h 6)]) ++ List.replicate (1 - (lg_sl ([.ref (h 6)])).length) Slot.unset).toArray = ls at hl ⊢
  have hl : lv_has ls 1 [(0, .ref (h 6))] := hl
  generalize hv : f_Te_takeBack σ = v
  replace hv := hv.symm
  have B13 : ∀ (H : Heap) (locs : List Loc) (ls : Array Slot) (σ : St), v = f_Te_takeBack_13 σ → k_Te_takeBack_13 σ → lv_has ls 1 [] → va_P D classes (Wc ty h σ px) H → va_D A (Wc ty h σ px) → va_S A s.heap H locs → W p l e (headSpec w_Te_takeBack rm_Te_takeBack).room s m args below meth c H locs 0 0 (MQ below (va_Qv (fun u : St => u = v) (fun u t => va_P D classes (Wc ty h u px) t.heap) A) args s 0 0 A) (F0 m 13 ls []) := by
    intro H locs ls σ hv hk hl hP hD hS
    unfold f_Te_takeBack_13 at hv
    unfold k_Te_takeBack_13 at hk
    exact W.vret hx hb hr (fun t ht hW => ⟨⟨_, rfl, hv.symm, by dsimp only; rw [ht]; exact hP⟩, hS.F ht⟩) hS.2.2 d_Te_takeBack_13
  have B8 : ∀ (H : Heap) (locs : List Loc) (ls : Array Slot) (σ : St), v = f_Te_takeBack_8 σ → k_Te_takeBack_8 σ → lv_has ls 1 [(0, .ref (h 6))] → va_P D classes (Wc ty h σ px) H → va_D A (Wc ty h σ px) → va_S A s.heap H locs → W p l e (headSpec w_Te_takeBack rm_Te_takeBack).room s m args below meth c H locs 0 0 (MQ below (va_Qv (fun u : St => u = v) (fun u t => va_P D classes (Wc ty h u px) t.heap) A) args s 0 0 A) (F0 m 8 ls []) := by
    intro H locs ls σ hv hk hl hP hD hS
    unfold f_Te_takeBack_8 at hv
    unfold k_Te_takeBack_8 at hk
    refine lv_aload_n hx hb d_Te_takeBack_8 rfl (lv_at hl 0 rfl) ?_
    refine lv_iconst (v := 0) hx hb d_Te_takeBack_9 (by decide) ?_
    refine va_put (v := .int 0) (ty := .boolean) (C := R_Te) (T := T_Te) (N := 14) hx hb hg in_Te ty_Te ok_Te nm_Te hown hK hP hD hS 6 rfl rfl 13 (by decide) (hg _ m_82) (fun _ h9 => h9) rfl (by decide +kernel) rfl rfl (Nat.le_of_ble_eq_true rfl) d_Te_takeBack_10 (fun H locs hP hD hS => ?_)
    have hP : va_P D classes (Wc ty h (sF σ 6 13 0) px) H := hP
    have hD : va_D A (Wc ty h (sF σ 6 13 0) px) := hD
    exact B13 _ _ _  (sF σ 6 13 0) hv hk (lv_sub hl [] rfl) hP hD hS
  unfold f_Te_takeBack at hv
  unfold k_Te_takeBack at hk
  refine lv_aload_n hx hb d_Te_takeBack_0 rfl (lv_at hl 0 rfl) ?_
  refine lv_aload_n hx hb d_Te_takeBack_1 rfl (lv_at hl 0 rfl) ?_
  refine va_get (v := .int (σ.1 6 12)) (C := R_Te) (T := T_Te) (N := 14) hx hb hg in_Te hown hK hP 6 rfl rfl 12 (by decide) (hg _ m_81) (fun _ h9 => h9) rfl d_Te_takeBack_2 ?_
  refine va_put (v := .int (σ.1 6 12)) (ty := .int) (C := R_Te) (T := T_Te) (N := 14) hx hb hg in_Te ty_Te ok_Te nm_Te hown hK hP hD hS 6 rfl rfl 11 (by decide) (hg _ m_80) (fun _ h9 => h9) rfl (by decide +kernel) rfl rfl (Nat.le_of_ble_eq_true rfl) d_Te_takeBack_5 (fun H locs hP hD hS => ?_)
  have hP : va_P D classes (Wc ty h (sF σ 6 11 (σ.1 6 12)) px) H := hP
  have hD : va_D A (Wc ty h (sF σ 6 11 (σ.1 6 12)) px) := hD
  exact B8 _ _ _  (sF σ 6 11 (σ.1 6 12)) hv hk (lv_sub hl [0] rfl) hP hD hS

-- ClauseLedger$Terms.keyOf(IIII)J
abbrev b_Te_keyOf : ByteArray := prog_11_method_26_code
def y_Te_keyOf : MethodName := ⟨"ClauseLedger$Terms", "keyOf", "(IIII)J"⟩
theorem hd_Te_keyOf : y_Te_keyOf.cls ≠ "java/lang/invoke/MethodHandle" ∧ y_Te_keyOf.cls ≠ "java/lang/invoke/VarHandle" ∧ (parseMethodDescriptor y_Te_keyOf.desc).map (fun d => d.parameters.length) = some 4 := by decide +kernel
theorem d_Te_keyOf_0 : decode b_Te_keyOf 0 = .ok (.iload_n 2, 1) := by decide +kernel
theorem d_Te_keyOf_1 : decode b_Te_keyOf 1 = .ok (.i2l, 1) := by decide +kernel
theorem d_Te_keyOf_2 : decode b_Te_keyOf 2 = .ok (.ldc2_w 115, 3) := by decide +kernel
theorem d_Te_keyOf_5 : decode b_Te_keyOf 5 = .ok (.ladd, 1) := by decide +kernel
theorem d_Te_keyOf_6 : decode b_Te_keyOf 6 = .ok (.ldc2_w 117, 3) := by decide +kernel
theorem d_Te_keyOf_9 : decode b_Te_keyOf 9 = .ok (.lmul, 1) := by decide +kernel
theorem d_Te_keyOf_10 : decode b_Te_keyOf 10 = .ok (.iload_n 3, 1) := by decide +kernel
theorem d_Te_keyOf_11 : decode b_Te_keyOf 11 = .ok (.i2l, 1) := by decide +kernel
theorem d_Te_keyOf_12 : decode b_Te_keyOf 12 = .ok (.ldc2_w 115, 3) := by decide +kernel
theorem d_Te_keyOf_15 : decode b_Te_keyOf 15 = .ok (.ladd, 1) := by decide +kernel
theorem d_Te_keyOf_16 : decode b_Te_keyOf 16 = .ok (.ladd, 1) := by decide +kernel
theorem d_Te_keyOf_17 : decode b_Te_keyOf 17 = .ok (.lstore 4, 2) := by decide +kernel
theorem d_Te_keyOf_19 : decode b_Te_keyOf 19 = .ok (.lload 4, 2) := by decide +kernel
theorem d_Te_keyOf_21 : decode b_Te_keyOf 21 = .ok (.ldc2_w 119, 3) := by decide +kernel
theorem d_Te_keyOf_24 : decode b_Te_keyOf 24 = .ok (.lmul, 1) := by decide +kernel
theorem d_Te_keyOf_25 : decode b_Te_keyOf 25 = .ok (.iload_n 1, 1) := by decide +kernel
theorem d_Te_keyOf_26 : decode b_Te_keyOf 26 = .ok (.iconst 1, 1) := by decide +kernel
theorem d_Te_keyOf_27 : decode b_Te_keyOf 27 = .ok (.iadd, 1) := by decide +kernel
theorem d_Te_keyOf_28 : decode b_Te_keyOf 28 = .ok (.i2l, 1) := by decide +kernel
theorem d_Te_keyOf_29 : decode b_Te_keyOf 29 = .ok (.ldc2_w 121, 3) := by decide +kernel
theorem d_Te_keyOf_32 : decode b_Te_keyOf 32 = .ok (.lmul, 1) := by decide +kernel
theorem d_Te_keyOf_33 : decode b_Te_keyOf 33 = .ok (.ladd, 1) := by decide +kernel
theorem d_Te_keyOf_34 : decode b_Te_keyOf 34 = .ok (.iload_n 0, 1) := by decide +kernel
theorem d_Te_keyOf_35 : decode b_Te_keyOf 35 = .ok (.i2l, 1) := by decide +kernel
theorem d_Te_keyOf_36 : decode b_Te_keyOf 36 = .ok (.ladd, 1) := by decide +kernel
theorem d_Te_keyOf_37 : decode b_Te_keyOf 37 = .ok (.lreturn, 1) := by decide +kernel
def f_Te_keyOf (a0 : Int32) (a1 : Int32) (a2 : Int32) (a3 : Int32) (σ : St) : Int64 := (((((a2.toInt64 + 100000) * 262144) + (a3.toInt64 + 100000)) * 256) + (((a1 + 1).toInt64) * 16)) + a0.toInt64
def k_Te_keyOf (a0 : Int32) (a1 : Int32) (a2 : Int32) (a3 : Int32) (σ : St) : Prop := True
abbrev w_Te_keyOf : List Cond := Cond.code y_Te_keyOf b_Te_keyOf 6 (some .long) :: gw
abbrev rm_Te_keyOf : Room := { frames := 0, cells := 0, slots := 0, locals := 0 }
set_option maxHeartbeats 4000000 in
set_option maxRecDepth 100000 in
theorem c_Te_keyOf (l : Launch) (D : va_G) (ty : Nat → ClassId) (h : Nat → Nat) (px : va_W) (σ : St) (a0 : Int32) (a1 : Int32) (a2 : Int32) (a3 : Int32) (hk : k_Te_keyOf a0 a1 a2 a3 σ) : Met l y_Te_keyOf w_Te_keyOf rm_Te_keyOf (va_Pc [.int a0, .int a1, .int a2, .int a3] (fun U => va_P D classes (Wc ty h σ px) U.heap ∧ va_K D classes (Ta ty) U)) (k2_QcV (.long (f_Te_keyOf a0 a1 a2 a3 σ))) 0 0 (fun _ => False) := by
  refine Met.ofW (cc := b_Te_keyOf) (maxL := 6) (ret := (some .long)) (by decide) rfl ?_
  intro p e s m args below meth c s₁ B hml hv
  obtain ⟨ha, hP, hK⟩ := hv
  have hx := B.exec
  have hb := B.bytes
  have hr := B.returns
  have hg : ∀ w ∈ gw, w.before args s = true := fun w h9 => atoms_spec (ws := w_Te_keyOf) B.pre w (List.mem_cons_of_mem _ h9)
  have hown : s.vm.findClass "ClauseLedger$Terms" = some m.cls := findClass_of_methodNamed B.named
  have hlocks := B.notSynchronized
  have he : entryFrame m args 6 = entryFrame m ([.int a0, .int a1, .int a2, .int a3] : List Value).toArray 6 := by rw [ha]
  rw [he, lg_entry_eq]
  have hl := lv_entry ([.int a0, .int a1, .int a2, .int a3]) (n := 6) (Nat.le_of_ble_eq_true rfl)
  generalize (lg_sl ([.int a0, .int a1, .int a2, .int a3]) ++ List.replicate (6 - (lg_sl ([.int a0, .int a1, .int a2, .int a3])).length) Slot.unset).toArray = ls at hl ⊢
  have hl : lv_has ls 6 [(0, .int a0), (1, .int a1), (2, .int a2), (3, .int a3)] := hl
  generalize hv : f_Te_keyOf a0 a1 a2 a3 σ = v
  replace hv := hv.symm
  unfold f_Te_keyOf at hv
  unfold k_Te_keyOf at hk
  refine lv_iload_n hx hb d_Te_keyOf_0 rfl (lv_at hl 2 rfl) ?_
  refine lv_i2l hx hb d_Te_keyOf_1 rfl ?_
  refine lv_ldc2 (v := 100000) hx hb hown (hg _ m_624) d_Te_keyOf_2 ?_
  refine lv_ladd hx hb d_Te_keyOf_5 ?_
  refine lv_ldc2 (v := 262144) hx hb hown (hg _ m_625) d_Te_keyOf_6 ?_
  refine lv_lmul hx hb d_Te_keyOf_9 ?_
  refine lv_iload_n hx hb d_Te_keyOf_10 rfl (lv_at hl 3 rfl) ?_
  refine lv_i2l hx hb d_Te_keyOf_11 rfl ?_
  refine lv_ldc2 (v := 100000) hx hb hown (hg _ m_624) d_Te_keyOf_12 ?_
  refine lv_ladd hx hb d_Te_keyOf_15 ?_
  refine lv_ladd hx hb d_Te_keyOf_16 ?_
  refine lv_lstore (lv' := [(4, .long (((a2.toInt64 + 100000) * 262144) + (a3.toInt64 + 100000))), (0, .int a0), (1, .int a1), (2, .int a2), (3, .int a3)]) hx hb d_Te_keyOf_17 hl (by decide) rfl (fun ls hl => ?_)
  refine lv_lload hx hb d_Te_keyOf_19 (lv_at hl 0 rfl) ?_
  refine lv_ldc2 (v := 256) hx hb hown (hg _ m_626) d_Te_keyOf_21 ?_
  refine lv_lmul hx hb d_Te_keyOf_24 ?_
  refine lv_iload_n hx hb d_Te_keyOf_25 rfl (lv_at hl 2 rfl) ?_
  refine lv_iconst (v := 1) hx hb d_Te_keyOf_26 (by decide) ?_
  refine lv_iadd hx hb d_Te_keyOf_27 ?_
  refine lv_i2l hx hb d_Te_keyOf_28 rfl ?_
  refine lv_ldc2 (v := 16) hx hb hown (hg _ m_627) d_Te_keyOf_29 ?_
  refine lv_lmul hx hb d_Te_keyOf_32 ?_
  refine lv_ladd hx hb d_Te_keyOf_33 ?_
  refine lv_iload_n hx hb d_Te_keyOf_34 rfl (lv_at hl 1 rfl) ?_
  refine lv_i2l hx hb d_Te_keyOf_35 rfl ?_
  refine lv_ladd hx hb d_Te_keyOf_36 ?_
  exact W.lret hx hb hr (fun t ht hW => ⟨by rw [hv], ht⟩) (fun q h => nomatch h) d_Te_keyOf_37

-- ClauseLedger$Terms.freeBy(III)I
abbrev b_Te_freeBy : ByteArray := prog_11_method_25_code
def y_Te_freeBy : MethodName := ⟨"ClauseLedger$Terms", "freeBy", "(III)I"⟩
theorem hd_Te_freeBy : y_Te_freeBy.cls ≠ "java/lang/invoke/MethodHandle" ∧ y_Te_freeBy.cls ≠ "java/lang/invoke/VarHandle" ∧ (parseMethodDescriptor y_Te_freeBy.desc).map (fun d => d.parameters.length) = some 3 := by decide +kernel
theorem d_Te_freeBy_0 : decode b_Te_freeBy 0 = .ok (.iload_n 0, 1) := by decide +kernel
theorem d_Te_freeBy_1 : decode b_Te_freeBy 1 = .ok (.iconst 1, 1) := by decide +kernel
theorem d_Te_freeBy_2 : decode b_Te_freeBy 2 = .ok (.if_icmp .ne 7, 3) := by decide +kernel
theorem d_Te_freeBy_5 : decode b_Te_freeBy 5 = .ok (.iconst 1, 1) := by decide +kernel
theorem d_Te_freeBy_6 : decode b_Te_freeBy 6 = .ok (.iload_n 1, 1) := by decide +kernel
theorem d_Te_freeBy_7 : decode b_Te_freeBy 7 = .ok (.ishl, 1) := by decide +kernel
theorem d_Te_freeBy_8 : decode b_Te_freeBy 8 = .ok (.ireturn, 1) := by decide +kernel
theorem d_Te_freeBy_9 : decode b_Te_freeBy 9 = .ok (.iload_n 0, 1) := by decide +kernel
theorem d_Te_freeBy_10 : decode b_Te_freeBy 10 = .ok (.bipush 10, 2) := by decide +kernel
theorem d_Te_freeBy_12 : decode b_Te_freeBy 12 = .ok (.if_icmp .ne 13, 3) := by decide +kernel
theorem d_Te_freeBy_15 : decode b_Te_freeBy 15 = .ok (.iload_n 2, 1) := by decide +kernel
theorem d_Te_freeBy_16 : decode b_Te_freeBy 16 = .ok (.iconst 1, 1) := by decide +kernel
theorem d_Te_freeBy_17 : decode b_Te_freeBy 17 = .ok (.iload_n 1, 1) := by decide +kernel
theorem d_Te_freeBy_18 : decode b_Te_freeBy 18 = .ok (.ishl, 1) := by decide +kernel
theorem d_Te_freeBy_19 : decode b_Te_freeBy 19 = .ok (.iconst (-1), 1) := by decide +kernel
theorem d_Te_freeBy_20 : decode b_Te_freeBy 20 = .ok (.ixor, 1) := by decide +kernel
theorem d_Te_freeBy_21 : decode b_Te_freeBy 21 = .ok (.iand, 1) := by decide +kernel
theorem d_Te_freeBy_22 : decode b_Te_freeBy 22 = .ok (.goto 4, 3) := by decide +kernel
theorem d_Te_freeBy_25 : decode b_Te_freeBy 25 = .ok (.iload_n 2, 1) := by decide +kernel
theorem d_Te_freeBy_26 : decode b_Te_freeBy 26 = .ok (.ireturn, 1) := by decide +kernel
def f_Te_freeBy_26 (s0 : Int32) (σ : St) : Int32 := s0
def k_Te_freeBy_26 (s0 : Int32) (σ : St) : Prop := True
def f_Te_freeBy (a0 : Int32) (a1 : Int32) (a2 : Int32) (σ : St) : Int32 := if a0 = 1 then (1 <<< (a1 &&& 31)) else (if a0 = 10 then (f_Te_freeBy_26 (a2 &&& ((1 <<< (a1 &&& 31)) ^^^ (-1))) σ) else (f_Te_freeBy_26 a2 σ))
def k_Te_freeBy (a0 : Int32) (a1 : Int32) (a2 : Int32) (σ : St) : Prop := (a0 = 1 → True) ∧ (¬ a0 = 1 → ((a0 = 10 → (k_Te_freeBy_26 (a2 &&& ((1 <<< (a1 &&& 31)) ^^^ (-1))) σ)) ∧ (¬ a0 = 10 → (k_Te_freeBy_26 a2 σ))))
abbrev w_Te_freeBy : List Cond := Cond.code y_Te_freeBy b_Te_freeBy 3 (some .int) :: gw
abbrev rm_Te_freeBy : Room := { frames := 0, cells := 0, slots := 0, locals := 0 }
set_option maxHeartbeats 4000000 in
set_option maxRecDepth 100000 in
theorem c_Te_freeBy (l : Launch) (D : va_G) (ty : Nat → ClassId) (h : Nat → Nat) (px : va_W) (σ : St) (a0 : Int32) (a1 : Int32) (a2 : Int32) (hk : k_Te_freeBy a0 a1 a2 σ) : Met l y_Te_freeBy w_Te_freeBy rm_Te_freeBy (va_Pc [.int a0, .int a1, .int a2] (fun U => va_P D classes (Wc ty h σ px) U.heap ∧ va_K D classes (Ta ty) U)) (k2_QcV (.int (f_Te_freeBy a0 a1 a2 σ))) 0 0 (fun _ => False) := by
  refine Met.ofW (cc := b_Te_freeBy) (maxL := 3) (ret := (some .int)) (by decide) rfl ?_
  intro p e s m args below meth c s₁ B hml hv
  obtain ⟨ha, hP, hK⟩ := hv
  have hx := B.exec
  have hb := B.bytes
  have hr := B.returns
  have hg : ∀ w ∈ gw, w.before args s = true := fun w h9 => atoms_spec (ws := w_Te_freeBy) B.pre w (List.mem_cons_of_mem _ h9)
  have hown : s.vm.findClass "ClauseLedger$Terms" = some m.cls := findClass_of_methodNamed B.named
  have hlocks := B.notSynchronized
  have he : entryFrame m args 3 = entryFrame m ([.int a0, .int a1, .int a2] : List Value).toArray 3 := by rw [ha]
  rw [he, lg_entry_eq]
  have hl := lv_entry ([.int a0, .int a1, .int a2]) (n := 3) (Nat.le_of_ble_eq_true rfl)
  generalize (lg_sl ([.int a0, .int a1, .int a2]) ++ List.replicate (3 - (lg_sl ([.int a0, .int a1, .int a2])).length) Slot.unset).toArray = ls at hl ⊢
  have hl : lv_has ls 3 [(0, .int a0), (1, .int a1), (2, .int a2)] := hl
  generalize hv : f_Te_freeBy a0 a1 a2 σ = v
  replace hv := hv.symm
  have B26 : ∀ (ls : Array Slot) (s0 : Int32), v = f_Te_freeBy_26 s0 σ → k_Te_freeBy_26 s0 σ → lv_has ls 3 [] → W p l e (headSpec w_Te_freeBy rm_Te_freeBy).room s m args below meth c s.heap [] 0 0 (MQ below (k2_QcV (.int v)) args s 0 0 (fun _ => False)) (F0 m 26 ls [.int s0]) := by
    intro ls s0 hv hk hl
    unfold f_Te_freeBy_26 at hv
    unfold k_Te_freeBy_26 at hk
    exact W.iret hx hb hr (fun t ht hW => ⟨by rw [hv], ht⟩) (fun q h => nomatch h) d_Te_freeBy_26
  unfold f_Te_freeBy at hv
  unfold k_Te_freeBy at hk
  refine lv_iload_n hx hb d_Te_freeBy_0 rfl (lv_at hl 0 rfl) ?_
  refine lv_iconst (v := 1) hx hb d_Te_freeBy_1 (by decide) ?_
  refine lv_icmp_ne (tgt := 9) hx hb d_Te_freeBy_2 (by decide) (fun hc => ?_) (fun hc => ?_)
  · have hv := hv.trans (if_neg hc)
    have hk := hk.2 hc
    refine lv_iload_n hx hb d_Te_freeBy_9 rfl (lv_at hl 0 rfl) ?_
    refine lv_bipush (v := 10) hx hb d_Te_freeBy_10 (by decide) ?_
    refine lv_icmp_ne (tgt := 25) hx hb d_Te_freeBy_12 (by decide) (fun hc => ?_) (fun hc => ?_)
    · have hv := hv.trans (if_neg hc)
      have hk := hk.2 hc
      refine lv_iload_n hx hb d_Te_freeBy_25 rfl (lv_at hl 2 rfl) ?_
      exact B26 _ a2 hv hk (lv_sub hl [] rfl)
    · have hv := hv.trans (if_pos hc)
      have hk := hk.1 hc
      refine lv_iload_n hx hb d_Te_freeBy_15 rfl (lv_at hl 2 rfl) ?_
      refine lv_iconst (v := 1) hx hb d_Te_freeBy_16 (by decide) ?_
      refine lv_iload_n hx hb d_Te_freeBy_17 rfl (lv_at hl 1 rfl) ?_
      refine lv_ishl hx hb d_Te_freeBy_18 ?_
      refine lv_iconst (v := -1) hx hb d_Te_freeBy_19 (by decide) ?_
      refine lv_ixor hx hb d_Te_freeBy_20 ?_
      refine lv_iand hx hb d_Te_freeBy_21 ?_
      refine lv_goto (tgt := 26) hx hb d_Te_freeBy_22 (by decide) ?_
      exact B26 _ (a2 &&& ((1 <<< (a1 &&& 31)) ^^^ (-1))) hv hk (lv_sub hl [] rfl)
  · have hv := hv.trans (if_pos hc)
    have hk := hk.1 hc
    refine lv_iconst (v := 1) hx hb d_Te_freeBy_5 (by decide) ?_
    refine lv_iload_n hx hb d_Te_freeBy_6 rfl (lv_at hl 1 rfl) ?_
    refine lv_ishl hx hb d_Te_freeBy_7 ?_
    exact W.iret hx hb hr (fun t ht hW => ⟨by rw [hv], ht⟩) (fun q h => nomatch h) d_Te_freeBy_8

