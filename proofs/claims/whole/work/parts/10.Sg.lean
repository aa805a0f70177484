-- ClauseLedger$Signature.addSort()I
abbrev b_Sg_addSort : ByteArray := prog_8_method_2_code
def y_Sg_addSort : MethodName := ⟨"ClauseLedger$Signature", "addSort", "()I"⟩
theorem hd_Sg_addSort : y_Sg_addSort.cls ≠ "java/lang/invoke/MethodHandle" ∧ y_Sg_addSort.cls ≠ "java/lang/invoke/VarHandle" ∧ (parseMethodDescriptor y_Sg_addSort.desc).map (fun d => d.parameters.length) = some 0 := by decide +kernel
theorem d_Sg_addSort_0 : decode b_Sg_addSort 0 = .ok (.aload_n 0, 1) := by decide +kernel
theorem d_Sg_addSort_1 : decode b_Sg_addSort 1 = .ok (.getfield 24, 3) := by decide +kernel
theorem d_Sg_addSort_4 : decode b_Sg_addSort 4 = .ok (.iconst 5, 1) := by decide +kernel
theorem d_Sg_addSort_5 : decode b_Sg_addSort 5 = .ok (.if_icmp .lt 5, 3) := by decide +kernel
theorem d_Sg_addSort_8 : decode b_Sg_addSort 8 = .ok (.iconst (-1), 1) := by decide +kernel
theorem d_Sg_addSort_9 : decode b_Sg_addSort 9 = .ok (.ireturn, 1) := by decide +kernel
theorem d_Sg_addSort_10 : decode b_Sg_addSort 10 = .ok (.aload_n 0, 1) := by decide +kernel
theorem d_Sg_addSort_11 : decode b_Sg_addSort 11 = .ok (.dup, 1) := by decide +kernel
theorem d_Sg_addSort_12 : decode b_Sg_addSort 12 = .ok (.getfield 24, 3) := by decide +kernel
theorem d_Sg_addSort_15 : decode b_Sg_addSort 15 = .ok (.iconst 1, 1) := by decide +kernel
theorem d_Sg_addSort_16 : decode b_Sg_addSort 16 = .ok (.iadd, 1) := by decide +kernel
theorem d_Sg_addSort_17 : decode b_Sg_addSort 17 = .ok (.putfield 24, 3) := by decide +kernel
theorem d_Sg_addSort_20 : decode b_Sg_addSort 20 = .ok (.aload_n 0, 1) := by decide +kernel
theorem d_Sg_addSort_21 : decode b_Sg_addSort 21 = .ok (.getfield 24, 3) := by decide +kernel
theorem d_Sg_addSort_24 : decode b_Sg_addSort 24 = .ok (.iconst 1, 1) := by decide +kernel
theorem d_Sg_addSort_25 : decode b_Sg_addSort 25 = .ok (.isub, 1) := by decide +kernel
theorem d_Sg_addSort_26 : decode b_Sg_addSort 26 = .ok (.ireturn, 1) := by decide +kernel
def f_Sg_addSort_20 (σ : St) : Int32 × St := ((σ.1 1 4) - 1, σ)
def k_Sg_addSort_20 (σ : St) : Prop := True
def f_Sg_addSort (σ : St) : Int32 × St := if (σ.1 1 4) < 5 then (f_Sg_addSort_20 (sF σ 1 4 ((σ.1 1 4) + 1))) else ((-1), σ)
def k_Sg_addSort (σ : St) : Prop := ((σ.1 1 4) < 5 → (k_Sg_addSort_20 (sF σ 1 4 ((σ.1 1 4) + 1)))) ∧ (¬ (σ.1 1 4) < 5 → True)
abbrev w_Sg_addSort : List Cond := Cond.code y_Sg_addSort b_Sg_addSort 1 (some .int) :: gw
abbrev rm_Sg_addSort : Room := { frames := 0, cells := 0, slots := 0, locals := 0 }
set_option maxHeartbeats 4000000 in
set_option maxRecDepth 100000 in
theorem c_Sg_addSort (l : Launch) (D : va_G) (ty : Nat → ClassId) (h : Nat → Nat) (px : va_W) (σ : St) (sz : Nat) (hk : k_Sg_addSort σ) : Met l y_Sg_addSort w_Sg_addSort rm_Sg_addSort (va_Pc [.ref (h 1)] (fun U => U.heap.size = sz ∧ va_P D classes (Wc ty h σ px) U.heap ∧ va_K D classes (Ta ty) U ∧ va_D (fun _ => True) (Wc ty h σ px))) (va_Qi (fun r (u : St) => (r, u) = f_Sg_addSort σ) (fun u t => va_P D classes (Wc ty h u px) t.heap) (va_A (Wc ty h σ px) sz)) 0 0 (va_A (Wc ty h σ px) sz) := by
  refine Met.ofW (cc := b_Sg_addSort) (maxL := 1) (ret := (some .int)) (by decide) rfl ?_
  intro p e s m args below meth c s₁ B hml hv
  obtain ⟨ha, hsz, hP, hK, hD0⟩ := hv
  have hx := B.exec
  have hb := B.bytes
  have hr := B.returns
  have hg : ∀ w ∈ gw, w.before args s = true := fun w h9 => atoms_spec (ws := w_Sg_addSort) B.pre w (List.mem_cons_of_mem _ h9)
  have hown : s.vm.findClass "ClauseLedger$Signature" = some m.cls := findClass_of_methodNamed B.named
  have hlocks := B.notSynchronized
  subst hsz
  have hD := hD0.self (sz := s.heap.size)
  generalize hAe : va_A (Wc ty h σ px) s.heap.size = A at hD ⊢
  have hA : ∀ q : Nat, s.heap.size ≤ q → A q := fun q h9 => by rw [← hAe]; exact Or.inr h9
  have hS : va_S A s.heap s.heap [] := va_S.rf
  have he : entryFrame m args 1 = entryFrame m ([.ref (h 1)] : List Value).toArray 1 := by rw [ha]
  rw [he, lg_entry_eq]
  have hl := lv_entry ([.ref (h 1)]) (n := 1) (Nat.le_of_ble_eq_true rfl)
  generalize (lg_sl ([.ref (h 1)]) ++ List.replicate (1 - (lg_sl ([.ref (h 1)])).length) Slot.unset).toArray = ls at hl ⊢
  have hl : lv_has ls 1 [(0, .ref (h 1))] := hl
  generalize hv : f_Sg_addSort σ = v
  replace hv := hv.symm
  have B20 : ∀ (H : Heap) (locs : List Loc) (ls : Array Slot) (σ : St), v = f_Sg_addSort_20 σ → k_Sg_addSort_20 σ → lv_has ls 1 [(0, .ref (h 1))] → va_P D classes (Wc ty h σ px) H → va_D A (Wc ty h σ px) → va_S A s.heap H locs → W p l e (headSpec w_Sg_addSort rm_Sg_addSort).room s m args below meth c H locs 0 0 (MQ below (va_Qi (fun r (u : St) => (r, u) = v) (fun u t => va_P D classes (Wc ty h u px) t.heap) A) args s 0 0 A) (F0 m 20 ls []) := by
    intro H locs ls σ hv hk hl hP hD hS
    unfold f_Sg_addSort_20 at hv
    unfold k_Sg_addSort_20 at hk
    refine lv_aload_n hx hb d_Sg_addSort_20 rfl (lv_at hl 0 rfl) ?_
    refine va_get (v := .int (σ.1 1 4)) (C := R_Sg) (T := T_Sg) (N := 6) hx hb hg in_Sg hown hK hP 1 rfl rfl 4 (by decide) (hg _ m_47) (fun _ h9 => h9) rfl d_Sg_addSort_21 ?_
    refine lv_iconst (v := 1) hx hb d_Sg_addSort_24 (by decide) ?_
    refine lv_isub hx hb d_Sg_addSort_25 ?_
    exact W.iret hx hb hr (fun t ht hW => ⟨⟨_, _, rfl, hv.symm, by dsimp only; rw [ht]; exact hP⟩, hS.F ht⟩) hS.2.2 d_Sg_addSort_26
  unfold f_Sg_addSort at hv
  unfold k_Sg_addSort at hk
  refine lv_aload_n hx hb d_Sg_addSort_0 rfl (lv_at hl 0 rfl) ?_
  refine va_get (v := .int (σ.1 1 4)) (C := R_Sg) (T := T_Sg) (N := 6) hx hb hg in_Sg hown hK hP 1 rfl rfl 4 (by decide) (hg _ m_47) (fun _ h9 => h9) rfl d_Sg_addSort_1 ?_
  refine lv_iconst (v := 5) hx hb d_Sg_addSort_4 (by decide) ?_
  refine lv_icmp_lt (tgt := 10) hx hb d_Sg_addSort_5 (by decide) (fun hc => ?_) (fun hc => ?_)
  · have hv := hv.trans (if_pos hc)
    have hk := hk.1 hc
    refine lv_aload_n hx hb d_Sg_addSort_10 rfl (lv_at hl 0 rfl) ?_
    refine lv_dup hx hb d_Sg_addSort_11 rfl ?_
    refine va_get (v := .int (σ.1 1 4)) (C := R_Sg) (T := T_Sg) (N := 6) hx hb hg in_Sg hown hK hP 1 rfl rfl 4 (by decide) (hg _ m_47) (fun _ h9 => h9) rfl d_Sg_addSort_12 ?_
    refine lv_iconst (v := 1) hx hb d_Sg_addSort_15 (by decide) ?_
    refine lv_iadd hx hb d_Sg_addSort_16 ?_
    refine va_put (v := .int ((σ.1 1 4) + 1)) (ty := .int) (C := R_Sg) (T := T_Sg) (N := 6) hx hb hg in_Sg ty_Sg ok_Sg nm_Sg hown hK hP hD hS 1 rfl rfl 4 (by decide) (hg _ m_47) (fun _ h9 => h9) rfl (by decide +kernel) rfl rfl (Nat.le_of_ble_eq_true rfl) d_Sg_addSort_17 (fun H locs hP hD hS => ?_)
    have hP : va_P D classes (Wc ty h (sF σ 1 4 ((σ.1 1 4) + 1)) px) H := hP
    have hD : va_D A (Wc ty h (sF σ 1 4 ((σ.1 1 4) + 1)) px) := hD
    exact B20 _ _ _  (sF σ 1 4 ((σ.1 1 4) + 1)) hv hk (lv_sub hl [0] rfl) hP hD hS
  · have hv := hv.trans (if_neg hc)
    have hk := hk.2 hc
    refine lv_iconst (v := -1) hx hb d_Sg_addSort_8 (by decide) ?_
    exact W.iret hx hb hr (fun t ht hW => ⟨⟨_, _, rfl, hv.symm, by dsimp only; rw [ht]; exact hP⟩, hS.F ht⟩) hS.2.2 d_Sg_addSort_9

-- ClauseLedger$Signature.isSort(I)Z
abbrev b_Sg_isSort : ByteArray := prog_8_method_11_code
def y_Sg_isSort : MethodName := ⟨"ClauseLedger$Signature", "isSort", "(I)Z"⟩
theorem hd_Sg_isSort : y_Sg_isSort.cls ≠ "java/lang/invoke/MethodHandle" ∧ y_Sg_isSort.cls ≠ "java/lang/invoke/VarHandle" ∧ (parseMethodDescriptor y_Sg_isSort.desc).map (fun d => d.parameters.length) = some 1 := by decide +kernel
theorem d_Sg_isSort_0 : decode b_Sg_isSort 0 = .ok (.iload_n 1, 1) := by decide +kernel
theorem d_Sg_isSort_1 : decode b_Sg_isSort 1 = .ok (.ifCond .lt 15, 3) := by decide +kernel
theorem d_Sg_isSort_4 : decode b_Sg_isSort 4 = .ok (.iload_n 1, 1) := by decide +kernel
theorem d_Sg_isSort_5 : decode b_Sg_isSort 5 = .ok (.aload_n 0, 1) := by decide +kernel
theorem d_Sg_isSort_6 : decode b_Sg_isSort 6 = .ok (.getfield 24, 3) := by decide +kernel
theorem d_Sg_isSort_9 : decode b_Sg_isSort 9 = .ok (.if_icmp .ge 7, 3) := by decide +kernel
theorem d_Sg_isSort_12 : decode b_Sg_isSort 12 = .ok (.iconst 1, 1) := by decide +kernel
theorem d_Sg_isSort_13 : decode b_Sg_isSort 13 = .ok (.goto 4, 3) := by decide +kernel
theorem d_Sg_isSort_16 : decode b_Sg_isSort 16 = .ok (.iconst 0, 1) := by decide +kernel
theorem d_Sg_isSort_17 : decode b_Sg_isSort 17 = .ok (.ireturn, 1) := by decide +kernel
def f_Sg_isSort_17 (s0 : Int32) (σ : St) : Int32 := s0
def k_Sg_isSort_17 (s0 : Int32) (σ : St) : Prop := (narrow .boolean (.int s0) = .int s0) ∧ True
def f_Sg_isSort_16 (σ : St) : Int32 := f_Sg_isSort_17 0 σ
def k_Sg_isSort_16 (σ : St) : Prop := k_Sg_isSort_17 0 σ
def f_Sg_isSort (a1 : Int32) (σ : St) : Int32 := if a1 < 0 then (f_Sg_isSort_16 σ) else (if (σ.1 1 4) ≤ a1 then (f_Sg_isSort_16 σ) else (f_Sg_isSort_17 1 σ))
def k_Sg_isSort (a1 : Int32) (σ : St) : Prop := (a1 < 0 → (k_Sg_isSort_16 σ)) ∧ (¬ a1 < 0 → (((σ.1 1 4) ≤ a1 → (k_Sg_isSort_16 σ)) ∧ (¬ (σ.1 1 4) ≤ a1 → (k_Sg_isSort_17 1 σ))))
abbrev w_Sg_isSort : List Cond := Cond.code y_Sg_isSort b_Sg_isSort 2 (some .boolean) :: gw
abbrev rm_Sg_isSort : Room := { frames := 0, cells := 0, slots := 0, locals := 0 }
set_option maxHeartbeats 4000000 in
set_option maxRecDepth 100000 in
theorem c_Sg_isSort (l : Launch) (D : va_G) (ty : Nat → ClassId) (h : Nat → Nat) (px : va_W) (σ : St) (a1 : Int32) (hk : k_Sg_isSort a1 σ) : Met l y_Sg_isSort w_Sg_isSort rm_Sg_isSort (va_Pc [.ref (h 1), .int a1] (fun U => va_P D classes (Wc ty h σ px) U.heap ∧ va_K D classes (Ta ty) U)) (k2_QcV (.int (f_Sg_isSort a1 σ))) 0 0 (fun _ => False) := by
  refine Met.ofW (cc := b_Sg_isSort) (maxL := 2) (ret := (some .boolean)) (by decide) rfl ?_
  intro p e s m args below meth c s₁ B hml hv
  obtain ⟨ha, hP, hK⟩ := hv
  have hx := B.exec
  have hb := B.bytes
  have hr := B.returns
  have hg : ∀ w ∈ gw, w.before args s = true := fun w h9 => atoms_spec (ws := w_Sg_isSort) B.pre w (List.mem_cons_of_mem _ h9)
  have hown : s.vm.findClass "ClauseLedger$Signature" = some m.cls := findClass_of_methodNamed B.named
  have hlocks := B.notSynchronized
  have he : entryFrame m args 2 = entryFrame m ([.ref (h 1), .int a1] : List Value).toArray 2 := by rw [ha]
  rw [he, lg_entry_eq]
  have hl := lv_entry ([.ref (h 1), .int a1]) (n := 2) (Nat.le_of_ble_eq_true rfl)
  generalize (lg_sl ([.ref (h 1), .int a1]) ++ List.replicate (2 - (lg_sl ([.ref (h 1), .int a1])).length) Slot.unset).toArray = ls at hl ⊢
  have hl : lv_has ls 2 [(0, .ref (h 1)), (1, .int a1)] := hl
  generalize hv : f_Sg_isSort a1 σ = v
  replace hv := hv.symm
  have B17 : ∀ (ls : Array Slot) (s0 : Int32), v = f_Sg_isSort_17 s0 σ → k_Sg_isSort_17 s0 σ → lv_has ls 2 [] → W p l e (headSpec w_Sg_isSort rm_Sg_isSort).room s m args below meth c s.heap [] 0 0 (MQ below (k2_QcV (.int v)) args s 0 0 (fun _ => False)) (F0 m 17 ls [.int s0]) := by
    intro ls s0 hv hk hl
    unfold f_Sg_isSort_17 at hv
    unfold k_Sg_isSort_17 at hk
    obtain ⟨hk0, hk⟩ := hk
    exact W.zret hx hb hr hk0 (fun t ht hW => ⟨by rw [hv], ht⟩) (fun q h => nomatch h) d_Sg_isSort_17
  have B16 : ∀ (ls : Array Slot), v = f_Sg_isSort_16 σ → k_Sg_isSort_16 σ → lv_has ls 2 [] → W p l e (headSpec w_Sg_isSort rm_Sg_isSort).room s m args below meth c s.heap [] 0 0 (MQ below (k2_QcV (.int v)) args s 0 0 (fun _ => False)) (F0 m 16 ls []) := by
    intro ls hv hk hl
    unfold f_Sg_isSort_16 at hv
    unfold k_Sg_isSort_16 at hk
    refine lv_iconst (v := 0) hx hb d_Sg_isSort_16 (by decide) ?_
    exact B17 _ 0 hv hk (lv_sub hl [] rfl)
  unfold f_Sg_isSort at hv
  unfold k_Sg_isSort at hk
  refine lv_iload_n hx hb d_Sg_isSort_0 rfl (lv_at hl 1 rfl) ?_
  refine lv_if_lt (tgt := 16) hx hb d_Sg_isSort_1 (by decide) (fun hc => ?_) (fun hc => ?_)
  · have hv := hv.trans (if_pos hc)
    have hk := hk.1 hc
    exact B16 _  hv hk (lv_sub hl [] rfl)
  · have hv := hv.trans (if_neg hc)
    have hk := hk.2 hc
    refine lv_iload_n hx hb d_Sg_isSort_4 rfl (lv_at hl 1 rfl) ?_
    refine lv_aload_n hx hb d_Sg_isSort_5 rfl (lv_at hl 0 rfl) ?_
    refine va_get (v := .int (σ.1 1 4)) (C := R_Sg) (T := T_Sg) (N := 6) hx hb hg in_Sg hown hK hP 1 rfl rfl 4 (by decide) (hg _ m_47) (fun _ h9 => h9) rfl d_Sg_isSort_6 ?_
    refine lv_icmp_ge (tgt := 16) hx hb d_Sg_isSort_9 (by decide) (fun hc => ?_) (fun hc => ?_)
    · have hv := hv.trans (if_pos hc)
      have hk := hk.1 hc
      exact B16 _  hv hk (lv_sub hl [] rfl)
    · have hv := hv.trans (if_neg hc)
      have hk := hk.2 hc
      refine lv_iconst (v := 1) hx hb d_Sg_isSort_12 (by decide) ?_
      refine lv_goto (tgt := 17) hx hb d_Sg_isSort_13 (by decide) ?_
      exact B17 _ 1 hv hk (lv_sub hl [] rfl)

-- ClauseLedger$Signature.isSortOrNone(I)Z
abbrev b_Sg_isSortOrNone : ByteArray := prog_8_method_12_code
def y_Sg_isSortOrNone : MethodName := ⟨"ClauseLedger$Signature", "isSortOrNone", "(I)Z"⟩
theorem hd_Sg_isSortOrNone : y_Sg_isSortOrNone.cls ≠ "java/lang/invoke/MethodHandle" ∧ y_Sg_isSortOrNone.cls ≠ "java/lang/invoke/VarHandle" ∧ (parseMethodDescriptor y_Sg_isSortOrNone.desc).map (fun d => d.parameters.length) = some 1 := by decide +kernel
theorem d_Sg_isSortOrNone_0 : decode b_Sg_isSortOrNone 0 = .ok (.iload_n 1, 1) := by decide +kernel
theorem d_Sg_isSortOrNone_1 : decode b_Sg_isSortOrNone 1 = .ok (.iconst (-1), 1) := by decide +kernel
theorem d_Sg_isSortOrNone_2 : decode b_Sg_isSortOrNone 2 = .ok (.if_icmp .eq 11, 3) := by decide +kernel
theorem d_Sg_isSortOrNone_5 : decode b_Sg_isSortOrNone 5 = .ok (.aload_n 0, 1) := by decide +kernel
theorem d_Sg_isSortOrNone_6 : decode b_Sg_isSortOrNone 6 = .ok (.iload_n 1, 1) := by decide +kernel
theorem d_Sg_isSortOrNone_7 : decode b_Sg_isSortOrNone 7 = .ok (.invokevirtual 31, 3) := by decide +kernel
theorem d_Sg_isSortOrNone_10 : decode b_Sg_isSortOrNone 10 = .ok (.ifCond .eq 7, 3) := by decide +kernel
theorem d_Sg_isSortOrNone_13 : decode b_Sg_isSortOrNone 13 = .ok (.iconst 1, 1) := by decide +kernel
theorem d_Sg_isSortOrNone_14 : decode b_Sg_isSortOrNone 14 = .ok (.goto 4, 3) := by decide +kernel
theorem d_Sg_isSortOrNone_17 : decode b_Sg_isSortOrNone 17 = .ok (.iconst 0, 1) := by decide +kernel
theorem d_Sg_isSortOrNone_18 : decode b_Sg_isSortOrNone 18 = .ok (.ireturn, 1) := by decide +kernel
def f_Sg_isSortOrNone_18 (s0 : Int32) (σ : St) : Int32 := s0
def k_Sg_isSortOrNone_18 (s0 : Int32) (σ : St) : Prop := (narrow .boolean (.int s0) = .int s0) ∧ True
def f_Sg_isSortOrNone_13 (σ : St) : Int32 := f_Sg_isSortOrNone_18 1 σ
def k_Sg_isSortOrNone_13 (σ : St) : Prop := k_Sg_isSortOrNone_18 1 σ
def f_Sg_isSortOrNone (a1 : Int32) (σ : St) : Int32 := if a1 = (-1) then (f_Sg_isSortOrNone_13 σ) else (if (f_Sg_isSort a1 σ) = 0 then (f_Sg_isSortOrNone_18 0 σ) else (f_Sg_isSortOrNone_13 σ))
def k_Sg_isSortOrNone (a1 : Int32) (σ : St) : Prop := (a1 = (-1) → (k_Sg_isSortOrNone_13 σ)) ∧ (¬ a1 = (-1) → ((k_Sg_isSort a1 σ) ∧ (((f_Sg_isSort a1 σ) = 0 → (k_Sg_isSortOrNone_18 0 σ)) ∧ (¬ (f_Sg_isSort a1 σ) = 0 → (k_Sg_isSortOrNone_13 σ)))))
abbrev w_Sg_isSortOrNone : List Cond := Cond.code y_Sg_isSortOrNone b_Sg_isSortOrNone 2 (some .boolean) :: gw
abbrev rm_Sg_isSortOrNone : Room := { frames := 1, cells := 0, slots := 0, locals := 21 }
set_option maxHeartbeats 4000000 in
set_option maxRecDepth 100000 in
theorem c_Sg_isSortOrNone (l : Launch) (D : va_G) (ty : Nat → ClassId) (h : Nat → Nat) (px : va_W) (σ : St) (a1 : Int32) (hk : k_Sg_isSortOrNone a1 σ) : Met l y_Sg_isSortOrNone w_Sg_isSortOrNone rm_Sg_isSortOrNone (va_Pc [.ref (h 1), .int a1] (fun U => va_P D classes (Wc ty h σ px) U.heap ∧ va_K D classes (Ta ty) U)) (k2_QcV (.int (f_Sg_isSortOrNone a1 σ))) 0 0 (fun _ => False) := by
  refine Met.ofW (cc := b_Sg_isSortOrNone) (maxL := 2) (ret := (some .boolean)) (by decide) rfl ?_
  intro p e s m args below meth c s₁ B hml hv
  obtain ⟨ha, hP, hK⟩ := hv
  have hx := B.exec
  have hb := B.bytes
  have hr := B.returns
  have hg : ∀ w ∈ gw, w.before args s = true := fun w h9 => atoms_spec (ws := w_Sg_isSortOrNone) B.pre w (List.mem_cons_of_mem _ h9)
  have hown : s.vm.findClass "ClauseLedger$Signature" = some m.cls := findClass_of_methodNamed B.named
  have hlocks := B.notSynchronized
  have he : entryFrame m args 2 = entryFrame m ([.ref (h 1), .int a1] : List Value).toArray 2 := by rw [ha]
  rw [he, lg_entry_eq]
  have hl := lv_entry ([.ref (h 1), .int a1]) (n := 2) (Nat.le_of_ble_eq_true rfl)
  generalize (lg_sl ([.ref (h 1), .int a1]) ++ List.replicate (2 - (lg_sl ([.ref (h 1), .int a1])).length) Slot.unset).toArray = ls at hl ⊢
  have hl : lv_has ls 2 [(0, .ref (h 1)), (1, .int a1)] := hl
  generalize hv : f_Sg_isSortOrNone a1 σ = v
  replace hv := hv.symm
  have B18 : ∀ (ls : Array Slot) (s0 : Int32), v = f_Sg_isSortOrNone_18 s0 σ → k_Sg_isSortOrNone_18 s0 σ → lv_has ls 2 [] → W p l e (headSpec w_Sg_isSortOrNone rm_Sg_isSortOrNone).room s m args below meth c s.heap [] 0 0 (MQ below (k2_QcV (.int v)) args s 0 0 (fun _ => False)) (F0 m 18 ls [.int s0]) := by
    intro ls s0 hv hk hl
    unfold f_Sg_isSortOrNone_18 at hv
    unfold k_Sg_isSortOrNone_18 at hk
    obtain ⟨hk0, hk⟩ := hk
    exact W.zret hx hb hr hk0 (fun t ht hW => ⟨by rw [hv], ht⟩) (fun q h => nomatch h) d_Sg_isSortOrNone_18
  have B13 : ∀ (ls : Array Slot), v = f_Sg_isSortOrNone_13 σ → k_Sg_isSortOrNone_13 σ → lv_has ls 2 [] → W p l e (headSpec w_Sg_isSortOrNone rm_Sg_isSortOrNone).room s m args below meth c s.heap [] 0 0 (MQ below (k2_QcV (.int v)) args s 0 0 (fun _ => False)) (F0 m 13 ls []) := by
    intro ls hv hk hl
    unfold f_Sg_isSortOrNone_13 at hv
    unfold k_Sg_isSortOrNone_13 at hk
    refine lv_iconst (v := 1) hx hb d_Sg_isSortOrNone_13 (by decide) ?_
    refine lv_goto (tgt := 18) hx hb d_Sg_isSortOrNone_14 (by decide) ?_
    exact B18 _ 1 hv hk (lv_sub hl [] rfl)
  unfold f_Sg_isSortOrNone at hv
  unfold k_Sg_isSortOrNone at hk
  refine lv_iload_n hx hb d_Sg_isSortOrNone_0 rfl (lv_at hl 1 rfl) ?_
  refine lv_iconst (v := -1) hx hb d_Sg_isSortOrNone_1 (by decide) ?_
  refine lv_icmp_eq (tgt := 13) hx hb d_Sg_isSortOrNone_2 (by decide) (fun hc => ?_) (fun hc => ?_)
  · have hv := hv.trans (if_pos hc)
    have hk := hk.1 hc
    exact B13 _  hv hk (lv_sub hl [] rfl)
  · have hv := hv.trans (if_neg hc)
    have hk := hk.2 hc
    refine lv_aload_n hx hb d_Sg_isSortOrNone_5 rfl (lv_at hl 0 rfl) ?_
    refine lv_iload_n hx hb d_Sg_isSortOrNone_6 rfl (lv_at hl 1 rfl) ?_
    obtain ⟨hk0, hk⟩ := hk
    refine zz_callV (va_runV (As := [.int a1]) (rest := []) ⟨hx, hb, hml, hown, hg⟩ (c_Sg_isSort l D ty h px σ a1 hk0) ⟨callB_of 1 hg (gw_C m_337) rfl rfl rfl (hg _ m_2) (hg _ m_334) hd_Sg_isSort ⟨Nat.le_of_ble_eq_true rfl, Nat.le_of_ble_eq_true rfl⟩, hg _ m_336, hg _ ms_0⟩ (zz_preV hK hP 1 rfl rfl) rfl rfl hl.1 rfl (lv_room (Nat.le_of_ble_eq_true rfl)) d_Sg_isSortOrNone_7 ⟨Nat.le_refl _, Nat.le_refl _⟩) ?_
    refine lv_if_eq (tgt := 17) hx hb d_Sg_isSortOrNone_10 (by decide) (fun hc => ?_) (fun hc => ?_)
    · have hv := hv.trans (if_pos hc)
      have hk := hk.1 hc
      refine lv_iconst (v := 0) hx hb d_Sg_isSortOrNone_17 (by decide) ?_
      exact B18 _ 0 hv hk (lv_sub hl [] rfl)
    · have hv := hv.trans (if_neg hc)
      have hk := hk.2 hc
      exact B13 _  hv hk (lv_sub hl [] rfl)

-- ClauseLedger$Signature.addSymbol(III)I
abbrev b_Sg_addSymbol : ByteArray := prog_8_method_3_code
def y_Sg_addSymbol : MethodName := ⟨"ClauseLedger$Signature", "addSymbol", "(III)I"⟩
theorem hd_Sg_addSymbol : y_Sg_addSymbol.cls ≠ "java/lang/invoke/MethodHandle" ∧ y_Sg_addSymbol.cls ≠ "java/lang/invoke/VarHandle" ∧ (parseMethodDescriptor y_Sg_addSymbol.desc).map (fun d => d.parameters.length) = some 3 := by decide +kernel
theorem d_Sg_addSymbol_0 : decode b_Sg_addSymbol 0 = .ok (.aload_n 0, 1) := by decide +kernel
theorem d_Sg_addSymbol_1 : decode b_Sg_addSymbol 1 = .ok (.getfield 28, 3) := by decide +kernel
theorem d_Sg_addSymbol_4 : decode b_Sg_addSymbol 4 = .ok (.bipush 12, 2) := by decide +kernel
theorem d_Sg_addSymbol_6 : decode b_Sg_addSymbol 6 = .ok (.if_icmp .ge 37, 3) := by decide +kernel
theorem d_Sg_addSymbol_9 : decode b_Sg_addSymbol 9 = .ok (.aload_n 0, 1) := by decide +kernel
theorem d_Sg_addSymbol_10 : decode b_Sg_addSymbol 10 = .ok (.iload_n 1, 1) := by decide +kernel
theorem d_Sg_addSymbol_11 : decode b_Sg_addSymbol 11 = .ok (.invokevirtual 31, 3) := by decide +kernel
theorem d_Sg_addSymbol_14 : decode b_Sg_addSymbol 14 = .ok (.ifCond .eq 29, 3) := by decide +kernel
theorem d_Sg_addSymbol_17 : decode b_Sg_addSymbol 17 = .ok (.aload_n 0, 1) := by decide +kernel
theorem d_Sg_addSymbol_18 : decode b_Sg_addSymbol 18 = .ok (.iload_n 2, 1) := by decide +kernel
theorem d_Sg_addSymbol_19 : decode b_Sg_addSymbol 19 = .ok (.invokevirtual 35, 3) := by decide +kernel
theorem d_Sg_addSymbol_22 : decode b_Sg_addSymbol 22 = .ok (.ifCond .eq 21, 3) := by decide +kernel
theorem d_Sg_addSymbol_25 : decode b_Sg_addSymbol 25 = .ok (.aload_n 0, 1) := by decide +kernel
theorem d_Sg_addSymbol_26 : decode b_Sg_addSymbol 26 = .ok (.iload_n 3, 1) := by decide +kernel
theorem d_Sg_addSymbol_27 : decode b_Sg_addSymbol 27 = .ok (.invokevirtual 35, 3) := by decide +kernel
theorem d_Sg_addSymbol_30 : decode b_Sg_addSymbol 30 = .ok (.ifCond .eq 13, 3) := by decide +kernel
theorem d_Sg_addSymbol_33 : decode b_Sg_addSymbol 33 = .ok (.iload_n 2, 1) := by decide +kernel
theorem d_Sg_addSymbol_34 : decode b_Sg_addSymbol 34 = .ok (.iconst (-1), 1) := by decide +kernel
theorem d_Sg_addSymbol_35 : decode b_Sg_addSymbol 35 = .ok (.if_icmp .ne 10, 3) := by decide +kernel
theorem d_Sg_addSymbol_38 : decode b_Sg_addSymbol 38 = .ok (.iload_n 3, 1) := by decide +kernel
theorem d_Sg_addSymbol_39 : decode b_Sg_addSymbol 39 = .ok (.iconst (-1), 1) := by decide +kernel
theorem d_Sg_addSymbol_40 : decode b_Sg_addSymbol 40 = .ok (.if_icmp .eq 5, 3) := by decide +kernel
theorem d_Sg_addSymbol_43 : decode b_Sg_addSymbol 43 = .ok (.iconst (-1), 1) := by decide +kernel
theorem d_Sg_addSymbol_44 : decode b_Sg_addSymbol 44 = .ok (.ireturn, 1) := by decide +kernel
theorem d_Sg_addSymbol_45 : decode b_Sg_addSymbol 45 = .ok (.aload_n 0, 1) := by decide +kernel
theorem d_Sg_addSymbol_46 : decode b_Sg_addSymbol 46 = .ok (.getfield 11, 3) := by decide +kernel
theorem d_Sg_addSymbol_49 : decode b_Sg_addSymbol 49 = .ok (.aload_n 0, 1) := by decide +kernel
theorem d_Sg_addSymbol_50 : decode b_Sg_addSymbol 50 = .ok (.getfield 28, 3) := by decide +kernel
theorem d_Sg_addSymbol_53 : decode b_Sg_addSymbol 53 = .ok (.iload_n 1, 1) := by decide +kernel
theorem d_Sg_addSymbol_54 : decode b_Sg_addSymbol 54 = .ok (.iastore, 1) := by decide +kernel
theorem d_Sg_addSymbol_55 : decode b_Sg_addSymbol 55 = .ok (.aload_n 0, 1) := by decide +kernel
theorem d_Sg_addSymbol_56 : decode b_Sg_addSymbol 56 = .ok (.getfield 15, 3) := by decide +kernel
theorem d_Sg_addSymbol_59 : decode b_Sg_addSymbol 59 = .ok (.aload_n 0, 1) := by decide +kernel
theorem d_Sg_addSymbol_60 : decode b_Sg_addSymbol 60 = .ok (.getfield 28, 3) := by decide +kernel
theorem d_Sg_addSymbol_63 : decode b_Sg_addSymbol 63 = .ok (.iload_n 2, 1) := by decide +kernel
theorem d_Sg_addSymbol_64 : decode b_Sg_addSymbol 64 = .ok (.iastore, 1) := by decide +kernel
theorem d_Sg_addSymbol_65 : decode b_Sg_addSymbol 65 = .ok (.aload_n 0, 1) := by decide +kernel
theorem d_Sg_addSymbol_66 : decode b_Sg_addSymbol 66 = .ok (.getfield 18, 3) := by decide +kernel
theorem d_Sg_addSymbol_69 : decode b_Sg_addSymbol 69 = .ok (.aload_n 0, 1) := by decide +kernel
theorem d_Sg_addSymbol_70 : decode b_Sg_addSymbol 70 = .ok (.getfield 28, 3) := by decide +kernel
theorem d_Sg_addSymbol_73 : decode b_Sg_addSymbol 73 = .ok (.iload_n 3, 1) := by decide +kernel
theorem d_Sg_addSymbol_74 : decode b_Sg_addSymbol 74 = .ok (.iastore, 1) := by decide +kernel
theorem d_Sg_addSymbol_75 : decode b_Sg_addSymbol 75 = .ok (.aload_n 0, 1) := by decide +kernel
theorem d_Sg_addSymbol_76 : decode b_Sg_addSymbol 76 = .ok (.dup, 1) := by decide +kernel
theorem d_Sg_addSymbol_77 : decode b_Sg_addSymbol 77 = .ok (.getfield 28, 3) := by decide +kernel
theorem d_Sg_addSymbol_80 : decode b_Sg_addSymbol 80 = .ok (.iconst 1, 1) := by decide +kernel
theorem d_Sg_addSymbol_81 : decode b_Sg_addSymbol 81 = .ok (.iadd, 1) := by decide +kernel
theorem d_Sg_addSymbol_82 : decode b_Sg_addSymbol 82 = .ok (.putfield 28, 3) := by decide +kernel
theorem d_Sg_addSymbol_85 : decode b_Sg_addSymbol 85 = .ok (.aload_n 0, 1) := by decide +kernel
theorem d_Sg_addSymbol_86 : decode b_Sg_addSymbol 86 = .ok (.getfield 28, 3) := by decide +kernel
theorem d_Sg_addSymbol_89 : decode b_Sg_addSymbol 89 = .ok (.iconst 1, 1) := by decide +kernel
theorem d_Sg_addSymbol_90 : decode b_Sg_addSymbol 90 = .ok (.isub, 1) := by decide +kernel
theorem d_Sg_addSymbol_91 : decode b_Sg_addSymbol 91 = .ok (.ireturn, 1) := by decide +kernel
def f_Sg_addSymbol_43 (σ : St) : Int32 × St := ((-1), σ)
def k_Sg_addSymbol_43 (σ : St) : Prop := True
def f_Sg_addSymbol_85 (σ : St) : Int32 × St := ((σ.1 1 5) - 1, σ)
def k_Sg_addSymbol_85 (σ : St) : Prop := True
def f_Sg_addSymbol_75 (σ : St) : Int32 × St := f_Sg_addSymbol_85 (sF σ 1 5 ((σ.1 1 5) + 1))
def k_Sg_addSymbol_75 (σ : St) : Prop := k_Sg_addSymbol_85 (sF σ 1 5 ((σ.1 1 5) + 1))
def f_Sg_addSymbol_65 (x3 : Int32) (σ : St) : Int32 × St := f_Sg_addSymbol_75 (sA σ 4 (σ.1 1 5) x3)
def k_Sg_addSymbol_65 (x3 : Int32) (σ : St) : Prop := vp_in (σ.1 1 5) 12 ∧ (k_Sg_addSymbol_75 (sA σ 4 (σ.1 1 5) x3))
def f_Sg_addSymbol_55 (x2 : Int32) (x3 : Int32) (σ : St) : Int32 × St := f_Sg_addSymbol_65 x3 (sA σ 3 (σ.1 1 5) x2)
def k_Sg_addSymbol_55 (x2 : Int32) (x3 : Int32) (σ : St) : Prop := vp_in (σ.1 1 5) 12 ∧ (k_Sg_addSymbol_65 x3 (sA σ 3 (σ.1 1 5) x2))
def f_Sg_addSymbol_45 (x1 : Int32) (x2 : Int32) (x3 : Int32) (σ : St) : Int32 × St := f_Sg_addSymbol_55 x2 x3 (sA σ 2 (σ.1 1 5) x1)
def k_Sg_addSymbol_45 (x1 : Int32) (x2 : Int32) (x3 : Int32) (σ : St) : Prop := vp_in (σ.1 1 5) 12 ∧ (k_Sg_addSymbol_55 x2 x3 (sA σ 2 (σ.1 1 5) x1))
def f_Sg_addSymbol (a1 : Int32) (a2 : Int32) (a3 : Int32) (σ : St) : Int32 × St := if 12 ≤ (σ.1 1 5) then (f_Sg_addSymbol_43 σ) else (if (f_Sg_isSort a1 σ) = 0 then (f_Sg_addSymbol_43 σ) else (if (f_Sg_isSortOrNone a2 σ) = 0 then (f_Sg_addSymbol_43 σ) else (if (f_Sg_isSortOrNone a3 σ) = 0 then (f_Sg_addSymbol_43 σ) else (if a2 = (-1) then (if a3 = (-1) then (f_Sg_addSymbol_45 a1 a2 a3 σ) else (f_Sg_addSymbol_43 σ)) else (f_Sg_addSymbol_45 a1 a2 a3 σ)))))
def k_Sg_addSymbol (a1 : Int32) (a2 : Int32) (a3 : Int32) (σ : St) : Prop := (12 ≤ (σ.1 1 5) → (k_Sg_addSymbol_43 σ)) ∧ (¬ 12 ≤ (σ.1 1 5) → ((k_Sg_isSort a1 σ) ∧ (((f_Sg_isSort a1 σ) = 0 → (k_Sg_addSymbol_43 σ)) ∧ (¬ (f_Sg_isSort a1 σ) = 0 → ((k_Sg_isSortOrNone a2 σ) ∧ (((f_Sg_isSortOrNone a2 σ) = 0 → (k_Sg_addSymbol_43 σ)) ∧ (¬ (f_Sg_isSortOrNone a2 σ) = 0 → ((k_Sg_isSortOrNone a3 σ) ∧ (((f_Sg_isSortOrNone a3 σ) = 0 → (k_Sg_addSymbol_43 σ)) ∧ (¬ (f_Sg_isSortOrNone a3 σ) = 0 → ((a2 = (-1) → ((a3 = (-1) → (k_Sg_addSymbol_45 a1 a2 a3 σ)) ∧ (¬ a3 = (-1) → (k_Sg_addSymbol_43 σ)))) ∧ (¬ a2 = (-1) → (k_Sg_addSymbol_45 a1 a2 a3 σ)))))))))))))
abbrev w_Sg_addSymbol : List Cond := Cond.code y_Sg_addSymbol b_Sg_addSymbol 4 (some .int) :: gw
abbrev rm_Sg_addSymbol : Room := { frames := 2, cells := 0, slots := 0, locals := 42 }
set_option maxHeartbeats 4000000 in
set_option maxRecDepth 100000 in
theorem c_Sg_addSymbol (l : Launch) (D : va_G) (ty : Nat → ClassId) (h : Nat → Nat) (px : va_W) (σ : St) (sz : Nat) (a1 : Int32) (a2 : Int32) (a3 : Int32) (hk : k_Sg_addSymbol a1 a2 a3 σ) : Met l y_Sg_addSymbol w_Sg_addSymbol rm_Sg_addSymbol (va_Pc [.ref (h 1), .int a1, .int a2, .int a3] (fun U => U.heap.size = sz ∧ va_P D classes (Wc ty h σ px) U.heap ∧ va_K D classes (Ta ty) U ∧ va_D (fun _ => True) (Wc ty h σ px))) (va_Qi (fun r (u : St) => (r, u) = f_Sg_addSymbol a1 a2 a3 σ) (fun u t => va_P D classes (Wc ty h u px) t.heap) (va_A (Wc ty h σ px) sz)) 0 0 (va_A (Wc ty h σ px) sz) := by
  refine Met.ofW (cc := b_Sg_addSymbol) (maxL := 4) (ret := (some .int)) (by decide) rfl ?_
  intro p e s m args below meth c s₁ B hml hv
  obtain ⟨ha, hsz, hP, hK, hD0⟩ := hv
  have hx := B.exec
  have hb := B.bytes
  have hr := B.returns
  have hg : ∀ w ∈ gw, w.before args s = true := fun w h9 => atoms_spec (ws := w_Sg_addSymbol) B.pre w (List.mem_cons_of_mem _ h9)
  have hown : s.vm.findClass "ClauseLedger$Signature" = some m.cls := findClass_of_methodNamed B.named
  have hlocks := B.notSynchronized
  subst hsz
  have hD := hD0.self (sz := s.heap.size)
  generalize hAe : va_A (Wc ty h σ px) s.heap.size = A at hD ⊢
  have hA : ∀ q : Nat, s.heap.size ≤ q → A q := fun q h9 => by rw [← hAe]; exact Or.inr h9
  have hS : va_S A s.heap s.heap [] := va_S.rf
  have he : entryFrame m args 4 = entryFrame m ([.ref (h 1), .int a1, .int a2, .int a3] : List Value).toArray 4 := by rw [ha]
  rw [he, lg_entry_eq]
  have hl := lv_entry ([.ref (h 1), .int a1, .int a2, .int a3]) (n := 4) (Nat.le_of_ble_eq_true rfl)
  generalize (lg_sl ([.ref (h 1), .int a1, .int a2, .int a3]) ++ List.replicate (4 - (lg_sl ([.ref (h 1), .int a1, .int a2, .int a3])).length) Slot.unset).toArray = ls at hl ⊢
  have hl : lv_has ls 4 [(0, .ref (h 1)), (1, .int a1), (2, .int a2), (3, .int a3)] := hl
  generalize hv : f_Sg_addSymbol a1 a2 a3 σ = v
  replace hv := hv.symm
  have B43 : ∀ (H : Heap) (locs : List Loc) (ls : Array Slot) (σ : St), v = f_Sg_addSymbol_43 σ → k_Sg_addSymbol_43 σ → lv_has ls 4 [] → va_P D classes (Wc ty h σ px) H → va_D A (Wc ty h σ px) → va_S A s.heap H locs → W p l e (headSpec w_Sg_addSymbol rm_Sg_addSymbol).room s m args below meth c H locs 0 0 (MQ below (va_Qi (fun r (u : St) => (r, u) = v) (fun u t => va_P D classes (Wc ty h u px) t.heap) A) args s 0 0 A) (F0 m 43 ls []) := by
    intro H locs ls σ hv hk hl hP hD hS
    unfold f_Sg_addSymbol_43 at hv
    unfold k_Sg_addSymbol_43 at hk
    refine lv_iconst (v := -1) hx hb d_Sg_addSymbol_43 (by decide) ?_
    exact W.iret hx hb hr (fun t ht hW => ⟨⟨_, _, rfl, hv.symm, by dsimp only; rw [ht]; exact hP⟩, hS.F ht⟩) hS.2.2 d_Sg_addSymbol_44
  have B85 : ∀ (H : Heap) (locs : List Loc) (ls : Array Slot) (σ : St), v = f_Sg_addSymbol_85 σ → k_Sg_addSymbol_85 σ → lv_has ls 4 [(0, .ref (h 1))] → va_P D classes (Wc ty h σ px) H → va_D A (Wc ty h σ px) → va_S A s.heap H locs → W p l e (headSpec w_Sg_addSymbol rm_Sg_addSymbol).room s m args below meth c H locs 0 0 (MQ below (va_Qi (fun r (u : St) => (r, u) = v) (fun u t => va_P D classes (Wc ty h u px) t.heap) A) args s 0 0 A) (F0 m 85 ls []) := by
    intro H locs ls σ hv hk hl hP hD hS
    unfold f_Sg_addSymbol_85 at hv
    unfold k_Sg_addSymbol_85 at hk
    refine lv_aload_n hx hb d_Sg_addSymbol_85 rfl (lv_at hl 0 rfl) ?_
    refine va_get (v := .int (σ.1 1 5)) (C := R_Sg) (T := T_Sg) (N := 6) hx hb hg in_Sg hown hK hP 1 rfl rfl 5 (by decide) (hg _ m_48) (fun _ h9 => h9) rfl d_Sg_addSymbol_86 ?_
    refine lv_iconst (v := 1) hx hb d_Sg_addSymbol_89 (by decide) ?_
    refine lv_isub hx hb d_Sg_addSymbol_90 ?_
    exact W.iret hx hb hr (fun t ht hW => ⟨⟨_, _, rfl, hv.symm, by dsimp only; rw [ht]; exact hP⟩, hS.F ht⟩) hS.2.2 d_Sg_addSymbol_91
  have B75 : ∀ (H : Heap) (locs : List Loc) (ls : Array Slot) (σ : St), v = f_Sg_addSymbol_75 σ → k_Sg_addSymbol_75 σ → lv_has ls 4 [(0, .ref (h 1))] → va_P D classes (Wc ty h σ px) H → va_D A (Wc ty h σ px) → va_S A s.heap H locs → W p l e (headSpec w_Sg_addSymbol rm_Sg_addSymbol).room s m args below meth c H locs 0 0 (MQ below (va_Qi (fun r (u : St) => (r, u) = v) (fun u t => va_P D classes (Wc ty h u px) t.heap) A) args s 0 0 A) (F0 m 75 ls []) := by
    intro H locs ls σ hv hk hl hP hD hS
    unfold f_Sg_addSymbol_75 at hv
    unfold k_Sg_addSymbol_75 at hk
    refine lv_aload_n hx hb d_Sg_addSymbol_75 rfl (lv_at hl 0 rfl) ?_
    refine lv_dup hx hb d_Sg_addSymbol_76 rfl ?_
    refine va_get (v := .int (σ.1 1 5)) (C := R_Sg) (T := T_Sg) (N := 6) hx hb hg in_Sg hown hK hP 1 rfl rfl 5 (by decide) (hg _ m_48) (fun _ h9 => h9) rfl d_Sg_addSymbol_77 ?_
    refine lv_iconst (v := 1) hx hb d_Sg_addSymbol_80 (by decide) ?_
    refine lv_iadd hx hb d_Sg_addSymbol_81 ?_
    refine va_put (v := .int ((σ.1 1 5) + 1)) (ty := .int) (C := R_Sg) (T := T_Sg) (N := 6) hx hb hg in_Sg ty_Sg ok_Sg nm_Sg hown hK hP hD hS 1 rfl rfl 5 (by decide) (hg _ m_48) (fun _ h9 => h9) rfl (by decide +kernel) rfl rfl (Nat.le_of_ble_eq_true rfl) d_Sg_addSymbol_82 (fun H locs hP hD hS => ?_)
    have hP : va_P D classes (Wc ty h (sF σ 1 5 ((σ.1 1 5) + 1)) px) H := hP
    have hD : va_D A (Wc ty h (sF σ 1 5 ((σ.1 1 5) + 1)) px) := hD
    exact B85 _ _ _  (sF σ 1 5 ((σ.1 1 5) + 1)) hv hk (lv_sub hl [0] rfl) hP hD hS
  have B65 : ∀ (H : Heap) (locs : List Loc) (ls : Array Slot) (x3 : Int32) (σ : St), v = f_Sg_addSymbol_65 x3 σ → k_Sg_addSymbol_65 x3 σ → lv_has ls 4 [(0, .ref (h 1)), (3, .int x3)] → va_P D classes (Wc ty h σ px) H → va_D A (Wc ty h σ px) → va_S A s.heap H locs → W p l e (headSpec w_Sg_addSymbol rm_Sg_addSymbol).room s m args below meth c H locs 0 0 (MQ below (va_Qi (fun r (u : St) => (r, u) = v) (fun u t => va_P D classes (Wc ty h u px) t.heap) A) args s 0 0 A) (F0 m 65 ls []) := by
    intro H locs ls x3 σ hv hk hl hP hD hS
    unfold f_Sg_addSymbol_65 at hv
    unfold k_Sg_addSymbol_65 at hk
    refine lv_aload_n hx hb d_Sg_addSymbol_65 rfl (lv_at hl 0 rfl) ?_
    refine va_get (v := .ref (h 4)) (C := R_Sg) (T := T_Sg) (N := 6) hx hb hg in_Sg hown hK hP 1 rfl rfl 2 (by decide) (hg _ m_45) (fun _ h9 => h9) rfl d_Sg_addSymbol_66 ?_
    refine lv_aload_n hx hb d_Sg_addSymbol_69 rfl (lv_at hl 0 rfl) ?_
    refine va_get (v := .int (σ.1 1 5)) (C := R_Sg) (T := T_Sg) (N := 6) hx hb hg in_Sg hown hK hP 1 rfl rfl 5 (by decide) (hg _ m_48) (fun _ h9 => h9) rfl d_Sg_addSymbol_70 ?_
    refine lv_iload_n hx hb d_Sg_addSymbol_73 rfl (lv_at hl 1 rfl) ?_
    obtain ⟨hk0, hk⟩ := hk
    refine va_iast hx hb hK hP hD hS 4 0 rfl rfl hk0 d_Sg_addSymbol_74 (fun H locs hP hD hS => ?_)
    have hP : va_P D classes (Wc ty h (sA σ 4 (σ.1 1 5) x3) px) H := hP
    have hD : va_D A (Wc ty h (sA σ 4 (σ.1 1 5) x3) px) := hD
    exact B75 _ _ _  (sA σ 4 (σ.1 1 5) x3) hv hk (lv_sub hl [0] rfl) hP hD hS
  have B55 : ∀ (H : Heap) (locs : List Loc) (ls : Array Slot) (x2 : Int32) (x3 : Int32) (σ : St), v = f_Sg_addSymbol_55 x2 x3 σ → k_Sg_addSymbol_55 x2 x3 σ → lv_has ls 4 [(0, .ref (h 1)), (2, .int x2), (3, .int x3)] → va_P D classes (Wc ty h σ px) H → va_D A (Wc ty h σ px) → va_S A s.heap H locs → W p l e (headSpec w_Sg_addSymbol rm_Sg_addSymbol).room s m args below meth c H locs 0 0 (MQ below (va_Qi (fun r (u : St) => (r, u) = v) (fun u t => va_P D classes (Wc ty h u px) t.heap) A) args s 0 0 A) (F0 m 55 ls []) := by
    intro H locs ls x2 x3 σ hv hk hl hP hD hS
    unfold f_Sg_addSymbol_55 at hv
    unfold k_Sg_addSymbol_55 at hk
    refine lv_aload_n hx hb d_Sg_addSymbol_55 rfl (lv_at hl 0 rfl) ?_
    refine va_get (v := .ref (h 3)) (C := R_Sg) (T := T_Sg) (N := 6) hx hb hg in_Sg hown hK hP 1 rfl rfl 1 (by decide) (hg _ m_44) (fun _ h9 => h9) rfl d_Sg_addSymbol_56 ?_
    refine lv_aload_n hx hb d_Sg_addSymbol_59 rfl (lv_at hl 0 rfl) ?_
    refine va_get (v := .int (σ.1 1 5)) (C := R_Sg) (T := T_Sg) (N := 6) hx hb hg in_Sg hown hK hP 1 rfl rfl 5 (by decide) (hg _ m_48) (fun _ h9 => h9) rfl d_Sg_addSymbol_60 ?_
    refine lv_iload_n hx hb d_Sg_addSymbol_63 rfl (lv_at hl 1 rfl) ?_
    obtain ⟨hk0, hk⟩ := hk
    refine va_iast hx hb hK hP hD hS 3 0 rfl rfl hk0 d_Sg_addSymbol_64 (fun H locs hP hD hS => ?_)
    have hP : va_P D classes (Wc ty h (sA σ 3 (σ.1 1 5) x2) px) H := hP
    have hD : va_D A (Wc ty h (sA σ 3 (σ.1 1 5) x2) px) := hD
    exact B65 _ _ _ x3 (sA σ 3 (σ.1 1 5) x2) hv hk (lv_sub hl [0, 2] rfl) hP hD hS
  have B45 : ∀ (H : Heap) (locs : List Loc) (ls : Array Slot) (x1 : Int32) (x2 : Int32) (x3 : Int32) (σ : St), v = f_Sg_addSymbol_45 x1 x2 x3 σ → k_Sg_addSymbol_45 x1 x2 x3 σ → lv_has ls 4 [(0, .ref (h 1)), (1, .int x1), (2, .int x2), (3, .int x3)] → va_P D classes (Wc ty h σ px) H → va_D A (Wc ty h σ px) → va_S A s.heap H locs → W p l e (headSpec w_Sg_addSymbol rm_Sg_addSymbol).room s m args below meth c H locs 0 0 (MQ below (va_Qi (fun r (u : St) => (r, u) = v) (fun u t => va_P D classes (Wc ty h u px) t.heap) A) args s 0 0 A) (F0 m 45 ls []) := by
    intro H locs ls x1 x2 x3 σ hv hk hl hP hD hS
    unfold f_Sg_addSymbol_45 at hv
    unfold k_Sg_addSymbol_45 at hk
    refine lv_aload_n hx hb d_Sg_addSymbol_45 rfl (lv_at hl 0 rfl) ?_
    refine va_get (v := .ref (h 2)) (C := R_Sg) (T := T_Sg) (N := 6) hx hb hg in_Sg hown hK hP 1 rfl rfl 0 (by decide) (hg _ m_43) (fun _ h9 => h9) rfl d_Sg_addSymbol_46 ?_
    refine lv_aload_n hx hb d_Sg_addSymbol_49 rfl (lv_at hl 0 rfl) ?_
    refine va_get (v := .int (σ.1 1 5)) (C := R_Sg) (T := T_Sg) (N := 6) hx hb hg in_Sg hown hK hP 1 rfl rfl 5 (by decide) (hg _ m_48) (fun _ h9 => h9) rfl d_Sg_addSymbol_50 ?_
    refine lv_iload_n hx hb d_Sg_addSymbol_53 rfl (lv_at hl 1 rfl) ?_
    obtain ⟨hk0, hk⟩ := hk
    refine va_iast hx hb hK hP hD hS 2 0 rfl rfl hk0 d_Sg_addSymbol_54 (fun H locs hP hD hS => ?_)
    have hP : va_P D classes (Wc ty h (sA σ 2 (σ.1 1 5) x1) px) H := hP
    have hD : va_D A (Wc ty h (sA σ 2 (σ.1 1 5) x1) px) := hD
    exact B55 _ _ _ x2 x3 (sA σ 2 (σ.1 1 5) x1) hv hk (lv_sub hl [0, 2, 3] rfl) hP hD hS
  unfold f_Sg_addSymbol at hv
  unfold k_Sg_addSymbol at hk
  refine lv_aload_n hx hb d_Sg_addSymbol_0 rfl (lv_at hl 0 rfl) ?_
  refine va_get (v := .int (σ.1 1 5)) (C := R_Sg) (T := T_Sg) (N := 6) hx hb hg in_Sg hown hK hP 1 rfl rfl 5 (by decide) (hg _ m_48) (fun _ h9 => h9) rfl d_Sg_addSymbol_1 ?_
  refine lv_bipush (v := 12) hx hb d_Sg_addSymbol_4 (by decide) ?_
  refine lv_icmp_ge (tgt := 43) hx hb d_Sg_addSymbol_6 (by decide) (fun hc => ?_) (fun hc => ?_)
  · have hv := hv.trans (if_pos hc)
    have hk := hk.1 hc
    exact B43 _ _ _  σ hv hk (lv_sub hl [] rfl) hP hD hS
  · have hv := hv.trans (if_neg hc)
    have hk := hk.2 hc
    refine lv_aload_n hx hb d_Sg_addSymbol_9 rfl (lv_at hl 0 rfl) ?_
    refine lv_iload_n hx hb d_Sg_addSymbol_10 rfl (lv_at hl 1 rfl) ?_
    obtain ⟨hk0, hk⟩ := hk
    refine zz_callV (va_runV (As := [.int a1]) (rest := []) ⟨hx, hb, hml, hown, hg⟩ (c_Sg_isSort l D ty h px σ a1 hk0) ⟨callB_of 1 hg (gw_C m_337) rfl rfl rfl (hg _ m_2) (hg _ m_334) hd_Sg_isSort ⟨Nat.le_of_ble_eq_true rfl, Nat.le_of_ble_eq_true rfl⟩, hg _ m_336, hg _ ms_0⟩ (zz_preV hK hP 1 rfl rfl) rfl rfl hl.1 rfl (lv_room (Nat.le_of_ble_eq_true rfl)) d_Sg_addSymbol_11 ⟨Nat.le_refl _, Nat.le_refl _⟩) ?_
    refine lv_if_eq (tgt := 43) hx hb d_Sg_addSymbol_14 (by decide) (fun hc => ?_) (fun hc => ?_)
    · have hv := hv.trans (if_pos hc)
      have hk := hk.1 hc
      exact B43 _ _ _  σ hv hk (lv_sub hl [] rfl) hP hD hS
    · have hv := hv.trans (if_neg hc)
      have hk := hk.2 hc
      refine lv_aload_n hx hb d_Sg_addSymbol_17 rfl (lv_at hl 0 rfl) ?_
      refine lv_iload_n hx hb d_Sg_addSymbol_18 rfl (lv_at hl 2 rfl) ?_
      obtain ⟨hk0, hk⟩ := hk
      refine zz_callV (va_runV (As := [.int a2]) (rest := []) ⟨hx, hb, hml, hown, hg⟩ (c_Sg_isSortOrNone l D ty h px σ a2 hk0) ⟨callB_of 1 hg (gw_C m_341) rfl rfl rfl (hg _ m_2) (hg _ m_338) hd_Sg_isSortOrNone ⟨Nat.le_of_ble_eq_true rfl, Nat.le_of_ble_eq_true rfl⟩, hg _ m_340, hg _ ms_1⟩ (zz_preV hK hP 1 rfl rfl) rfl rfl hl.1 rfl (lv_room (Nat.le_of_ble_eq_true rfl)) d_Sg_addSymbol_19 ⟨Nat.le_refl _, Nat.le_refl _⟩) ?_
      refine lv_if_eq (tgt := 43) hx hb d_Sg_addSymbol_22 (by decide) (fun hc => ?_) (fun hc => ?_)
      · have hv := hv.trans (if_pos hc)
        have hk := hk.1 hc
        exact B43 _ _ _  σ hv hk (lv_sub hl [] rfl) hP hD hS
      · have hv := hv.trans (if_neg hc)
        have hk := hk.2 hc
        refine lv_aload_n hx hb d_Sg_addSymbol_25 rfl (lv_at hl 0 rfl) ?_
        refine lv_iload_n hx hb d_Sg_addSymbol_26 rfl (lv_at hl 3 rfl) ?_
        obtain ⟨hk0, hk⟩ := hk
        refine zz_callV (va_runV (As := [.int a3]) (rest := []) ⟨hx, hb, hml, hown, hg⟩ (c_Sg_isSortOrNone l D ty h px σ a3 hk0) ⟨callB_of 1 hg (gw_C m_341) rfl rfl rfl (hg _ m_2) (hg _ m_338) hd_Sg_isSortOrNone ⟨Nat.le_of_ble_eq_true rfl, Nat.le_of_ble_eq_true rfl⟩, hg _ m_340, hg _ ms_1⟩ (zz_preV hK hP 1 rfl rfl) rfl rfl hl.1 rfl (lv_room (Nat.le_of_ble_eq_true rfl)) d_Sg_addSymbol_27 ⟨Nat.le_refl _, Nat.le_refl _⟩) ?_
        refine lv_if_eq (tgt := 43) hx hb d_Sg_addSymbol_30 (by decide) (fun hc => ?_) (fun hc => ?_)
        · have hv := hv.trans (if_pos hc)
          have hk := hk.1 hc
          exact B43 _ _ _  σ hv hk (lv_sub hl [] rfl) hP hD hS
        · have hv := hv.trans (if_neg hc)
          have hk := hk.2 hc
          refine lv_iload_n hx hb d_Sg_addSymbol_33 rfl (lv_at hl 2 rfl) ?_
          refine lv_iconst (v := -1) hx hb d_Sg_addSymbol_34 (by decide) ?_
          refine lv_icmp_ne (tgt := 45) hx hb d_Sg_addSymbol_35 (by decide) (fun hc => ?_) (fun hc => ?_)
          · have hv := hv.trans (if_neg hc)
            have hk := hk.2 hc
            exact B45 _ _ _ a1 a2 a3 σ hv hk (lv_sub hl [0, 1, 2, 3] rfl) hP hD hS
          · have hv := hv.trans (if_pos hc)
            have hk := hk.1 hc
            refine lv_iload_n hx hb d_Sg_addSymbol_38 rfl (lv_at hl 3 rfl) ?_
            refine lv_iconst (v := -1) hx hb d_Sg_addSymbol_39 (by decide) ?_
            refine lv_icmp_eq (tgt := 45) hx hb d_Sg_addSymbol_40 (by decide) (fun hc => ?_) (fun hc => ?_)
            · have hv := hv.trans (if_pos hc)
              have hk := hk.1 hc
              exact B45 _ _ _ a1 a2 a3 σ hv hk (lv_sub hl [0, 1, 2, 3] rfl) hP hD hS
            · have hv := hv.trans (if_neg hc)
              have hk := hk.2 hc
              exact B43 _ _ _  σ hv hk (lv_sub hl [] rfl) hP hD hS

-- ClauseLedger$Signature.isVariable(I)Z
abbrev b_Sg_isVariable : ByteArray := prog_8_method_6_code
def y_Sg_isVariable : MethodName := ⟨"ClauseLedger$Signature", "isVariable", "(I)Z"⟩
theorem hd_Sg_isVariable : y_Sg_isVariable.cls ≠ "java/lang/invoke/MethodHandle" ∧ y_Sg_isVariable.cls ≠ "java/lang/invoke/VarHandle" ∧ (parseMethodDescriptor y_Sg_isVariable.desc).map (fun d => d.parameters.length) = some 1 := by decide +kernel
theorem d_Sg_isVariable_0 : decode b_Sg_isVariable 0 = .ok (.iload_n 1, 1) := by decide +kernel
theorem d_Sg_isVariable_1 : decode b_Sg_isVariable 1 = .ok (.ifCond .lt 16, 3) := by decide +kernel
theorem d_Sg_isVariable_4 : decode b_Sg_isVariable 4 = .ok (.iload_n 1, 1) := by decide +kernel
theorem d_Sg_isVariable_5 : decode b_Sg_isVariable 5 = .ok (.aload_n 0, 1) := by decide +kernel
theorem d_Sg_isVariable_6 : decode b_Sg_isVariable 6 = .ok (.getfield 21, 3) := by decide +kernel
theorem d_Sg_isVariable_9 : decode b_Sg_isVariable 9 = .ok (.arraylength, 1) := by decide +kernel
theorem d_Sg_isVariable_10 : decode b_Sg_isVariable 10 = .ok (.if_icmp .ge 7, 3) := by decide +kernel
theorem d_Sg_isVariable_13 : decode b_Sg_isVariable 13 = .ok (.iconst 1, 1) := by decide +kernel
theorem d_Sg_isVariable_14 : decode b_Sg_isVariable 14 = .ok (.goto 4, 3) := by decide +kernel
theorem d_Sg_isVariable_17 : decode b_Sg_isVariable 17 = .ok (.iconst 0, 1) := by decide +kernel
theorem d_Sg_isVariable_18 : decode b_Sg_isVariable 18 = .ok (.ireturn, 1) := by decide +kernel
def f_Sg_isVariable_18 (s0 : Int32) (σ : St) : Int32 := s0
def k_Sg_isVariable_18 (s0 : Int32) (σ : St) : Prop := (narrow .boolean (.int s0) = .int s0) ∧ True
def f_Sg_isVariable_17 (σ : St) : Int32 := f_Sg_isVariable_18 0 σ
def k_Sg_isVariable_17 (σ : St) : Prop := k_Sg_isVariable_18 0 σ
def f_Sg_isVariable (a1 : Int32) (σ : St) : Int32 := if a1 < 0 then (f_Sg_isVariable_17 σ) else (if 3 ≤ a1 then (f_Sg_isVariable_17 σ) else (f_Sg_isVariable_18 1 σ))
def k_Sg_isVariable (a1 : Int32) (σ : St) : Prop := (a1 < 0 → (k_Sg_isVariable_17 σ)) ∧ (¬ a1 < 0 → ((3 ≤ a1 → (k_Sg_isVariable_17 σ)) ∧ (¬ 3 ≤ a1 → (k_Sg_isVariable_18 1 σ))))
abbrev w_Sg_isVariable : List Cond := Cond.code y_Sg_isVariable b_Sg_isVariable 2 (some .boolean) :: gw
abbrev rm_Sg_isVariable : Room := { frames := 0, cells := 0, slots := 0, locals := 0 }
set_option maxHeartbeats 4000000 in
set_option maxRecDepth 100000 in
theorem c_Sg_isVariable (l : Launch) (D : va_G) (ty : Nat → ClassId) (h : Nat → Nat) (px : va_W) (σ : St) (a1 : Int32) (hk : k_Sg_isVariable a1 σ) : Met l y_Sg_isVariable w_Sg_isVariable rm_Sg_isVariable (va_Pc [.ref (h 1), .int a1] (fun U => va_P D classes (Wc ty h σ px) U.heap ∧ va_K D classes (Ta ty) U)) (k2_QcV (.int (f_Sg_isVariable a1 σ))) 0 0 (fun _ => False) := by
  refine Met.ofW (cc := b_Sg_isVariable) (maxL := 2) (ret := (some .boolean)) (by decide) rfl ?_
  intro p e s m args below meth c s₁ B hml hv
  obtain ⟨ha, hP, hK⟩ := hv
  have hx := B.exec
  have hb := B.bytes
  have hr := B.returns
  have hg : ∀ w ∈ gw, w.before args s = true := fun w h9 => atoms_spec (ws := w_Sg_isVariable) B.pre w (List.mem_cons_of_mem _ h9)
  have hown : s.vm.findClass "ClauseLedger$Signature" = some m.cls := findClass_of_methodNamed B.named
  have hlocks := B.notSynchronized
  have he : entryFrame m args 2 = entryFrame m ([.ref (h 1), .int a1] : List Value).toArray 2 := by rw [ha]
  rw [he, lg_entry_eq]
  have hl := lv_entry ([.ref (h 1), .int a1]) (n := 2) (Nat.le_of_ble_eq_true rfl)
  generalize (lg_sl ([.ref (h 1), .int a1]) ++ List.replicate (2 - (lg_sl ([.ref (h 1), .int a1])).length) Slot.unset).toArray = ls at hl ⊢
  have hl : lv_has ls 2 [(0, .ref (h 1)), (1, .int a1)] := hl
  generalize hv : f_Sg_isVariable a1 σ = v
  replace hv := hv.symm
  have B18 : ∀ (ls : Array Slot) (s0 : Int32), v = f_Sg_isVariable_18 s0 σ → k_Sg_isVariable_18 s0 σ → lv_has ls 2 [] → W p l e (headSpec w_Sg_isVariable rm_Sg_isVariable).room s m args below meth c s.heap [] 0 0 (MQ below (k2_QcV (.int v)) args s 0 0 (fun _ => False)) (F0 m 18 ls [.int s0]) := by
    intro ls s0 hv hk hl
    unfold f_Sg_isVariable_18 at hv
    unfold k_Sg_isVariable_18 at hk
    obtain ⟨hk0, hk⟩ := hk
    exact W.zret hx hb hr hk0 (fun t ht hW => ⟨by rw [hv], ht⟩) (fun q h => nomatch h) d_Sg_isVariable_18
  have B17 : ∀ (ls : Array Slot), v = f_Sg_isVariable_17 σ → k_Sg_isVariable_17 σ → lv_has ls 2 [] → W p l e (headSpec w_Sg_isVariable rm_Sg_isVariable).room s m args below meth c s.heap [] 0 0 (MQ below (k2_QcV (.int v)) args s 0 0 (fun _ => False)) (F0 m 17 ls []) := by
    intro ls hv hk hl
    unfold f_Sg_isVariable_17 at hv
    unfold k_Sg_isVariable_17 at hk
    refine lv_iconst (v := 0) hx hb d_Sg_isVariable_17 (by decide) ?_
    exact B18 _ 0 hv hk (lv_sub hl [] rfl)
  unfold f_Sg_isVariable at hv
  unfold k_Sg_isVariable at hk
  refine lv_iload_n hx hb d_Sg_isVariable_0 rfl (lv_at hl 1 rfl) ?_
  refine lv_if_lt (tgt := 17) hx hb d_Sg_isVariable_1 (by decide) (fun hc => ?_) (fun hc => ?_)
  · have hv := hv.trans (if_pos hc)
    have hk := hk.1 hc
    exact B17 _  hv hk (lv_sub hl [] rfl)
  · have hv := hv.trans (if_neg hc)
    have hk := hk.2 hc
    refine lv_iload_n hx hb d_Sg_isVariable_4 rfl (lv_at hl 1 rfl) ?_
    refine lv_aload_n hx hb d_Sg_isVariable_5 rfl (lv_at hl 0 rfl) ?_
    refine va_get (v := .ref (h 5)) (C := R_Sg) (T := T_Sg) (N := 6) hx hb hg in_Sg hown hK hP 1 rfl rfl 3 (by decide) (hg _ m_46) (fun _ h9 => h9) rfl d_Sg_isVariable_6 ?_
    refine va_alen (v := 3) hx hb hK hP 5 0 rfl rfl rfl d_Sg_isVariable_9 ?_
    refine lv_icmp_ge (tgt := 17) hx hb d_Sg_isVariable_10 (by decide) (fun hc => ?_) (fun hc => ?_)
    · have hv := hv.trans (if_pos hc)
      have hk := hk.1 hc
      exact B17 _  hv hk (lv_sub hl [] rfl)
    · have hv := hv.trans (if_neg hc)
      have hk := hk.2 hc
      refine lv_iconst (v := 1) hx hb d_Sg_isVariable_13 (by decide) ?_
      refine lv_goto (tgt := 18) hx hb d_Sg_isVariable_14 (by decide) ?_
      exact B18 _ 1 hv hk (lv_sub hl [] rfl)

-- ClauseLedger$Signature.setVariable(II)Z
abbrev b_Sg_setVariable : ByteArray := prog_8_method_4_code
def y_Sg_setVariable : MethodName := ⟨"ClauseLedger$Signature", "setVariable", "(II)Z"⟩
theorem hd_Sg_setVariable : y_Sg_setVariable.cls ≠ "java/lang/invoke/MethodHandle" ∧ y_Sg_setVariable.cls ≠ "java/lang/invoke/VarHandle" ∧ (parseMethodDescriptor y_Sg_setVariable.desc).map (fun d => d.parameters.length) = some 2 := by decide +kernel
theorem d_Sg_setVariable_0 : decode b_Sg_setVariable 0 = .ok (.aload_n 0, 1) := by decide +kernel
theorem d_Sg_setVariable_1 : decode b_Sg_setVariable 1 = .ok (.iload_n 1, 1) := by decide +kernel
theorem d_Sg_setVariable_2 : decode b_Sg_setVariable 2 = .ok (.invokevirtual 38, 3) := by decide +kernel
theorem d_Sg_setVariable_5 : decode b_Sg_setVariable 5 = .ok (.ifCond .eq 11, 3) := by decide +kernel
theorem d_Sg_setVariable_8 : decode b_Sg_setVariable 8 = .ok (.aload_n 0, 1) := by decide +kernel
theorem d_Sg_setVariable_9 : decode b_Sg_setVariable 9 = .ok (.iload_n 2, 1) := by decide +kernel
theorem d_Sg_setVariable_10 : decode b_Sg_setVariable 10 = .ok (.invokevirtual 31, 3) := by decide +kernel
theorem d_Sg_setVariable_13 : decode b_Sg_setVariable 13 = .ok (.ifCond .ne 5, 3) := by decide +kernel
theorem d_Sg_setVariable_16 : decode b_Sg_setVariable 16 = .ok (.iconst 0, 1) := by decide +kernel
theorem d_Sg_setVariable_17 : decode b_Sg_setVariable 17 = .ok (.ireturn, 1) := by decide +kernel
theorem d_Sg_setVariable_18 : decode b_Sg_setVariable 18 = .ok (.aload_n 0, 1) := by decide +kernel
theorem d_Sg_setVariable_19 : decode b_Sg_setVariable 19 = .ok (.getfield 21, 3) := by decide +kernel
theorem d_Sg_setVariable_22 : decode b_Sg_setVariable 22 = .ok (.iload_n 1, 1) := by decide +kernel
theorem d_Sg_setVariable_23 : decode b_Sg_setVariable 23 = .ok (.iload_n 2, 1) := by decide +kernel
theorem d_Sg_setVariable_24 : decode b_Sg_setVariable 24 = .ok (.iastore, 1) := by decide +kernel
theorem d_Sg_setVariable_25 : decode b_Sg_setVariable 25 = .ok (.iconst 1, 1) := by decide +kernel
theorem d_Sg_setVariable_26 : decode b_Sg_setVariable 26 = .ok (.ireturn, 1) := by decide +kernel
def f_Sg_setVariable_16 (σ : St) : Int32 × St := (0, σ)
def k_Sg_setVariable_16 (σ : St) : Prop := True
def f_Sg_setVariable_25 (σ : St) : Int32 × St := (1, σ)
def k_Sg_setVariable_25 (σ : St) : Prop := True
def f_Sg_setVariable (a1 : Int32) (a2 : Int32) (σ : St) : Int32 × St := if (f_Sg_isVariable a1 σ) = 0 then (f_Sg_setVariable_16 σ) else (if (f_Sg_isSort a2 σ) = 0 then (f_Sg_setVariable_16 σ) else (f_Sg_setVariable_25 (sA σ 5 a1 a2)))
def k_Sg_setVariable (a1 : Int32) (a2 : Int32) (σ : St) : Prop := (k_Sg_isVariable a1 σ) ∧ (((f_Sg_isVariable a1 σ) = 0 → (k_Sg_setVariable_16 σ)) ∧ (¬ (f_Sg_isVariable a1 σ) = 0 → ((k_Sg_isSort a2 σ) ∧ (((f_Sg_isSort a2 σ) = 0 → (k_Sg_setVariable_16 σ)) ∧ (¬ (f_Sg_isSort a2 σ) = 0 → (vp_in a1 3 ∧ (k_Sg_setVariable_25 (sA σ 5 a1 a2))))))))
abbrev w_Sg_setVariable : List Cond := Cond.code y_Sg_setVariable b_Sg_setVariable 3 (some .boolean) :: gw
abbrev rm_Sg_setVariable : Room := { frames := 1, cells := 0, slots := 0, locals := 21 }
set_option maxHeartbeats 4000000 in
set_option maxRecDepth 100000 in
theorem c_Sg_setVariable (l : Launch) (D : va_G) (ty : Nat → ClassId) (h : Nat → Nat) (px : va_W) (σ : St) (sz : Nat) (a1 : Int32) (a2 : Int32) (hk : k_Sg_setVariable a1 a2 σ) : Met l y_Sg_setVariable w_Sg_setVariable rm_Sg_setVariable (va_Pc [.ref (h 1), .int a1, .int a2] (fun U => U.heap.size = sz ∧ va_P D classes (Wc ty h σ px) U.heap ∧ va_K D classes (Ta ty) U ∧ va_D (fun _ => True) (Wc ty h σ px))) (va_Qi (fun r (u : St) => (r, u) = f_Sg_setVariable a1 a2 σ) (fun u t => va_P D classes (Wc ty h u px) t.heap) (va_A (Wc ty h σ px) sz)) 0 0 (va_A (Wc ty h σ px) sz) := by
  refine Met.ofW (cc := b_Sg_setVariable) (maxL := 3) (ret := (some .boolean)) (by decide) rfl ?_
  intro p e s m args below meth c s₁ B hml hv
  obtain ⟨ha, hsz, hP, hK, hD0⟩ := hv
  have hx := B.exec
  have hb := B.bytes
  have hr := B.returns
  have hg : ∀ w ∈ gw, w.before args s = true := fun w h9 => atoms_spec (ws := w_Sg_setVariable) B.pre w (List.mem_cons_of_mem _ h9)
  have hown : s.vm.findClass "ClauseLedger$Signature" = some m.cls := findClass_of_methodNamed B.named
  have hlocks := B.notSynchronized
  subst hsz
  have hD := hD0.self (sz := s.heap.size)
  generalize hAe : va_A (Wc ty h σ px) s.heap.size = A at hD ⊢
  have hA : ∀ q : Nat, s.heap.size ≤ q → A q := fun q h9 => by rw [← hAe]; exact Or.inr h9
  have hS : va_S A s.heap s.heap [] := va_S.rf
  have he : entryFrame m args 3 = entryFrame m ([.ref (h 1), .int a1, .int a2] : List Value).toArray 3 := by rw [ha]
  rw [he, lg_entry_eq]
  have hl := lv_entry ([.ref (h 1), .int a1, .int a2]) (n := 3) (Nat.le_of_ble_eq_true rfl)
  generalize (lg_sl ([.ref (h 1), .int a1, .int a2]) ++ List.replicate (3 - (lg_sl ([.ref (h 1), .int a1, .int a2])).length) Slot.unset).toArray = ls at hl ⊢
  have hl : lv_has ls 3 [(0, .ref (h 1)), (1, .int a1), (2, .int a2)] := hl
  generalize hv : f_Sg_setVariable a1 a2 σ = v
  replace hv := hv.symm
  have B16 : ∀ (H : Heap) (locs : List Loc) (ls : Array Slot) (σ : St), v = f_Sg_setVariable_16 σ → k_Sg_setVariable_16 σ → lv_has ls 3 [] → va_P D classes (Wc ty h σ px) H → va_D A (Wc ty h σ px) → va_S A s.heap H locs → W p l e (headSpec w_Sg_setVariable rm_Sg_setVariable).room s m args below meth c H locs 0 0 (MQ below (va_Qi (fun r (u : St) => (r, u) = v) (fun u t => va_P D classes (Wc ty h u px) t.heap) A) args s 0 0 A) (F0 m 16 ls []) := by
    intro H locs ls σ hv hk hl hP hD hS
    unfold f_Sg_setVariable_16 at hv
    unfold k_Sg_setVariable_16 at hk
    refine lv_iconst (v := 0) hx hb d_Sg_setVariable_16 (by decide) ?_
    exact W.zret hx hb hr rfl (fun t ht hW => ⟨⟨_, _, rfl, hv.symm, by dsimp only; rw [ht]; exact hP⟩, hS.F ht⟩) hS.2.2 d_Sg_setVariable_17
  have B25 : ∀ (H : Heap) (locs : List Loc) (ls : Array Slot) (σ : St), v = f_Sg_setVariable_25 σ → k_Sg_setVariable_25 σ → lv_has ls 3 [] → va_P D classes (Wc ty h σ px) H → va_D A (Wc ty h σ px) → va_S A s.heap H locs → W p l e (headSpec w_Sg_setVariable rm_Sg_setVariable).room s m args below meth c H locs 0 0 (MQ below (va_Qi (fun r (u : St) => (r, u) = v) (fun u t => va_P D classes (Wc ty h u px) t.heap) A) args s 0 0 A) (F0 m 25 ls []) := by
    intro H locs ls σ hv hk hl hP hD hS
    unfold f_Sg_setVariable_25 at hv
    unfold k_Sg_setVariable_25 at hk
    refine lv_iconst (v := 1) hx hb d_Sg_setVariable_25 (by decide) ?_
    exact W.zret hx hb hr rfl (fun t ht hW => ⟨⟨_, _, rfl, hv.symm, by dsimp only; rw [ht]; exact hP⟩, hS.F ht⟩) hS.2.2 d_Sg_setVariable_26
  unfold f_Sg_setVariable at hv
  unfold k_Sg_setVariable at hk
  refine lv_aload_n hx hb d_Sg_setVariable_0 rfl (lv_at hl 0 rfl) ?_
  refine lv_iload_n hx hb d_Sg_setVariable_1 rfl (lv_at hl 1 rfl) ?_
  obtain ⟨hk0, hk⟩ := hk
  refine zz_callV (va_runV (As := [.int a1]) (rest := []) ⟨hx, hb, hml, hown, hg⟩ (c_Sg_isVariable l D ty h px σ a1 hk0) ⟨callB_of 1 hg (gw_C m_357) rfl rfl rfl (hg _ m_2) (hg _ m_354) hd_Sg_isVariable ⟨Nat.le_of_ble_eq_true rfl, Nat.le_of_ble_eq_true rfl⟩, hg _ m_355, hg _ m_356⟩ (zz_preV hK hP 1 rfl rfl) rfl rfl hl.1 rfl (lv_room (Nat.le_of_ble_eq_true rfl)) d_Sg_setVariable_2 ⟨Nat.le_refl _, Nat.le_refl _⟩) ?_
  refine lv_if_eq (tgt := 16) hx hb d_Sg_setVariable_5 (by decide) (fun hc => ?_) (fun hc => ?_)
  · have hv := hv.trans (if_pos hc)
    have hk := hk.1 hc
    exact B16 _ _ _  σ hv hk (lv_sub hl [] rfl) hP hD hS
  · have hv := hv.trans (if_neg hc)
    have hk := hk.2 hc
    refine lv_aload_n hx hb d_Sg_setVariable_8 rfl (lv_at hl 0 rfl) ?_
    refine lv_iload_n hx hb d_Sg_setVariable_9 rfl (lv_at hl 2 rfl) ?_
    obtain ⟨hk0, hk⟩ := hk
    refine zz_callV (va_runV (As := [.int a2]) (rest := []) ⟨hx, hb, hml, hown, hg⟩ (c_Sg_isSort l D ty h px σ a2 hk0) ⟨callB_of 1 hg (gw_C m_337) rfl rfl rfl (hg _ m_2) (hg _ m_334) hd_Sg_isSort ⟨Nat.le_of_ble_eq_true rfl, Nat.le_of_ble_eq_true rfl⟩, hg _ m_336, hg _ ms_0⟩ (zz_preV hK hP 1 rfl rfl) rfl rfl hl.1 rfl (lv_room (Nat.le_of_ble_eq_true rfl)) d_Sg_setVariable_10 ⟨Nat.le_refl _, Nat.le_refl _⟩) ?_
    refine lv_if_ne (tgt := 18) hx hb d_Sg_setVariable_13 (by decide) (fun hc => ?_) (fun hc => ?_)
    · have hv := hv.trans (if_neg hc)
      have hk := hk.2 hc
      refine lv_aload_n hx hb d_Sg_setVariable_18 rfl (lv_at hl 0 rfl) ?_
      refine va_get (v := .ref (h 5)) (C := R_Sg) (T := T_Sg) (N := 6) hx hb hg in_Sg hown hK hP 1 rfl rfl 3 (by decide) (hg _ m_46) (fun _ h9 => h9) rfl d_Sg_setVariable_19 ?_
      refine lv_iload_n hx hb d_Sg_setVariable_22 rfl (lv_at hl 1 rfl) ?_
      refine lv_iload_n hx hb d_Sg_setVariable_23 rfl (lv_at hl 2 rfl) ?_
      obtain ⟨hk0, hk⟩ := hk
      refine va_iast hx hb hK hP hD hS 5 0 rfl rfl hk0 d_Sg_setVariable_24 (fun H locs hP hD hS => ?_)
      have hP : va_P D classes (Wc ty h (sA σ 5 a1 a2) px) H := hP
      have hD : va_D A (Wc ty h (sA σ 5 a1 a2) px) := hD
      exact B25 _ _ _  (sA σ 5 a1 a2) hv hk (lv_sub hl [] rfl) hP hD hS
    · have hv := hv.trans (if_pos hc)
      have hk := hk.1 hc
      exact B16 _ _ _  σ hv hk (lv_sub hl [] rfl) hP hD hS

-- ClauseLedger$Signature.isSymbol(I)Z
abbrev b_Sg_isSymbol : ByteArray := prog_8_method_5_code
def y_Sg_isSymbol : MethodName := ⟨"ClauseLedger$Signature", "isSymbol", "(I)Z"⟩
theorem hd_Sg_isSymbol : y_Sg_isSymbol.cls ≠ "java/lang/invoke/MethodHandle" ∧ y_Sg_isSymbol.cls ≠ "java/lang/invoke/VarHandle" ∧ (parseMethodDescriptor y_Sg_isSymbol.desc).map (fun d => d.parameters.length) = some 1 := by decide +kernel
theorem d_Sg_isSymbol_0 : decode b_Sg_isSymbol 0 = .ok (.iload_n 1, 1) := by decide +kernel
theorem d_Sg_isSymbol_1 : decode b_Sg_isSymbol 1 = .ok (.ifCond .lt 15, 3) := by decide +kernel
theorem d_Sg_isSymbol_4 : decode b_Sg_isSymbol 4 = .ok (.iload_n 1, 1) := by decide +kernel
theorem d_Sg_isSymbol_5 : decode b_Sg_isSymbol 5 = .ok (.aload_n 0, 1) := by decide +kernel
theorem d_Sg_isSymbol_6 : decode b_Sg_isSymbol 6 = .ok (.getfield 28, 3) := by decide +kernel
theorem d_Sg_isSymbol_9 : decode b_Sg_isSymbol 9 = .ok (.if_icmp .ge 7, 3) := by decide +kernel
theorem d_Sg_isSymbol_12 : decode b_Sg_isSymbol 12 = .ok (.iconst 1, 1) := by decide +kernel
theorem d_Sg_isSymbol_13 : decode b_Sg_isSymbol 13 = .ok (.goto 4, 3) := by decide +kernel
theorem d_Sg_isSymbol_16 : decode b_Sg_isSymbol 16 = .ok (.iconst 0, 1) := by decide +kernel
theorem d_Sg_isSymbol_17 : decode b_Sg_isSymbol 17 = .ok (.ireturn, 1) := by decide +kernel
def f_Sg_isSymbol_17 (s0 : Int32) (σ : St) : Int32 := s0
def k_Sg_isSymbol_17 (s0 : Int32) (σ : St) : Prop := (narrow .boolean (.int s0) = .int s0) ∧ True
def f_Sg_isSymbol_16 (σ : St) : Int32 := f_Sg_isSymbol_17 0 σ
def k_Sg_isSymbol_16 (σ : St) : Prop := k_Sg_isSymbol_17 0 σ
def f_Sg_isSymbol (a1 : Int32) (σ : St) : Int32 := if a1 < 0 then (f_Sg_isSymbol_16 σ) else (if (σ.1 1 5) ≤ a1 then (f_Sg_isSymbol_16 σ) else (f_Sg_isSymbol_17 1 σ))
def k_Sg_isSymbol (a1 : Int32) (σ : St) : Prop := (a1 < 0 → (k_Sg_isSymbol_16 σ)) ∧ (¬ a1 < 0 → (((σ.1 1 5) ≤ a1 → (k_Sg_isSymbol_16 σ)) ∧ (¬ (σ.1 1 5) ≤ a1 → (k_Sg_isSymbol_17 1 σ))))
abbrev w_Sg_isSymbol : List Cond := Cond.code y_Sg_isSymbol b_Sg_isSymbol 2 (some .boolean) :: gw
abbrev rm_Sg_isSymbol : Room := { frames := 0, cells := 0, slots := 0, locals := 0 }
set_option maxHeartbeats 4000000 in
set_option maxRecDepth 100000 in
theorem c_Sg_isSymbol (l : Launch) (D : va_G) (ty : Nat → ClassId) (h : Nat → Nat) (px : va_W) (σ : St) (a1 : Int32) (hk : k_Sg_isSymbol a1 σ) : Met l y_Sg_isSymbol w_Sg_isSymbol rm_Sg_isSymbol (va_Pc [.ref (h 1), .int a1] (fun U => va_P D classes (Wc ty h σ px) U.heap ∧ va_K D classes (Ta ty) U)) (k2_QcV (.int (f_Sg_isSymbol a1 σ))) 0 0 (fun _ => False) := by
  refine Met.ofW (cc := b_Sg_isSymbol) (maxL := 2) (ret := (some .boolean)) (by decide) rfl ?_
  intro p e s m args below meth c s₁ B hml hv
  obtain ⟨ha, hP, hK⟩ := hv
  have hx := B.exec
  have hb := B.bytes
  have hr := B.returns
  have hg : ∀ w ∈ gw, w.before args s = true := fun w h9 => atoms_spec (ws := w_Sg_isSymbol) B.pre w (List.mem_cons_of_mem _ h9)
  have hown : s.vm.findClass "ClauseLedger$Signature" = some m.cls := findClass_of_methodNamed B.named
  have hlocks := B.notSynchronized
  have he : entryFrame m args 2 = entryFrame m ([.ref (h 1), .int a1] : List Value).toArray 2 := by rw [ha]
  rw [he, lg_entry_eq]
  have hl := lv_entry ([.ref (h 1), .int a1]) (n := 2) (Nat.le_of_ble_eq_true rfl)
  generalize (lg_sl ([.ref (h 1), .int a1]) ++ List.replicate (2 - (lg_sl ([.ref (h 1), .int a1])).length) Slot.unset).toArray = ls at hl ⊢
  have hl : lv_has ls 2 [(0, .ref (h 1)), (1, .int a1)] := hl
  generalize hv : f_Sg_isSymbol a1 σ = v
  replace hv := hv.symm
  have B17 : ∀ (ls : Array Slot) (s0 : Int32), v = f_Sg_isSymbol_17 s0 σ → k_Sg_isSymbol_17 s0 σ → lv_has ls 2 [] → W p l e (headSpec w_Sg_isSymbol rm_Sg_isSymbol).room s m args below meth c s.heap [] 0 0 (MQ below (k2_QcV (.int v)) args s 0 0 (fun _ => False)) (F0 m 17 ls [.int s0]) := by
    intro ls s0 hv hk hl
    unfold f_Sg_isSymbol_17 at hv
    unfold k_Sg_isSymbol_17 at hk
    obtain ⟨hk0, hk⟩ := hk
    exact W.zret hx hb hr hk0 (fun t ht hW => ⟨by rw [hv], ht⟩) (fun q h => nomatch h) d_Sg_isSymbol_17
  have B16 : ∀ (ls : Array Slot), v = f_Sg_isSymbol_16 σ → k_Sg_isSymbol_16 σ → lv_has ls 2 [] → W p l e (headSpec w_Sg_isSymbol rm_Sg_isSymbol).room s m args below meth c s.heap [] 0 0 (MQ below (k2_QcV (.int v)) args s 0 0 (fun _ => False)) (F0 m 16 ls []) := by
    intro ls hv hk hl
    unfold f_Sg_isSymbol_16 at hv
    unfold k_Sg_isSymbol_16 at hk
    refine lv_iconst (v := 0) hx hb d_Sg_isSymbol_16 (by decide) ?_
    exact B17 _ 0 hv hk (lv_sub hl [] rfl)
  unfold f_Sg_isSymbol at hv
  unfold k_Sg_isSymbol at hk
  refine lv_iload_n hx hb d_Sg_isSymbol_0 rfl (lv_at hl 1 rfl) ?_
  refine lv_if_lt (tgt := 16) hx hb d_Sg_isSymbol_1 (by decide) (fun hc => ?_) (fun hc => ?_)
  · have hv := hv.trans (if_pos hc)
    have hk := hk.1 hc
    exact B16 _  hv hk (lv_sub hl [] rfl)
  · have hv := hv.trans (if_neg hc)
    have hk := hk.2 hc
    refine lv_iload_n hx hb d_Sg_isSymbol_4 rfl (lv_at hl 1 rfl) ?_
    refine lv_aload_n hx hb d_Sg_isSymbol_5 rfl (lv_at hl 0 rfl) ?_
    refine va_get (v := .int (σ.1 1 5)) (C := R_Sg) (T := T_Sg) (N := 6) hx hb hg in_Sg hown hK hP 1 rfl rfl 5 (by decide) (hg _ m_48) (fun _ h9 => h9) rfl d_Sg_isSymbol_6 ?_
    refine lv_icmp_ge (tgt := 16) hx hb d_Sg_isSymbol_9 (by decide) (fun hc => ?_) (fun hc => ?_)
    · have hv := hv.trans (if_pos hc)
      have hk := hk.1 hc
      exact B16 _  hv hk (lv_sub hl [] rfl)
    · have hv := hv.trans (if_neg hc)
      have hk := hk.2 hc
      refine lv_iconst (v := 1) hx hb d_Sg_isSymbol_12 (by decide) ?_
      refine lv_goto (tgt := 17) hx hb d_Sg_isSymbol_13 (by decide) ?_
      exact B17 _ 1 hv hk (lv_sub hl [] rfl)

-- ClauseLedger$Signature.sortOfSymbol(I)I
abbrev b_Sg_sortOfSymbol : ByteArray := prog_8_method_7_code
def y_Sg_sortOfSymbol : MethodName := ⟨"ClauseLedger$Signature", "sortOfSymbol", "(I)I"⟩
theorem hd_Sg_sortOfSymbol : y_Sg_sortOfSymbol.cls ≠ "java/lang/invoke/MethodHandle" ∧ y_Sg_sortOfSymbol.cls ≠ "java/lang/invoke/VarHandle" ∧ (parseMethodDescriptor y_Sg_sortOfSymbol.desc).map (fun d => d.parameters.length) = some 1 := by decide +kernel
theorem d_Sg_sortOfSymbol_0 : decode b_Sg_sortOfSymbol 0 = .ok (.aload_n 0, 1) := by decide +kernel
theorem d_Sg_sortOfSymbol_1 : decode b_Sg_sortOfSymbol 1 = .ok (.iload_n 1, 1) := by decide +kernel
theorem d_Sg_sortOfSymbol_2 : decode b_Sg_sortOfSymbol 2 = .ok (.invokevirtual 41, 3) := by decide +kernel
theorem d_Sg_sortOfSymbol_5 : decode b_Sg_sortOfSymbol 5 = .ok (.ifCond .eq 12, 3) := by decide +kernel
theorem d_Sg_sortOfSymbol_8 : decode b_Sg_sortOfSymbol 8 = .ok (.aload_n 0, 1) := by decide +kernel
theorem d_Sg_sortOfSymbol_9 : decode b_Sg_sortOfSymbol 9 = .ok (.getfield 11, 3) := by decide +kernel
theorem d_Sg_sortOfSymbol_12 : decode b_Sg_sortOfSymbol 12 = .ok (.iload_n 1, 1) := by decide +kernel
theorem d_Sg_sortOfSymbol_13 : decode b_Sg_sortOfSymbol 13 = .ok (.iaload, 1) := by decide +kernel
theorem d_Sg_sortOfSymbol_14 : decode b_Sg_sortOfSymbol 14 = .ok (.goto 4, 3) := by decide +kernel
theorem d_Sg_sortOfSymbol_17 : decode b_Sg_sortOfSymbol 17 = .ok (.iconst (-1), 1) := by decide +kernel
theorem d_Sg_sortOfSymbol_18 : decode b_Sg_sortOfSymbol 18 = .ok (.ireturn, 1) := by decide +kernel
def f_Sg_sortOfSymbol_18 (s0 : Int32) (σ : St) : Int32 := s0
def k_Sg_sortOfSymbol_18 (s0 : Int32) (σ : St) : Prop := True
def f_Sg_sortOfSymbol (a1 : Int32) (σ : St) : Int32 := if (f_Sg_isSymbol a1 σ) = 0 then (f_Sg_sortOfSymbol_18 (-1) σ) else (f_Sg_sortOfSymbol_18 (σ.1 2 a1.toNatClampNeg) σ)
def k_Sg_sortOfSymbol (a1 : Int32) (σ : St) : Prop := (k_Sg_isSymbol a1 σ) ∧ (((f_Sg_isSymbol a1 σ) = 0 → (k_Sg_sortOfSymbol_18 (-1) σ)) ∧ (¬ (f_Sg_isSymbol a1 σ) = 0 → (vp_in a1 12 ∧ (k_Sg_sortOfSymbol_18 (σ.1 2 a1.toNatClampNeg) σ))))
abbrev w_Sg_sortOfSymbol : List Cond := Cond.code y_Sg_sortOfSymbol b_Sg_sortOfSymbol 2 (some .int) :: gw
abbrev rm_Sg_sortOfSymbol : Room := { frames := 1, cells := 0, slots := 0, locals := 21 }
set_option maxHeartbeats 4000000 in
set_option maxRecDepth 100000 in
theorem c_Sg_sortOfSymbol (l : Launch) (D : va_G) (ty : Nat → ClassId) (h : Nat → Nat) (px : va_W) (σ : St) (a1 : Int32) (hk : k_Sg_sortOfSymbol a1 σ) : Met l y_Sg_sortOfSymbol w_Sg_sortOfSymbol rm_Sg_sortOfSymbol (va_Pc [.ref (h 1), .int a1] (fun U => va_P D classes (Wc ty h σ px) U.heap ∧ va_K D classes (Ta ty) U)) (k2_QcV (.int (f_Sg_sortOfSymbol a1 σ))) 0 0 (fun _ => False) := by
  refine Met.ofW (cc := b_Sg_sortOfSymbol) (maxL := 2) (ret := (some .int)) (by decide) rfl ?_
  intro p e s m args below meth c s₁ B hml hv
  obtain ⟨ha, hP, hK⟩ := hv
  have hx := B.exec
  have hb := B.bytes
  have hr := B.returns
  have hg : ∀ w ∈ gw, w.before args s = true := fun w h9 => atoms_spec (ws := w_Sg_sortOfSymbol) B.pre w (List.mem_cons_of_mem _ h9)
  have hown : s.vm.findClass "ClauseLedger$Signature" = some m.cls := findClass_of_methodNamed B.named
  have hlocks := B.notSynchronized
  have he : entryFrame m args 2 = entryFrame m ([.ref (h 1), .int a1] : List Value).toArray 2 := by rw [ha]
  rw [he, lg_entry_eq]
  have hl := lv_entry ([.ref (h 1), .int a1]) (n := 2) (Nat.le_of_ble_eq_true rfl)
  generalize (lg_sl ([.ref (h 1), .int a1]) ++ List.replicate (2 - (lg_sl ([.ref (h 1), .int a1])).length) Slot.unset).toArray = ls at hl ⊢
  have hl : lv_has ls 2 [(0, .ref (h 1)), (1, .int a1)] := hl
  generalize hv : f_Sg_sortOfSymbol a1 σ = v
  replace hv := hv.symm
  have B18 : ∀ (ls : Array Slot) (s0 : Int32), v = f_Sg_sortOfSymbol_18 s0 σ → k_Sg_sortOfSymbol_18 s0 σ → lv_has ls 2 [] → W p l e (headSpec w_Sg_sortOfSymbol rm_Sg_sortOfSymbol).room s m args below meth c s.heap [] 0 0 (MQ below (k2_QcV (.int v)) args s 0 0 (fun _ => False)) (F0 m 18 ls [.int s0]) := by
    intro ls s0 hv hk hl
    unfold f_Sg_sortOfSymbol_18 at hv
    unfold k_Sg_sortOfSymbol_18 at hk
    exact W.iret hx hb hr (fun t ht hW => ⟨by rw [hv], ht⟩) (fun q h => nomatch h) d_Sg_sortOfSymbol_18
  unfold f_Sg_sortOfSymbol at hv
  unfold k_Sg_sortOfSymbol at hk
  refine lv_aload_n hx hb d_Sg_sortOfSymbol_0 rfl (lv_at hl 0 rfl) ?_
  refine lv_iload_n hx hb d_Sg_sortOfSymbol_1 rfl (lv_at hl 1 rfl) ?_
  obtain ⟨hk0, hk⟩ := hk
  refine zz_callV (va_runV (As := [.int a1]) (rest := []) ⟨hx, hb, hml, hown, hg⟩ (c_Sg_isSymbol l D ty h px σ a1 hk0) ⟨callB_of 1 hg (gw_C m_599) rfl rfl rfl (hg _ m_2) (hg _ m_596) hd_Sg_isSymbol ⟨Nat.le_of_ble_eq_true rfl, Nat.le_of_ble_eq_true rfl⟩, hg _ m_597, hg _ m_598⟩ (zz_preV hK hP 1 rfl rfl) rfl rfl hl.1 rfl (lv_room (Nat.le_of_ble_eq_true rfl)) d_Sg_sortOfSymbol_2 ⟨Nat.le_refl _, Nat.le_refl _⟩) ?_
  refine lv_if_eq (tgt := 17) hx hb d_Sg_sortOfSymbol_5 (by decide) (fun hc => ?_) (fun hc => ?_)
  · have hv := hv.trans (if_pos hc)
    have hk := hk.1 hc
    refine lv_iconst (v := -1) hx hb d_Sg_sortOfSymbol_17 (by decide) ?_
    exact B18 _ (-1) hv hk (lv_sub hl [] rfl)
  · have hv := hv.trans (if_neg hc)
    have hk := hk.2 hc
    refine lv_aload_n hx hb d_Sg_sortOfSymbol_8 rfl (lv_at hl 0 rfl) ?_
    refine va_get (v := .ref (h 2)) (C := R_Sg) (T := T_Sg) (N := 6) hx hb hg in_Sg hown hK hP 1 rfl rfl 0 (by decide) (hg _ m_43) (fun _ h9 => h9) rfl d_Sg_sortOfSymbol_9 ?_
    refine lv_iload_n hx hb d_Sg_sortOfSymbol_12 rfl (lv_at hl 1 rfl) ?_
    obtain ⟨hk0, hk⟩ := hk
    refine va_iald hx hb hK hP 2 0 rfl rfl hk0 d_Sg_sortOfSymbol_13 ?_
    refine lv_goto (tgt := 18) hx hb d_Sg_sortOfSymbol_14 (by decide) ?_
    exact B18 _ (σ.1 2 a1.toNatClampNeg) hv hk (lv_sub hl [] rfl)

-- ClauseLedger$Signature.firstOfSymbol(I)I
abbrev b_Sg_firstOfSymbol : ByteArray := prog_8_method_8_code
def y_Sg_firstOfSymbol : MethodName := ⟨"ClauseLedger$Signature", "firstOfSymbol", "(I)I"⟩
theorem hd_Sg_firstOfSymbol : y_Sg_firstOfSymbol.cls ≠ "java/lang/invoke/MethodHandle" ∧ y_Sg_firstOfSymbol.cls ≠ "java/lang/invoke/VarHandle" ∧ (parseMethodDescriptor y_Sg_firstOfSymbol.desc).map (fun d => d.parameters.length) = some 1 := by decide +kernel
theorem d_Sg_firstOfSymbol_0 : decode b_Sg_firstOfSymbol 0 = .ok (.aload_n 0, 1) := by decide +kernel
theorem d_Sg_firstOfSymbol_1 : decode b_Sg_firstOfSymbol 1 = .ok (.iload_n 1, 1) := by decide +kernel
theorem d_Sg_firstOfSymbol_2 : decode b_Sg_firstOfSymbol 2 = .ok (.invokevirtual 41, 3) := by decide +kernel
theorem d_Sg_firstOfSymbol_5 : decode b_Sg_firstOfSymbol 5 = .ok (.ifCond .eq 12, 3) := by decide +kernel
theorem d_Sg_firstOfSymbol_8 : decode b_Sg_firstOfSymbol 8 = .ok (.aload_n 0, 1) := by decide +kernel
theorem d_Sg_firstOfSymbol_9 : decode b_Sg_firstOfSymbol 9 = .ok (.getfield 15, 3) := by decide +kernel
theorem d_Sg_firstOfSymbol_12 : decode b_Sg_firstOfSymbol 12 = .ok (.iload_n 1, 1) := by decide +kernel
theorem d_Sg_firstOfSymbol_13 : decode b_Sg_firstOfSymbol 13 = .ok (.iaload, 1) := by decide +kernel
theorem d_Sg_firstOfSymbol_14 : decode b_Sg_firstOfSymbol 14 = .ok (.goto 4, 3) := by decide +kernel
theorem d_Sg_firstOfSymbol_17 : decode b_Sg_firstOfSymbol 17 = .ok (.iconst (-1), 1) := by decide +kernel
theorem d_Sg_firstOfSymbol_18 : decode b_Sg_firstOfSymbol 18 = .ok (.ireturn, 1) := by decide +kernel
def f_Sg_firstOfSymbol_18 (s0 : Int32) (σ : St) : Int32 := s0
def k_Sg_firstOfSymbol_18 (s0 : Int32) (σ : St) : Prop := True
def f_Sg_firstOfSymbol (a1 : Int32) (σ : St) : Int32 := if (f_Sg_isSymbol a1 σ) = 0 then (f_Sg_firstOfSymbol_18 (-1) σ) else (f_Sg_firstOfSymbol_18 (σ.1 3 a1.toNatClampNeg) σ)
def k_Sg_firstOfSymbol (a1 : Int32) (σ : St) : Prop := (k_Sg_isSymbol a1 σ) ∧ (((f_Sg_isSymbol a1 σ) = 0 → (k_Sg_firstOfSymbol_18 (-1) σ)) ∧ (¬ (f_Sg_isSymbol a1 σ) = 0 → (vp_in a1 12 ∧ (k_Sg_firstOfSymbol_18 (σ.1 3 a1.toNatClampNeg) σ))))
abbrev w_Sg_firstOfSymbol : List Cond := Cond.code y_Sg_firstOfSymbol b_Sg_firstOfSymbol 2 (some .int) :: gw
abbrev rm_Sg_firstOfSymbol : Room := { frames := 1, cells := 0, slots := 0, locals := 21 }
set_option maxHeartbeats 4000000 in
set_option maxRecDepth 100000 in
theorem c_Sg_firstOfSymbol (l : Launch) (D : va_G) (ty : Nat → ClassId) (h : Nat → Nat) (px : va_W) (σ : St) (a1 : Int32) (hk : k_Sg_firstOfSymbol a1 σ) : Met l y_Sg_firstOfSymbol w_Sg_firstOfSymbol rm_Sg_firstOfSymbol (va_Pc [.ref (h 1), .int a1] (fun U => va_P D classes (Wc ty h σ px) U.heap ∧ va_K D classes (Ta ty) U)) (k2_QcV (.int (f_Sg_firstOfSymbol a1 σ))) 0 0 (fun _ => False) := by
  refine Met.ofW (cc := b_Sg_firstOfSymbol) (maxL := 2) (ret := (some .int)) (by decide) rfl ?_
  intro p e s m args below meth c s₁ B hml hv
  obtain ⟨ha, hP, hK⟩ := hv
  have hx := B.exec
  have hb := B.bytes
  have hr := B.returns
  have hg : ∀ w ∈ gw, w.before args s = true := fun w h9 => atoms_spec (ws := w_Sg_firstOfSymbol) B.pre w (List.mem_cons_of_mem _ h9)
  have hown : s.vm.findClass "ClauseLedger$Signature" = some m.cls := findClass_of_methodNamed B.named
  have hlocks := B.notSynchronized
  have he : entryFrame m args 2 = entryFrame m ([.ref (h 1), .int a1] : List Value).toArray 2 := by rw [ha]
  rw [he, lg_entry_eq]
  have hl := lv_entry ([.ref (h 1), .int a1]) (n := 2) (Nat.le_of_ble_eq_true rfl)
  generalize (lg_sl ([.ref (h 1), .int a1]) ++ List.replicate (2 - (lg_sl ([.ref (h 1), .int a1])).length) Slot.unset).toArray = ls at hl ⊢
  have hl : lv_has ls 2 [(0, .ref (h 1)), (1, .int a1)] := hl
  generalize hv : f_Sg_firstOfSymbol a1 σ = v
  replace hv := hv.symm
  have B18 : ∀ (ls : Array Slot) (s0 : Int32), v = f_Sg_firstOfSymbol_18 s0 σ → k_Sg_firstOfSymbol_18 s0 σ → lv_has ls 2 [] → W p l e (headSpec w_Sg_firstOfSymbol rm_Sg_firstOfSymbol).room s m args below meth c s.heap [] 0 0 (MQ below (k2_QcV (.int v)) args s 0 0 (fun _ => False)) (F0 m 18 ls [.int s0]) := by
    intro ls s0 hv hk hl
    unfold f_Sg_firstOfSymbol_18 at hv
    unfold k_Sg_firstOfSymbol_18 at hk
    exact W.iret hx hb hr (fun t ht hW => ⟨by rw [hv], ht⟩) (fun q h => nomatch h) d_Sg_firstOfSymbol_18
  unfold f_Sg_firstOfSymbol at hv
  unfold k_Sg_firstOfSymbol at hk
  refine lv_aload_n hx hb d_Sg_firstOfSymbol_0 rfl (lv_at hl 0 rfl) ?_
  refine lv_iload_n hx hb d_Sg_firstOfSymbol_1 rfl (lv_at hl 1 rfl) ?_
  obtain ⟨hk0, hk⟩ := hk
  refine zz_callV (va_runV (As := [.int a1]) (rest := []) ⟨hx, hb, hml, hown, hg⟩ (c_Sg_isSymbol l D ty h px σ a1 hk0) ⟨callB_of 1 hg (gw_C m_599) rfl rfl rfl (hg _ m_2) (hg _ m_596) hd_Sg_isSymbol ⟨Nat.le_of_ble_eq_true rfl, Nat.le_of_ble_eq_true rfl⟩, hg _ m_597, hg _ m_598⟩ (zz_preV hK hP 1 rfl rfl) rfl rfl hl.1 rfl (lv_room (Nat.le_of_ble_eq_true rfl)) d_Sg_firstOfSymbol_2 ⟨Nat.le_refl _, Nat.le_refl _⟩) ?_
  refine lv_if_eq (tgt := 17) hx hb d_Sg_firstOfSymbol_5 (by decide) (fun hc => ?_) (fun hc => ?_)
  · have hv := hv.trans (if_pos hc)
    have hk := hk.1 hc
    refine lv_iconst (v := -1) hx hb d_Sg_firstOfSymbol_17 (by decide) ?_
    exact B18 _ (-1) hv hk (lv_sub hl [] rfl)
  · have hv := hv.trans (if_neg hc)
    have hk := hk.2 hc
    refine lv_aload_n hx hb d_Sg_firstOfSymbol_8 rfl (lv_at hl 0 rfl) ?_
    refine va_get (v := .ref (h 3)) (C := R_Sg) (T := T_Sg) (N := 6) hx hb hg in_Sg hown hK hP 1 rfl rfl 1 (by decide) (hg _ m_44) (fun _ h9 => h9) rfl d_Sg_firstOfSymbol_9 ?_
    refine lv_iload_n hx hb d_Sg_firstOfSymbol_12 rfl (lv_at hl 1 rfl) ?_
    obtain ⟨hk0, hk⟩ := hk
    refine va_iald hx hb hK hP 3 0 rfl rfl hk0 d_Sg_firstOfSymbol_13 ?_
    refine lv_goto (tgt := 18) hx hb d_Sg_firstOfSymbol_14 (by decide) ?_
    exact B18 _ (σ.1 3 a1.toNatClampNeg) hv hk (lv_sub hl [] rfl)

-- ClauseLedger$Signature.secondOfSymbol(I)I
abbrev b_Sg_secondOfSymbol : ByteArray := prog_8_method_9_code
def y_Sg_secondOfSymbol : MethodName := ⟨"ClauseLedger$Signature", "secondOfSymbol", "(I)I"⟩
theorem hd_Sg_secondOfSymbol : y_Sg_secondOfSymbol.cls ≠ "java/lang/invoke/MethodHandle" ∧ y_Sg_secondOfSymbol.cls ≠ "java/lang/invoke/VarHandle" ∧ (parseMethodDescriptor y_Sg_secondOfSymbol.desc).map (fun d => d.parameters.length) = some 1 := by decide +kernel
theorem d_Sg_secondOfSymbol_0 : decode b_Sg_secondOfSymbol 0 = .ok (.aload_n 0, 1) := by decide +kernel
theorem d_Sg_secondOfSymbol_1 : decode b_Sg_secondOfSymbol 1 = .ok (.iload_n 1, 1) := by decide +kernel
theorem d_Sg_secondOfSymbol_2 : decode b_Sg_secondOfSymbol 2 = .ok (.invokevirtual 41, 3) := by decide +kernel
theorem d_Sg_secondOfSymbol_5 : decode b_Sg_secondOfSymbol 5 = .ok (.ifCond .eq 12, 3) := by decide +kernel
theorem d_Sg_secondOfSymbol_8 : decode b_Sg_secondOfSymbol 8 = .ok (.aload_n 0, 1) := by decide +kernel
theorem d_Sg_secondOfSymbol_9 : decode b_Sg_secondOfSymbol 9 = .ok (.getfield 18, 3) := by decide +kernel
theorem d_Sg_secondOfSymbol_12 : decode b_Sg_secondOfSymbol 12 = .ok (.iload_n 1, 1) := by decide +kernel
theorem d_Sg_secondOfSymbol_13 : decode b_Sg_secondOfSymbol 13 = .ok (.iaload, 1) := by decide +kernel
theorem d_Sg_secondOfSymbol_14 : decode b_Sg_secondOfSymbol 14 = .ok (.goto 4, 3) := by decide +kernel
theorem d_Sg_secondOfSymbol_17 : decode b_Sg_secondOfSymbol 17 = .ok (.iconst (-1), 1) := by decide +kernel
theorem d_Sg_secondOfSymbol_18 : decode b_Sg_secondOfSymbol 18 = .ok (.ireturn, 1) := by decide +kernel
def f_Sg_secondOfSymbol_18 (s0 : Int32) (σ : St) : Int32 := s0
def k_Sg_secondOfSymbol_18 (s0 : Int32) (σ : St) : Prop := True
def f_Sg_secondOfSymbol (a1 : Int32) (σ : St) : Int32 := if (f_Sg_isSymbol a1 σ) = 0 then (f_Sg_secondOfSymbol_18 (-1) σ) else (f_Sg_secondOfSymbol_18 (σ.1 4 a1.toNatClampNeg) σ)
def k_Sg_secondOfSymbol (a1 : Int32) (σ : St) : Prop := (k_Sg_isSymbol a1 σ) ∧ (((f_Sg_isSymbol a1 σ) = 0 → (k_Sg_secondOfSymbol_18 (-1) σ)) ∧ (¬ (f_Sg_isSymbol a1 σ) = 0 → (vp_in a1 12 ∧ (k_Sg_secondOfSymbol_18 (σ.1 4 a1.toNatClampNeg) σ))))
abbrev w_Sg_secondOfSymbol : List Cond := Cond.code y_Sg_secondOfSymbol b_Sg_secondOfSymbol 2 (some .int) :: gw
abbrev rm_Sg_secondOfSymbol : Room := { frames := 1, cells := 0, slots := 0, locals := 21 }
set_option maxHeartbeats 4000000 in
set_option maxRecDepth 100000 in
theorem c_Sg_secondOfSymbol (l : Launch) (D : va_G) (ty : Nat → ClassId) (h : Nat → Nat) (px : va_W) (σ : St) (a1 : Int32) (hk : k_Sg_secondOfSymbol a1 σ) : Met l y_Sg_secondOfSymbol w_Sg_secondOfSymbol rm_Sg_secondOfSymbol (va_Pc [.ref (h 1), .int a1] (fun U => va_P D classes (Wc ty h σ px) U.heap ∧ va_K D classes (Ta ty) U)) (k2_QcV (.int (f_Sg_secondOfSymbol a1 σ))) 0 0 (fun _ => False) := by
  refine Met.ofW (cc := b_Sg_secondOfSymbol) (maxL := 2) (ret := (some .int)) (by decide) rfl ?_
  intro p e s m args below meth c s₁ B hml hv
  obtain ⟨ha, hP, hK⟩ := hv
  have hx := B.exec
  have hb := B.bytes
  have hr := B.returns
  have hg : ∀ w ∈ gw, w.before args s = true := fun w h9 => atoms_spec (ws := w_Sg_secondOfSymbol) B.pre w (List.mem_cons_of_mem _ h9)
  have hown : s.vm.findClass "ClauseLedger$Signature" = some m.cls := findClass_of_methodNamed B.named
  have hlocks := B.notSynchronized
  have he : entryFrame m args 2 = entryFrame m ([.ref (h 1), .int a1] : List Value).toArray 2 := by rw [ha]
  rw [he, lg_entry_eq]
  have hl := lv_entry ([.ref (h 1), .int a1]) (n := 2) (Nat.le_of_ble_eq_true rfl)
  generalize (lg_sl ([.ref (h 1), .int a1]) ++ List.replicate (2 - (lg_sl ([.ref (h 1), .int a1])).length) Slot.unset).toArray = ls at hl ⊢
  have hl : lv_has ls 2 [(0, .ref (h 1)), (1, .int a1)] := hl
  generalize hv : f_Sg_secondOfSymbol a1 σ = v
  replace hv := hv.symm
  have B18 : ∀ (ls : Array Slot) (s0 : Int32), v = f_Sg_secondOfSymbol_18 s0 σ → k_Sg_secondOfSymbol_18 s0 σ → lv_has ls 2 [] → W p l e (headSpec w_Sg_secondOfSymbol rm_Sg_secondOfSymbol).room s m args below meth c s.heap [] 0 0 (MQ below (k2_QcV (.int v)) args s 0 0 (fun _ => False)) (F0 m 18 ls [.int s0]) := by
    intro ls s0 hv hk hl
    unfold f_Sg_secondOfSymbol_18 at hv
    unfold k_Sg_secondOfSymbol_18 at hk
    exact W.iret hx hb hr (fun t ht hW => ⟨by rw [hv], ht⟩) (fun q h => nomatch h) d_Sg_secondOfSymbol_18
  unfold f_Sg_secondOfSymbol at hv
  unfold k_Sg_secondOfSymbol at hk
  refine lv_aload_n hx hb d_Sg_secondOfSymbol_0 rfl (lv_at hl 0 rfl) ?_
  refine lv_iload_n hx hb d_Sg_secondOfSymbol_1 rfl (lv_at hl 1 rfl) ?_
  obtain ⟨hk0, hk⟩ := hk
  refine zz_callV (va_runV (As := [.int a1]) (rest := []) ⟨hx, hb, hml, hown, hg⟩ (c_Sg_isSymbol l D ty h px σ a1 hk0) ⟨callB_of 1 hg (gw_C m_599) rfl rfl rfl (hg _ m_2) (hg _ m_596) hd_Sg_isSymbol ⟨Nat.le_of_ble_eq_true rfl, Nat.le_of_ble_eq_true rfl⟩, hg _ m_597, hg _ m_598⟩ (zz_preV hK hP 1 rfl rfl) rfl rfl hl.1 rfl (lv_room (Nat.le_of_ble_eq_true rfl)) d_Sg_secondOfSymbol_2 ⟨Nat.le_refl _, Nat.le_refl _⟩) ?_
  refine lv_if_eq (tgt := 17) hx hb d_Sg_secondOfSymbol_5 (by decide) (fun hc => ?_) (fun hc => ?_)
  · have hv := hv.trans (if_pos hc)
    have hk := hk.1 hc
    refine lv_iconst (v := -1) hx hb d_Sg_secondOfSymbol_17 (by decide) ?_
    exact B18 _ (-1) hv hk (lv_sub hl [] rfl)
  · have hv := hv.trans (if_neg hc)
    have hk := hk.2 hc
    refine lv_aload_n hx hb d_Sg_secondOfSymbol_8 rfl (lv_at hl 0 rfl) ?_
    refine va_get (v := .ref (h 4)) (C := R_Sg) (T := T_Sg) (N := 6) hx hb hg in_Sg hown hK hP 1 rfl rfl 2 (by decide) (hg _ m_45) (fun _ h9 => h9) rfl d_Sg_secondOfSymbol_9 ?_
    refine lv_iload_n hx hb d_Sg_secondOfSymbol_12 rfl (lv_at hl 1 rfl) ?_
    obtain ⟨hk0, hk⟩ := hk
    refine va_iald hx hb hK hP 4 0 rfl rfl hk0 d_Sg_secondOfSymbol_13 ?_
    refine lv_goto (tgt := 18) hx hb d_Sg_secondOfSymbol_14 (by decide) ?_
    exact B18 _ (σ.1 4 a1.toNatClampNeg) hv hk (lv_sub hl [] rfl)

-- ClauseLedger$Signature.sortOfVariable(I)I
abbrev b_Sg_sortOfVariable : ByteArray := prog_8_method_10_code
def y_Sg_sortOfVariable : MethodName := ⟨"ClauseLedger$Signature", "sortOfVariable", "(I)I"⟩
theorem hd_Sg_sortOfVariable : y_Sg_sortOfVariable.cls ≠ "java/lang/invoke/MethodHandle" ∧ y_Sg_sortOfVariable.cls ≠ "java/lang/invoke/VarHandle" ∧ (parseMethodDescriptor y_Sg_sortOfVariable.desc).map (fun d => d.parameters.length) = some 1 := by decide +kernel
theorem d_Sg_sortOfVariable_0 : decode b_Sg_sortOfVariable 0 = .ok (.aload_n 0, 1) := by decide +kernel
theorem d_Sg_sortOfVariable_1 : decode b_Sg_sortOfVariable 1 = .ok (.iload_n 1, 1) := by decide +kernel
theorem d_Sg_sortOfVariable_2 : decode b_Sg_sortOfVariable 2 = .ok (.invokevirtual 38, 3) := by decide +kernel
theorem d_Sg_sortOfVariable_5 : decode b_Sg_sortOfVariable 5 = .ok (.ifCond .eq 12, 3) := by decide +kernel
theorem d_Sg_sortOfVariable_8 : decode b_Sg_sortOfVariable 8 = .ok (.aload_n 0, 1) := by decide +kernel
theorem d_Sg_sortOfVariable_9 : decode b_Sg_sortOfVariable 9 = .ok (.getfield 21, 3) := by decide +kernel
theorem d_Sg_sortOfVariable_12 : decode b_Sg_sortOfVariable 12 = .ok (.iload_n 1, 1) := by decide +kernel
theorem d_Sg_sortOfVariable_13 : decode b_Sg_sortOfVariable 13 = .ok (.iaload, 1) := by decide +kernel
theorem d_Sg_sortOfVariable_14 : decode b_Sg_sortOfVariable 14 = .ok (.goto 4, 3) := by decide +kernel
theorem d_Sg_sortOfVariable_17 : decode b_Sg_sortOfVariable 17 = .ok (.iconst (-1), 1) := by decide +kernel
theorem d_Sg_sortOfVariable_18 : decode b_Sg_sortOfVariable 18 = .ok (.ireturn, 1) := by decide +kernel
def f_Sg_sortOfVariable_18 (s0 : Int32) (σ : St) : Int32 := s0
def k_Sg_sortOfVariable_18 (s0 : Int32) (σ : St) : Prop := True
def f_Sg_sortOfVariable (a1 : Int32) (σ : St) : Int32 := if (f_Sg_isVariable a1 σ) = 0 then (f_Sg_sortOfVariable_18 (-1) σ) else (f_Sg_sortOfVariable_18 (σ.1 5 a1.toNatClampNeg) σ)
def k_Sg_sortOfVariable (a1 : Int32) (σ : St) : Prop := (k_Sg_isVariable a1 σ) ∧ (((f_Sg_isVariable a1 σ) = 0 → (k_Sg_sortOfVariable_18 (-1) σ)) ∧ (¬ (f_Sg_isVariable a1 σ) = 0 → (vp_in a1 3 ∧ (k_Sg_sortOfVariable_18 (σ.1 5 a1.toNatClampNeg) σ))))
abbrev w_Sg_sortOfVariable : List Cond := Cond.code y_Sg_sortOfVariable b_Sg_sortOfVariable 2 (some .int) :: gw
abbrev rm_Sg_sortOfVariable : Room := { frames := 1, cells := 0, slots := 0, locals := 21 }
set_option maxHeartbeats 4000000 in
set_option maxRecDepth 100000 in
theorem c_Sg_sortOfVariable (l : Launch) (D : va_G) (ty : Nat → ClassId) (h : Nat → Nat) (px : va_W) (σ : St) (a1 : Int32) (hk : k_Sg_sortOfVariable a1 σ) : Met l y_Sg_sortOfVariable w_Sg_sortOfVariable rm_Sg_sortOfVariable (va_Pc [.ref (h 1), .int a1] (fun U => va_P D classes (Wc ty h σ px) U.heap ∧ va_K D classes (Ta ty) U)) (k2_QcV (.int (f_Sg_sortOfVariable a1 σ))) 0 0 (fun _ => False) := by
  refine Met.ofW (cc := b_Sg_sortOfVariable) (maxL := 2) (ret := (some .int)) (by decide) rfl ?_
  intro p e s m args below meth c s₁ B hml hv
  obtain ⟨ha, hP, hK⟩ := hv
  have hx := B.exec
  have hb := B.bytes
  have hr := B.returns
  have hg : ∀ w ∈ gw, w.before args s = true := fun w h9 => atoms_spec (ws := w_Sg_sortOfVariable) B.pre w (List.mem_cons_of_mem _ h9)
  have hown : s.vm.findClass "ClauseLedger$Signature" = some m.cls := findClass_of_methodNamed B.named
  have hlocks := B.notSynchronized
  have he : entryFrame m args 2 = entryFrame m ([.ref (h 1), .int a1] : List Value).toArray 2 := by rw [ha]
  rw [he, lg_entry_eq]
  have hl := lv_entry ([.ref (h 1), .int a1]) (n := 2) (Nat.le_of_ble_eq_true rfl)
  generalize (lg_sl ([.ref (h 1), .int a1]) ++ List.replicate (2 - (lg_sl ([.ref (h 1), .int a1])).length) Slot.unset).toArray = ls at hl ⊢
  have hl : lv_has ls 2 [(0, .ref (h 1)), (1, .int a1)] := hl
  generalize hv : f_Sg_sortOfVariable a1 σ = v
  replace hv := hv.symm
  have B18 : ∀ (ls : Array Slot) (s0 : Int32), v = f_Sg_sortOfVariable_18 s0 σ → k_Sg_sortOfVariable_18 s0 σ → lv_has ls 2 [] → W p l e (headSpec w_Sg_sortOfVariable rm_Sg_sortOfVariable).room s m args below meth c s.heap [] 0 0 (MQ below (k2_QcV (.int v)) args s 0 0 (fun _ => False)) (F0 m 18 ls [.int s0]) := by
    intro ls s0 hv hk hl
    unfold f_Sg_sortOfVariable_18 at hv
    unfold k_Sg_sortOfVariable_18 at hk
    exact W.iret hx hb hr (fun t ht hW => ⟨by rw [hv], ht⟩) (fun q h => nomatch h) d_Sg_sortOfVariable_18
  unfold f_Sg_sortOfVariable at hv
  unfold k_Sg_sortOfVariable at hk
  refine lv_aload_n hx hb d_Sg_sortOfVariable_0 rfl (lv_at hl 0 rfl) ?_
  refine lv_iload_n hx hb d_Sg_sortOfVariable_1 rfl (lv_at hl 1 rfl) ?_
  obtain ⟨hk0, hk⟩ := hk
  refine zz_callV (va_runV (As := [.int a1]) (rest := []) ⟨hx, hb, hml, hown, hg⟩ (c_Sg_isVariable l D ty h px σ a1 hk0) ⟨callB_of 1 hg (gw_C m_357) rfl rfl rfl (hg _ m_2) (hg _ m_354) hd_Sg_isVariable ⟨Nat.le_of_ble_eq_true rfl, Nat.le_of_ble_eq_true rfl⟩, hg _ m_355, hg _ m_356⟩ (zz_preV hK hP 1 rfl rfl) rfl rfl hl.1 rfl (lv_room (Nat.le_of_ble_eq_true rfl)) d_Sg_sortOfVariable_2 ⟨Nat.le_refl _, Nat.le_refl _⟩) ?_
  refine lv_if_eq (tgt := 17) hx hb d_Sg_sortOfVariable_5 (by decide) (fun hc => ?_) (fun hc => ?_)
  · have hv := hv.trans (if_pos hc)
    have hk := hk.1 hc
    refine lv_iconst (v := -1) hx hb d_Sg_sortOfVariable_17 (by decide) ?_
    exact B18 _ (-1) hv hk (lv_sub hl [] rfl)
  · have hv := hv.trans (if_neg hc)
    have hk := hk.2 hc
    refine lv_aload_n hx hb d_Sg_sortOfVariable_8 rfl (lv_at hl 0 rfl) ?_
    refine va_get (v := .ref (h 5)) (C := R_Sg) (T := T_Sg) (N := 6) hx hb hg in_Sg hown hK hP 1 rfl rfl 3 (by decide) (hg _ m_46) (fun _ h9 => h9) rfl d_Sg_sortOfVariable_9 ?_
    refine lv_iload_n hx hb d_Sg_sortOfVariable_12 rfl (lv_at hl 1 rfl) ?_
    obtain ⟨hk0, hk⟩ := hk
    refine va_iald hx hb hK hP 5 0 rfl rfl hk0 d_Sg_sortOfVariable_13 ?_
    refine lv_goto (tgt := 18) hx hb d_Sg_sortOfVariable_14 (by decide) ?_
    exact B18 _ (σ.1 5 a1.toNatClampNeg) hv hk (lv_sub hl [] rfl)

