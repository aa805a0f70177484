-- ClauseLedgerModel.thrown()I
abbrev b_Mo_thrown : ByteArray := prog_14_method_2_code
def y_Mo_thrown : MethodName := ⟨"ClauseLedgerModel", "thrown", "()I"⟩
theorem hd_Mo_thrown : y_Mo_thrown.cls ≠ "java/lang/invoke/MethodHandle" ∧ y_Mo_thrown.cls ≠ "java/lang/invoke/VarHandle" ∧ (parseMethodDescriptor y_Mo_thrown.desc).map (fun d => d.parameters.length) = some 0 := by decide +kernel
theorem d_Mo_thrown_0 : decode b_Mo_thrown 0 = .ok (.aload_n 0, 1) := by decide +kernel
theorem d_Mo_thrown_1 : decode b_Mo_thrown 1 = .ok (.getfield 103, 3) := by decide +kernel
theorem d_Mo_thrown_4 : decode b_Mo_thrown 4 = .ok (.ireturn, 1) := by decide +kernel
def f_Mo_thrown (σ : St) : Int32 := σ.1 0 0
def k_Mo_thrown (σ : St) : Prop := True
abbrev w_Mo_thrown : List Cond := Cond.code y_Mo_thrown b_Mo_thrown 1 (some .int) :: gw
abbrev rm_Mo_thrown : Room := { frames := 0, cells := 0, slots := 0, locals := 0 }
set_option maxHeartbeats 4000000 in
set_option maxRecDepth 100000 in
theorem c_Mo_thrown (l : Launch) (D : va_G) (ty : Nat → ClassId) (h : Nat → Nat) (px : va_W) (sa : Nat → Nat) (σ : St) (hk : k_Mo_thrown σ) : Met l y_Mo_thrown w_Mo_thrown rm_Mo_thrown (va_Pc [.ref (h 0)] (fun U => va_P D classes (Wm ty h σ px) U.heap ∧ va_K D classes (Ta ty) U ∧ NW U ∧ MK sa (fun _ => False) U U.heap)) (k2_QcV (.int (f_Mo_thrown σ))) 0 0 (fun _ => False) := by
  refine Met.ofW (cc := b_Mo_thrown) (maxL := 1) (ret := (some .int)) (by decide) rfl ?_
  intro p e s m args below meth c s₁ B hml hv
  obtain ⟨ha, hP, hK, hN, hM⟩ := hv
  have hx := B.exec
  have hb := B.bytes
  have hr := B.returns
  have hg : ∀ w ∈ gw, w.before args s = true := fun w h9 => atoms_spec (ws := w_Mo_thrown) B.pre w (List.mem_cons_of_mem _ h9)
  have hown : s.vm.findClass "ClauseLedgerModel" = some m.cls := findClass_of_methodNamed B.named
  have hlocks := B.notSynchronized
  have he : entryFrame m args 1 = entryFrame m ([.ref (h 0)] : List Value).toArray 1 := by rw [ha]
  rw [he, lg_entry_eq]
  have hl := lv_entry ([.ref (h 0)]) (n := 1) (Nat.le_of_ble_eq_true rfl)
  generalize (lg_sl ([.ref (h 0)]) ++ List.replicate (1 - (lg_sl ([.ref (h 0)])).length) Slot.unset).toArray = ls at hl ⊢
  have hl : lv_has ls 1 [(0, .ref (h 0))] := hl
  generalize hv : f_Mo_thrown σ = v
  replace hv := hv.symm
  unfold f_Mo_thrown at hv
  unfold k_Mo_thrown at hk
  refine lv_aload_n hx hb d_Mo_thrown_0 rfl (lv_at hl 0 rfl) ?_
  refine va_get (v := .int (σ.1 0 0)) (C := R_Mo) (T := T_Mo) (N := 51) hx hb hg in_Mo hown hK hP 0 rfl rfl 0 (by decide) (hg _ m_1259) (fun _ h9 => h9) rfl d_Mo_thrown_1 ?_
  exact W.iret hx hb hr (fun t ht hW => ⟨by rw [hv], ht⟩) (fun q h => nomatch h) d_Mo_thrown_4

-- ClauseLedgerModel.sort()I
abbrev b_Mo_sort : ByteArray := prog_14_method_3_code
def y_Mo_sort : MethodName := ⟨"ClauseLedgerModel", "sort", "()I"⟩
theorem hd_Mo_sort : y_Mo_sort.cls ≠ "java/lang/invoke/MethodHandle" ∧ y_Mo_sort.cls ≠ "java/lang/invoke/VarHandle" ∧ (parseMethodDescriptor y_Mo_sort.desc).map (fun d => d.parameters.length) = some 0 := by decide +kernel
theorem d_Mo_sort_0 : decode b_Mo_sort 0 = .ok (.aload_n 0, 1) := by decide +kernel
theorem d_Mo_sort_1 : decode b_Mo_sort 1 = .ok (.iconst 0, 1) := by decide +kernel
theorem d_Mo_sort_2 : decode b_Mo_sort 2 = .ok (.putfield 103, 3) := by decide +kernel
theorem d_Mo_sort_5 : decode b_Mo_sort 5 = .ok (.aload_n 0, 1) := by decide +kernel
theorem d_Mo_sort_6 : decode b_Mo_sort 6 = .ok (.getfield 7, 3) := by decide +kernel
theorem d_Mo_sort_9 : decode b_Mo_sort 9 = .ok (.iconst 5, 1) := by decide +kernel
theorem d_Mo_sort_10 : decode b_Mo_sort 10 = .ok (.if_icmp .ne 5, 3) := by decide +kernel
theorem d_Mo_sort_13 : decode b_Mo_sort 13 = .ok (.iconst (-1), 1) := by decide +kernel
theorem d_Mo_sort_14 : decode b_Mo_sort 14 = .ok (.ireturn, 1) := by decide +kernel
theorem d_Mo_sort_15 : decode b_Mo_sort 15 = .ok (.aload_n 0, 1) := by decide +kernel
theorem d_Mo_sort_16 : decode b_Mo_sort 16 = .ok (.dup, 1) := by decide +kernel
theorem d_Mo_sort_17 : decode b_Mo_sort 17 = .ok (.getfield 7, 3) := by decide +kernel
theorem d_Mo_sort_20 : decode b_Mo_sort 20 = .ok (.iconst 1, 1) := by decide +kernel
theorem d_Mo_sort_21 : decode b_Mo_sort 21 = .ok (.iadd, 1) := by decide +kernel
theorem d_Mo_sort_22 : decode b_Mo_sort 22 = .ok (.putfield 7, 3) := by decide +kernel
theorem d_Mo_sort_25 : decode b_Mo_sort 25 = .ok (.aload_n 0, 1) := by decide +kernel
theorem d_Mo_sort_26 : decode b_Mo_sort 26 = .ok (.getfield 7, 3) := by decide +kernel
theorem d_Mo_sort_29 : decode b_Mo_sort 29 = .ok (.iconst 1, 1) := by decide +kernel
theorem d_Mo_sort_30 : decode b_Mo_sort 30 = .ok (.isub, 1) := by decide +kernel
theorem d_Mo_sort_31 : decode b_Mo_sort 31 = .ok (.ireturn, 1) := by decide +kernel
def f_Mo_sort_25 (σ : St) : Int32 × St := ((σ.1 0 2) - 1, σ)
def k_Mo_sort_25 (σ : St) : Prop := True
def f_Mo_sort_5 (σ : St) : Int32 × St := if (σ.1 0 2) = 5 then ((-1), σ) else (f_Mo_sort_25 (sF σ 0 2 ((σ.1 0 2) + 1)))
def k_Mo_sort_5 (σ : St) : Prop := ((σ.1 0 2) = 5 → True) ∧ (¬ (σ.1 0 2) = 5 → (k_Mo_sort_25 (sF σ 0 2 ((σ.1 0 2) + 1))))
def f_Mo_sort (σ : St) : Int32 × St := f_Mo_sort_5 (sF σ 0 0 0)
def k_Mo_sort (σ : St) : Prop := k_Mo_sort_5 (sF σ 0 0 0)
abbrev w_Mo_sort : List Cond := Cond.code y_Mo_sort b_Mo_sort 1 (some .int) :: gw
abbrev rm_Mo_sort : Room := { frames := 0, cells := 0, slots := 0, locals := 0 }
set_option maxHeartbeats 4000000 in
set_option maxRecDepth 100000 in
theorem c_Mo_sort (l : Launch) (D : va_G) (ty : Nat → ClassId) (h : Nat → Nat) (px : va_W) (sa : Nat → Nat) (σ : St) (sz : Nat) (hk : k_Mo_sort σ) : Met l y_Mo_sort w_Mo_sort rm_Mo_sort (va_Pc [.ref (h 0)] (fun U => U.heap.size = sz ∧ va_P D classes (Wm ty h σ px) U.heap ∧ va_K D classes (Ta ty) U ∧ NW U ∧ MK sa (va_A (Wm ty h σ px) sz) U U.heap ∧ va_D (fun _ => True) (Wm ty h σ px))) (va_Qi (fun r (u : St) => (r, u) = f_Mo_sort σ) (fun u t => va_P D classes (Wm ty h u px) t.heap) (va_A (Wm ty h σ px) sz)) 0 0 (va_A (Wm ty h σ px) sz) := by
  refine Met.ofW (cc := b_Mo_sort) (maxL := 1) (ret := (some .int)) (by decide) rfl ?_
  intro p e s m args below meth c s₁ B hml hv
  obtain ⟨ha, hsz, hP, hK, hN, hM, hD0⟩ := hv
  have hx := B.exec
  have hb := B.bytes
  have hr := B.returns
  have hg : ∀ w ∈ gw, w.before args s = true := fun w h9 => atoms_spec (ws := w_Mo_sort) B.pre w (List.mem_cons_of_mem _ h9)
  have hown : s.vm.findClass "ClauseLedgerModel" = some m.cls := findClass_of_methodNamed B.named
  have hlocks := B.notSynchronized
  subst hsz
  have hD := hD0.self (sz := s.heap.size)
  generalize hAe : va_A (Wm ty h σ px) s.heap.size = A at hD hM ⊢
  have hA : ∀ q : Nat, s.heap.size ≤ q → A q := fun q h9 => by rw [← hAe]; exact Or.inr h9
  have hS : va_S A s.heap s.heap [] := va_S.rf
  have he : entryFrame m args 1 = entryFrame m ([.ref (h 0)] : List Value).toArray 1 := by rw [ha]
  rw [he, lg_entry_eq]
  have hl := lv_entry ([.ref (h 0)]) (n := 1) (Nat.le_of_ble_eq_true rfl)
  generalize (lg_sl ([.ref (h 0)]) ++ List.replicate (1 - (lg_sl ([.ref (h 0)])).length) Slot.unset).toArray = ls at hl ⊢
  have hl : lv_has ls 1 [(0, .ref (h 0))] := hl
  generalize hv : f_Mo_sort σ = v
  replace hv := hv.symm
  have B25 : ∀ (H : Heap) (locs : List Loc) (ls : Array Slot) (σ : St), v = f_Mo_sort_25 σ → k_Mo_sort_25 σ → lv_has ls 1 [(0, .ref (h 0))] → va_P D classes (Wm ty h σ px) H → va_D A (Wm ty h σ px) → va_S A s.heap H locs → W p l e (headSpec w_Mo_sort rm_Mo_sort).room s m args below meth c H locs 0 0 (MQ below (va_Qi (fun r (u : St) => (r, u) = v) (fun u t => va_P D classes (Wm ty h u px) t.heap) A) args s 0 0 A) (F0 m 25 ls []) := by
    intro H locs ls σ hv hk hl hP hD hS
    unfold f_Mo_sort_25 at hv
    unfold k_Mo_sort_25 at hk
    refine lv_aload_n hx hb d_Mo_sort_25 rfl (lv_at hl 0 rfl) ?_
    refine va_get (v := .int (σ.1 0 2)) (C := R_Mo) (T := T_Mo) (N := 51) hx hb hg in_Mo hown hK hP 0 rfl rfl 2 (by decide) (hg _ m_1261) (fun _ h9 => h9) rfl d_Mo_sort_26 ?_
    refine lv_iconst (v := 1) hx hb d_Mo_sort_29 (by decide) ?_
    refine lv_isub hx hb d_Mo_sort_30 ?_
    exact W.iret hx hb hr (fun t ht hW => ⟨⟨_, _, rfl, hv.symm, by dsimp only; rw [ht]; exact hP⟩, hS.F ht⟩) hS.2.2 d_Mo_sort_31
  have B5 : ∀ (H : Heap) (locs : List Loc) (ls : Array Slot) (σ : St), v = f_Mo_sort_5 σ → k_Mo_sort_5 σ → lv_has ls 1 [(0, .ref (h 0))] → va_P D classes (Wm ty h σ px) H → va_D A (Wm ty h σ px) → va_S A s.heap H locs → W p l e (headSpec w_Mo_sort rm_Mo_sort).room s m args below meth c H locs 0 0 (MQ below (va_Qi (fun r (u : St) => (r, u) = v) (fun u t => va_P D classes (Wm ty h u px) t.heap) A) args s 0 0 A) (F0 m 5 ls []) := by
    intro H locs ls σ hv hk hl hP hD hS
    unfold f_Mo_sort_5 at hv
    unfold k_Mo_sort_5 at hk
    refine lv_aload_n hx hb d_Mo_sort_5 rfl (lv_at hl 0 rfl) ?_
    refine va_get (v := .int (σ.1 0 2)) (C := R_Mo) (T := T_Mo) (N := 51) hx hb hg in_Mo hown hK hP 0 rfl rfl 2 (by decide) (hg _ m_1261) (fun _ h9 => h9) rfl d_Mo_sort_6 ?_
    refine lv_iconst (v := 5) hx hb d_Mo_sort_9 (by decide) ?_
    refine lv_icmp_ne (tgt := 15) hx hb d_Mo_sort_10 (by decide) (fun hc => ?_) (fun hc => ?_)
    · have hv := hv.trans (if_neg hc)
      have hk := hk.2 hc
      refine lv_aload_n hx hb d_Mo_sort_15 rfl (lv_at hl 0 rfl) ?_
      refine lv_dup hx hb d_Mo_sort_16 rfl ?_
      refine va_get (v := .int (σ.1 0 2)) (C := R_Mo) (T := T_Mo) (N := 51) hx hb hg in_Mo hown hK hP 0 rfl rfl 2 (by decide) (hg _ m_1261) (fun _ h9 => h9) rfl d_Mo_sort_17 ?_
      refine lv_iconst (v := 1) hx hb d_Mo_sort_20 (by decide) ?_
      refine lv_iadd hx hb d_Mo_sort_21 ?_
      refine va_put (v := .int ((σ.1 0 2) + 1)) (ty := .int) (C := R_Mo) (T := T_Mo) (N := 51) hx hb hg in_Mo ty_Mo ok_Mo nm_Mo hown hK hP hD hS 0 rfl rfl 2 (by decide) (hg _ m_1261) (fun _ h9 => h9) rfl (by decide +kernel) rfl rfl (Nat.le_of_ble_eq_true rfl) d_Mo_sort_22 (fun H locs hP hD hS => ?_)
      have hP : va_P D classes (Wm ty h (sF σ 0 2 ((σ.1 0 2) + 1)) px) H := hP
      have hD : va_D A (Wm ty h (sF σ 0 2 ((σ.1 0 2) + 1)) px) := hD
      exact B25 _ _ _  (sF σ 0 2 ((σ.1 0 2) + 1)) hv hk (lv_sub hl [0] rfl) hP hD hS
    · have hv := hv.trans (if_pos hc)
      have hk := hk.1 hc
      refine lv_iconst (v := -1) hx hb d_Mo_sort_13 (by decide) ?_
      exact W.iret hx hb hr (fun t ht hW => ⟨⟨_, _, rfl, hv.symm, by dsimp only; rw [ht]; exact hP⟩, hS.F ht⟩) hS.2.2 d_Mo_sort_14
  unfold f_Mo_sort at hv
  unfold k_Mo_sort at hk
  refine lv_aload_n hx hb d_Mo_sort_0 rfl (lv_at hl 0 rfl) ?_
  refine lv_iconst (v := 0) hx hb d_Mo_sort_1 (by decide) ?_
  refine va_put (v := .int 0) (ty := .int) (C := R_Mo) (T := T_Mo) (N := 51) hx hb hg in_Mo ty_Mo ok_Mo nm_Mo hown hK hP hD hS 0 rfl rfl 0 (by decide) (hg _ m_1259) (fun _ h9 => h9) rfl (by decide +kernel) rfl rfl (Nat.le_of_ble_eq_true rfl) d_Mo_sort_2 (fun H locs hP hD hS => ?_)
  have hP : va_P D classes (Wm ty h (sF σ 0 0 0) px) H := hP
  have hD : va_D A (Wm ty h (sF σ 0 0 0) px) := hD
  exact B5 _ _ _  (sF σ 0 0 0) hv hk (lv_sub hl [0] rfl) hP hD hS

-- ClauseLedgerModel.symbol(III)I
abbrev b_Mo_symbol : ByteArray := prog_14_method_4_code
def y_Mo_symbol : MethodName := ⟨"ClauseLedgerModel", "symbol", "(III)I"⟩
theorem hd_Mo_symbol : y_Mo_symbol.cls ≠ "java/lang/invoke/MethodHandle" ∧ y_Mo_symbol.cls ≠ "java/lang/invoke/VarHandle" ∧ (parseMethodDescriptor y_Mo_symbol.desc).map (fun d => d.parameters.length) = some 3 := by decide +kernel
theorem d_Mo_symbol_0 : decode b_Mo_symbol 0 = .ok (.aload_n 0, 1) := by decide +kernel
theorem d_Mo_symbol_1 : decode b_Mo_symbol 1 = .ok (.iconst 0, 1) := by decide +kernel
theorem d_Mo_symbol_2 : decode b_Mo_symbol 2 = .ok (.putfield 103, 3) := by decide +kernel
theorem d_Mo_symbol_5 : decode b_Mo_symbol 5 = .ok (.iload_n 1, 1) := by decide +kernel
theorem d_Mo_symbol_6 : decode b_Mo_symbol 6 = .ok (.ifCond .lt 56, 3) := by decide +kernel
theorem d_Mo_symbol_9 : decode b_Mo_symbol 9 = .ok (.iload_n 1, 1) := by decide +kernel
theorem d_Mo_symbol_10 : decode b_Mo_symbol 10 = .ok (.aload_n 0, 1) := by decide +kernel
theorem d_Mo_symbol_11 : decode b_Mo_symbol 11 = .ok (.getfield 7, 3) := by decide +kernel
theorem d_Mo_symbol_14 : decode b_Mo_symbol 14 = .ok (.if_icmp .ge 48, 3) := by decide +kernel
theorem d_Mo_symbol_17 : decode b_Mo_symbol 17 = .ok (.iload_n 2, 1) := by decide +kernel
theorem d_Mo_symbol_18 : decode b_Mo_symbol 18 = .ok (.iconst (-1), 1) := by decide +kernel
theorem d_Mo_symbol_19 : decode b_Mo_symbol 19 = .ok (.if_icmp .lt 43, 3) := by decide +kernel
theorem d_Mo_symbol_22 : decode b_Mo_symbol 22 = .ok (.iload_n 2, 1) := by decide +kernel
theorem d_Mo_symbol_23 : decode b_Mo_symbol 23 = .ok (.aload_n 0, 1) := by decide +kernel
theorem d_Mo_symbol_24 : decode b_Mo_symbol 24 = .ok (.getfield 7, 3) := by decide +kernel
theorem d_Mo_symbol_27 : decode b_Mo_symbol 27 = .ok (.if_icmp .ge 35, 3) := by decide +kernel
theorem d_Mo_symbol_30 : decode b_Mo_symbol 30 = .ok (.iload_n 3, 1) := by decide +kernel
theorem d_Mo_symbol_31 : decode b_Mo_symbol 31 = .ok (.iconst (-1), 1) := by decide +kernel
theorem d_Mo_symbol_32 : decode b_Mo_symbol 32 = .ok (.if_icmp .lt 30, 3) := by decide +kernel
theorem d_Mo_symbol_35 : decode b_Mo_symbol 35 = .ok (.iload_n 3, 1) := by decide +kernel
theorem d_Mo_symbol_36 : decode b_Mo_symbol 36 = .ok (.aload_n 0, 1) := by decide +kernel
theorem d_Mo_symbol_37 : decode b_Mo_symbol 37 = .ok (.getfield 7, 3) := by decide +kernel
theorem d_Mo_symbol_40 : decode b_Mo_symbol 40 = .ok (.if_icmp .ge 22, 3) := by decide +kernel
theorem d_Mo_symbol_43 : decode b_Mo_symbol 43 = .ok (.iload_n 2, 1) := by decide +kernel
theorem d_Mo_symbol_44 : decode b_Mo_symbol 44 = .ok (.iconst (-1), 1) := by decide +kernel
theorem d_Mo_symbol_45 : decode b_Mo_symbol 45 = .ok (.if_icmp .ne 8, 3) := by decide +kernel
theorem d_Mo_symbol_48 : decode b_Mo_symbol 48 = .ok (.iload_n 3, 1) := by decide +kernel
theorem d_Mo_symbol_49 : decode b_Mo_symbol 49 = .ok (.iconst (-1), 1) := by decide +kernel
theorem d_Mo_symbol_50 : decode b_Mo_symbol 50 = .ok (.if_icmp .ne 12, 3) := by decide +kernel
theorem d_Mo_symbol_53 : decode b_Mo_symbol 53 = .ok (.aload_n 0, 1) := by decide +kernel
theorem d_Mo_symbol_54 : decode b_Mo_symbol 54 = .ok (.getfield 106, 3) := by decide +kernel
theorem d_Mo_symbol_57 : decode b_Mo_symbol 57 = .ok (.bipush 12, 2) := by decide +kernel
theorem d_Mo_symbol_59 : decode b_Mo_symbol 59 = .ok (.if_icmp .ne 5, 3) := by decide +kernel
theorem d_Mo_symbol_62 : decode b_Mo_symbol 62 = .ok (.iconst (-1), 1) := by decide +kernel
theorem d_Mo_symbol_63 : decode b_Mo_symbol 63 = .ok (.ireturn, 1) := by decide +kernel
theorem d_Mo_symbol_64 : decode b_Mo_symbol 64 = .ok (.aload_n 0, 1) := by decide +kernel
theorem d_Mo_symbol_65 : decode b_Mo_symbol 65 = .ok (.getfield 13, 3) := by decide +kernel
theorem d_Mo_symbol_68 : decode b_Mo_symbol 68 = .ok (.aload_n 0, 1) := by decide +kernel
theorem d_Mo_symbol_69 : decode b_Mo_symbol 69 = .ok (.getfield 106, 3) := by decide +kernel
theorem d_Mo_symbol_72 : decode b_Mo_symbol 72 = .ok (.iload_n 1, 1) := by decide +kernel
theorem d_Mo_symbol_73 : decode b_Mo_symbol 73 = .ok (.iastore, 1) := by decide +kernel
theorem d_Mo_symbol_74 : decode b_Mo_symbol 74 = .ok (.aload_n 0, 1) := by decide +kernel
theorem d_Mo_symbol_75 : decode b_Mo_symbol 75 = .ok (.getfield 17, 3) := by decide +kernel
theorem d_Mo_symbol_78 : decode b_Mo_symbol 78 = .ok (.aload_n 0, 1) := by decide +kernel
theorem d_Mo_symbol_79 : decode b_Mo_symbol 79 = .ok (.getfield 106, 3) := by decide +kernel
theorem d_Mo_symbol_82 : decode b_Mo_symbol 82 = .ok (.iload_n 2, 1) := by decide +kernel
theorem d_Mo_symbol_83 : decode b_Mo_symbol 83 = .ok (.iastore, 1) := by decide +kernel
theorem d_Mo_symbol_84 : decode b_Mo_symbol 84 = .ok (.aload_n 0, 1) := by decide +kernel
theorem d_Mo_symbol_85 : decode b_Mo_symbol 85 = .ok (.getfield 20, 3) := by decide +kernel
theorem d_Mo_symbol_88 : decode b_Mo_symbol 88 = .ok (.aload_n 0, 1) := by decide +kernel
theorem d_Mo_symbol_89 : decode b_Mo_symbol 89 = .ok (.getfield 106, 3) := by decide +kernel
theorem d_Mo_symbol_92 : decode b_Mo_symbol 92 = .ok (.iload_n 3, 1) := by decide +kernel
theorem d_Mo_symbol_93 : decode b_Mo_symbol 93 = .ok (.iastore, 1) := by decide +kernel
theorem d_Mo_symbol_94 : decode b_Mo_symbol 94 = .ok (.aload_n 0, 1) := by decide +kernel
theorem d_Mo_symbol_95 : decode b_Mo_symbol 95 = .ok (.dup, 1) := by decide +kernel
theorem d_Mo_symbol_96 : decode b_Mo_symbol 96 = .ok (.getfield 106, 3) := by decide +kernel
theorem d_Mo_symbol_99 : decode b_Mo_symbol 99 = .ok (.iconst 1, 1) := by decide +kernel
theorem d_Mo_symbol_100 : decode b_Mo_symbol 100 = .ok (.iadd, 1) := by decide +kernel
theorem d_Mo_symbol_101 : decode b_Mo_symbol 101 = .ok (.putfield 106, 3) := by decide +kernel
theorem d_Mo_symbol_104 : decode b_Mo_symbol 104 = .ok (.aload_n 0, 1) := by decide +kernel
theorem d_Mo_symbol_105 : decode b_Mo_symbol 105 = .ok (.getfield 106, 3) := by decide +kernel
theorem d_Mo_symbol_108 : decode b_Mo_symbol 108 = .ok (.iconst 1, 1) := by decide +kernel
theorem d_Mo_symbol_109 : decode b_Mo_symbol 109 = .ok (.isub, 1) := by decide +kernel
theorem d_Mo_symbol_110 : decode b_Mo_symbol 110 = .ok (.ireturn, 1) := by decide +kernel
def f_Mo_symbol_62 (σ : St) : Int32 × St := ((-1), σ)
def k_Mo_symbol_62 (σ : St) : Prop := True
def f_Mo_symbol_104 (σ : St) : Int32 × St := ((σ.1 0 3) - 1, σ)
def k_Mo_symbol_104 (σ : St) : Prop := True
def f_Mo_symbol_94 (σ : St) : Int32 × St := f_Mo_symbol_104 (sF σ 0 3 ((σ.1 0 3) + 1))
def k_Mo_symbol_94 (σ : St) : Prop := k_Mo_symbol_104 (sF σ 0 3 ((σ.1 0 3) + 1))
def f_Mo_symbol_84 (x3 : Int32) (σ : St) : Int32 × St := f_Mo_symbol_94 (sA σ 3 (σ.1 0 3) x3)
def k_Mo_symbol_84 (x3 : Int32) (σ : St) : Prop := vp_in (σ.1 0 3) 12 ∧ (k_Mo_symbol_94 (sA σ 3 (σ.1 0 3) x3))
def f_Mo_symbol_74 (x2 : Int32) (x3 : Int32) (σ : St) : Int32 × St := f_Mo_symbol_84 x3 (sA σ 2 (σ.1 0 3) x2)
def k_Mo_symbol_74 (x2 : Int32) (x3 : Int32) (σ : St) : Prop := vp_in (σ.1 0 3) 12 ∧ (k_Mo_symbol_84 x3 (sA σ 2 (σ.1 0 3) x2))
def f_Mo_symbol_53 (x1 : Int32) (x2 : Int32) (x3 : Int32) (σ : St) : Int32 × St := if (σ.1 0 3) = 12 then (f_Mo_symbol_62 σ) else (f_Mo_symbol_74 x2 x3 (sA σ 1 (σ.1 0 3) x1))
def k_Mo_symbol_53 (x1 : Int32) (x2 : Int32) (x3 : Int32) (σ : St) : Prop := ((σ.1 0 3) = 12 → (k_Mo_symbol_62 σ)) ∧ (¬ (σ.1 0 3) = 12 → (vp_in (σ.1 0 3) 12 ∧ (k_Mo_symbol_74 x2 x3 (sA σ 1 (σ.1 0 3) x1))))
def f_Mo_symbol_5 (x1 : Int32) (x2 : Int32) (x3 : Int32) (σ : St) : Int32 × St := if x1 < 0 then (f_Mo_symbol_62 σ) else (if (σ.1 0 2) ≤ x1 then (f_Mo_symbol_62 σ) else (if x2 < (-1) then (f_Mo_symbol_62 σ) else (if (σ.1 0 2) ≤ x2 then (f_Mo_symbol_62 σ) else (if x3 < (-1) then (f_Mo_symbol_62 σ) else (if (σ.1 0 2) ≤ x3 then (f_Mo_symbol_62 σ) else (if x2 = (-1) then (if x3 = (-1) then (f_Mo_symbol_53 x1 x2 x3 σ) else (f_Mo_symbol_62 σ)) else (f_Mo_symbol_53 x1 x2 x3 σ)))))))
def k_Mo_symbol_5 (x1 : Int32) (x2 : Int32) (x3 : Int32) (σ : St) : Prop := (x1 < 0 → (k_Mo_symbol_62 σ)) ∧ (¬ x1 < 0 → (((σ.1 0 2) ≤ x1 → (k_Mo_symbol_62 σ)) ∧ (¬ (σ.1 0 2) ≤ x1 → ((x2 < (-1) → (k_Mo_symbol_62 σ)) ∧ (¬ x2 < (-1) → (((σ.1 0 2) ≤ x2 → (k_Mo_symbol_62 σ)) ∧ (¬ (σ.1 0 2) ≤ x2 → ((x3 < (-1) → (k_Mo_symbol_62 σ)) ∧ (¬ x3 < (-1) → (((σ.1 0 2) ≤ x3 → (k_Mo_symbol_62 σ)) ∧ (¬ (σ.1 0 2) ≤ x3 → ((x2 = (-1) → ((x3 = (-1) → (k_Mo_symbol_53 x1 x2 x3 σ)) ∧ (¬ x3 = (-1) → (k_Mo_symbol_62 σ)))) ∧ (¬ x2 = (-1) → (k_Mo_symbol_53 x1 x2 x3 σ))))))))))))))
def f_Mo_symbol (a1 : Int32) (a2 : Int32) (a3 : Int32) (σ : St) : Int32 × St := f_Mo_symbol_5 a1 a2 a3 (sF σ 0 0 0)
def k_Mo_symbol (a1 : Int32) (a2 : Int32) (a3 : Int32) (σ : St) : Prop := k_Mo_symbol_5 a1 a2 a3 (sF σ 0 0 0)
abbrev w_Mo_symbol : List Cond := Cond.code y_Mo_symbol b_Mo_symbol 4 (some .int) :: gw
abbrev rm_Mo_symbol : Room := { frames := 0, cells := 0, slots := 0, locals := 0 }
set_option maxHeartbeats 4000000 in
set_option maxRecDepth 100000 in
theorem c_Mo_symbol (l : Launch) (D : va_G) (ty : Nat → ClassId) (h : Nat → Nat) (px : va_W) (sa : Nat → Nat) (σ : St) (sz : Nat) (a1 : Int32) (a2 : Int32) (a3 : Int32) (hk : k_Mo_symbol a1 a2 a3 σ) : Met l y_Mo_symbol w_Mo_symbol rm_Mo_symbol (va_Pc [.ref (h 0), .int a1, .int a2, .int a3] (fun U => U.heap.size = sz ∧ va_P D classes (Wm ty h σ px) U.heap ∧ va_K D classes (Ta ty) U ∧ NW U ∧ MK sa (va_A (Wm ty h σ px) sz) U U.heap ∧ va_D (fun _ => True) (Wm ty h σ px))) (va_Qi (fun r (u : St) => (r, u) = f_Mo_symbol a1 a2 a3 σ) (fun u t => va_P D classes (Wm ty h u px) t.heap) (va_A (Wm ty h σ px) sz)) 0 0 (va_A (Wm ty h σ px) sz) := by
  refine Met.ofW (cc := b_Mo_symbol) (maxL := 4) (ret := (some .int)) (by decide) rfl ?_
  intro p e s m args below meth c s₁ B hml hv
  obtain ⟨ha, hsz, hP, hK, hN, hM, hD0⟩ := hv
  have hx := B.exec
  have hb := B.bytes
  have hr := B.returns
  have hg : ∀ w ∈ gw, w.before args s = true := fun w h9 => atoms_spec (ws := w_Mo_symbol) B.pre w (List.mem_cons_of_mem _ h9)
  have hown : s.vm.findClass "ClauseLedgerModel" = some m.cls := findClass_of_methodNamed B.named
  have hlocks := B.notSynchronized
  subst hsz
  have hD := hD0.self (sz := s.heap.size)
  generalize hAe : va_A (Wm ty h σ px) s.heap.size = A at hD hM ⊢
  have hA : ∀ q : Nat, s.heap.size ≤ q → A q := fun q h9 => by rw [← hAe]; exact Or.inr h9
  have hS : va_S A s.heap s.heap [] := va_S.rf
  have he : entryFrame m args 4 = entryFrame m ([.ref (h 0), .int a1, .int a2, .int a3] : List Value).toArray 4 := by rw [ha]
  rw [he, lg_entry_eq]
  have hl := lv_entry ([.ref (h 0), .int a1, .int a2, .int a3]) (n := 4) (Nat.le_of_ble_eq_true rfl)
  generalize (lg_sl ([.ref (h 0), .int a1, .int a2, .int a3]) ++ List.replicate (4 - (lg_sl ([.ref (h 0), .int a1, .int a2, .int a3])).length) Slot.unset).toArray = ls at hl ⊢
  have hl : lv_has ls 4 [(0, .ref (h 0)), (1, .int a1), (2, .int a2), (3, .int a3)] := hl
  generalize hv : f_Mo_symbol a1 a2 a3 σ = v
  replace hv := hv.symm
  have B62 : ∀ (H : Heap) (locs : List Loc) (ls : Array Slot) (σ : St), v = f_Mo_symbol_62 σ → k_Mo_symbol_62 σ → lv_has ls 4 [] → va_P D classes (Wm ty h σ px) H → va_D A (Wm ty h σ px) → va_S A s.heap H locs → W p l e (headSpec w_Mo_symbol rm_Mo_symbol).room s m args below meth c H locs 0 0 (MQ below (va_Qi (fun r (u : St) => (r, u) = v) (fun u t => va_P D classes (Wm ty h u px) t.heap) A) args s 0 0 A) (F0 m 62 ls []) := by
    intro H locs ls σ hv hk hl hP hD hS
    unfold f_Mo_symbol_62 at hv
    unfold k_Mo_symbol_62 at hk
    refine lv_iconst (v := -1) hx hb d_Mo_symbol_62 (by decide) ?_
    exact W.iret hx hb hr (fun t ht hW => ⟨⟨_, _, rfl, hv.symm, by dsimp only; rw [ht]; exact hP⟩, hS.F ht⟩) hS.2.2 d_Mo_symbol_63
  have B104 : ∀ (H : Heap) (locs : List Loc) (ls : Array Slot) (σ : St), v = f_Mo_symbol_104 σ → k_Mo_symbol_104 σ → lv_has ls 4 [(0, .ref (h 0))] → va_P D classes (Wm ty h σ px) H → va_D A (Wm ty h σ px) → va_S A s.heap H locs → W p l e (headSpec w_Mo_symbol rm_Mo_symbol).room s m args below meth c H locs 0 0 (MQ below (va_Qi (fun r (u : St) => (r, u) = v) (fun u t => va_P D classes (Wm ty h u px) t.heap) A) args s 0 0 A) (F0 m 104 ls []) := by
    intro H locs ls σ hv hk hl hP hD hS
    unfold f_Mo_symbol_104 at hv
    unfold k_Mo_symbol_104 at hk
    refine lv_aload_n hx hb d_Mo_symbol_104 rfl (lv_at hl 0 rfl) ?_
    refine va_get (v := .int (σ.1 0 3)) (C := R_Mo) (T := T_Mo) (N := 51) hx hb hg in_Mo hown hK hP 0 rfl rfl 3 (by decide) (hg _ m_1262) (fun _ h9 => h9) rfl d_Mo_symbol_105 ?_
    refine lv_iconst (v := 1) hx hb d_Mo_symbol_108 (by decide) ?_
    refine lv_isub hx hb d_Mo_symbol_109 ?_
    exact W.iret hx hb hr (fun t ht hW => ⟨⟨_, _, rfl, hv.symm, by dsimp only; rw [ht]; exact hP⟩, hS.F ht⟩) hS.2.2 d_Mo_symbol_110
  have B94 : ∀ (H : Heap) (locs : List Loc) (ls : Array Slot) (σ : St), v = f_Mo_symbol_94 σ → k_Mo_symbol_94 σ → lv_has ls 4 [(0, .ref (h 0))] → va_P D classes (Wm ty h σ px) H → va_D A (Wm ty h σ px) → va_S A s.heap H locs → W p l e (headSpec w_Mo_symbol rm_Mo_symbol).room s m args below meth c H locs 0 0 (MQ below (va_Qi (fun r (u : St) => (r, u) = v) (fun u t => va_P D classes (Wm ty h u px) t.heap) A) args s 0 0 A) (F0 m 94 ls []) := by
    intro H locs ls σ hv hk hl hP hD hS
    unfold f_Mo_symbol_94 at hv
    unfold k_Mo_symbol_94 at hk
    refine lv_aload_n hx hb d_Mo_symbol_94 rfl (lv_at hl 0 rfl) ?_
    refine lv_dup hx hb d_Mo_symbol_95 rfl ?_
    refine va_get (v := .int (σ.1 0 3)) (C := R_Mo) (T := T_Mo) (N := 51) hx hb hg in_Mo hown hK hP 0 rfl rfl 3 (by decide) (hg _ m_1262) (fun _ h9 => h9) rfl d_Mo_symbol_96 ?_
    refine lv_iconst (v := 1) hx hb d_Mo_symbol_99 (by decide) ?_
    refine lv_iadd hx hb d_Mo_symbol_100 ?_
    refine va_put (v := .int ((σ.1 0 3) + 1)) (ty := .int) (C := R_Mo) (T := T_Mo) (N := 51) hx hb hg in_Mo ty_Mo ok_Mo nm_Mo hown hK hP hD hS 0 rfl rfl 3 (by decide) (hg _ m_1262) (fun _ h9 => h9) rfl (by decide +kernel) rfl rfl (Nat.le_of_ble_eq_true rfl) d_Mo_symbol_101 (fun H locs hP hD hS => ?_)
    have hP : va_P D classes (Wm ty h (sF σ 0 3 ((σ.1 0 3) + 1)) px) H := hP
    have hD : va_D A (Wm ty h (sF σ 0 3 ((σ.1 0 3) + 1)) px) := hD
    exact B104 _ _ _  (sF σ 0 3 ((σ.1 0 3) + 1)) hv hk (lv_sub hl [0] rfl) hP hD hS
  have B84 : ∀ (H : Heap) (locs : List Loc) (ls : Array Slot) (x3 : Int32) (σ : St), v = f_Mo_symbol_84 x3 σ → k_Mo_symbol_84 x3 σ → lv_has ls 4 [(0, .ref (h 0)), (3, .int x3)] → va_P D classes (Wm ty h σ px) H → va_D A (Wm ty h σ px) → va_S A s.heap H locs → W p l e (headSpec w_Mo_symbol rm_Mo_symbol).room s m args below meth c H locs 0 0 (MQ below (va_Qi (fun r (u : St) => (r, u) = v) (fun u t => va_P D classes (Wm ty h u px) t.heap) A) args s 0 0 A) (F0 m 84 ls []) := by
    intro H locs ls x3 σ hv hk hl hP hD hS
    unfold f_Mo_symbol_84 at hv
    unfold k_Mo_symbol_84 at hk
    refine lv_aload_n hx hb d_Mo_symbol_84 rfl (lv_at hl 0 rfl) ?_
    refine va_get (v := .ref (h 3)) (C := R_Mo) (T := T_Mo) (N := 51) hx hb hg in_Mo hown hK hP 0 rfl rfl 6 (by decide) (hg _ m_1265) (fun _ h9 => h9) rfl d_Mo_symbol_85 ?_
    refine lv_aload_n hx hb d_Mo_symbol_88 rfl (lv_at hl 0 rfl) ?_
    refine va_get (v := .int (σ.1 0 3)) (C := R_Mo) (T := T_Mo) (N := 51) hx hb hg in_Mo hown hK hP 0 rfl rfl 3 (by decide) (hg _ m_1262) (fun _ h9 => h9) rfl d_Mo_symbol_89 ?_
    refine lv_iload_n hx hb d_Mo_symbol_92 rfl (lv_at hl 1 rfl) ?_
    obtain ⟨hk0, hk⟩ := hk
    refine va_iast hx hb hK hP hD hS 3 0 rfl rfl hk0 d_Mo_symbol_93 (fun H locs hP hD hS => ?_)
    have hP : va_P D classes (Wm ty h (sA σ 3 (σ.1 0 3) x3) px) H := hP
    have hD : va_D A (Wm ty h (sA σ 3 (σ.1 0 3) x3) px) := hD
    exact B94 _ _ _  (sA σ 3 (σ.1 0 3) x3) hv hk (lv_sub hl [0] rfl) hP hD hS
  have B74 : ∀ (H : Heap) (locs : List Loc) (ls : Array Slot) (x2 : Int32) (x3 : Int32) (σ : St), v = f_Mo_symbol_74 x2 x3 σ → k_Mo_symbol_74 x2 x3 σ → lv_has ls 4 [(0, .ref (h 0)), (2, .int x2), (3, .int x3)] → va_P D classes (Wm ty h σ px) H → va_D A (Wm ty h σ px) → va_S A s.heap H locs → W p l e (headSpec w_Mo_symbol rm_Mo_symbol).room s m args below meth c H locs 0 0 (MQ below (va_Qi (fun r (u : St) => (r, u) = v) (fun u t => va_P D classes (Wm ty h u px) t.heap) A) args s 0 0 A) (F0 m 74 ls []) := by
    intro H locs ls x2 x3 σ hv hk hl hP hD hS
    unfold f_Mo_symbol_74 at hv
    unfold k_Mo_symbol_74 at hk
    refine lv_aload_n hx hb d_Mo_symbol_74 rfl (lv_at hl 0 rfl) ?_
    refine va_get (v := .ref (h 2)) (C := R_Mo) (T := T_Mo) (N := 51) hx hb hg in_Mo hown hK hP 0 rfl rfl 5 (by decide) (hg _ m_1264) (fun _ h9 => h9) rfl d_Mo_symbol_75 ?_
    refine lv_aload_n hx hb d_Mo_symbol_78 rfl (lv_at hl 0 rfl) ?_
    refine va_get (v := .int (σ.1 0 3)) (C := R_Mo) (T := T_Mo) (N := 51) hx hb hg in_Mo hown hK hP 0 rfl rfl 3 (by decide) (hg _ m_1262) (fun _ h9 => h9) rfl d_Mo_symbol_79 ?_
    refine lv_iload_n hx hb d_Mo_symbol_82 rfl (lv_at hl 1 rfl) ?_
    obtain ⟨hk0, hk⟩ := hk
    refine va_iast hx hb hK hP hD hS 2 0 rfl rfl hk0 d_Mo_symbol_83 (fun H locs hP hD hS => ?_)
    have hP : va_P D classes (Wm ty h (sA σ 2 (σ.1 0 3) x2) px) H := hP
    have hD : va_D A (Wm ty h (sA σ 2 (σ.1 0 3) x2) px) := hD
    exact B84 _ _ _ x3 (sA σ 2 (σ.1 0 3) x2) hv hk (lv_sub hl [0, 2] rfl) hP hD hS
  have B53 : ∀ (H : Heap) (locs : List Loc) (ls : Array Slot) (x1 : Int32) (x2 : Int32) (x3 : Int32) (σ : St), v = f_Mo_symbol_53 x1 x2 x3 σ → k_Mo_symbol_53 x1 x2 x3 σ → lv_has ls 4 [(0, .ref (h 0)), (1, .int x1), (2, .int x2), (3, .int x3)] → va_P D classes (Wm ty h σ px) H → va_D A (Wm ty h σ px) → va_S A s.heap H locs → W p l e (headSpec w_Mo_symbol rm_Mo_symbol).room s m args below meth c H locs 0 0 (MQ below (va_Qi (fun r (u : St) => (r, u) = v) (fun u t => va_P D classes (Wm ty h u px) t.heap) A) args s 0 0 A) (F0 m 53 ls []) := by
    intro H locs ls x1 x2 x3 σ hv hk hl hP hD hS
    unfold f_Mo_symbol_53 at hv
    unfold k_Mo_symbol_53 at hk
    refine lv_aload_n hx hb d_Mo_symbol_53 rfl (lv_at hl 0 rfl) ?_
    refine va_get (v := .int (σ.1 0 3)) (C := R_Mo) (T := T_Mo) (N := 51) hx hb hg in_Mo hown hK hP 0 rfl rfl 3 (by decide) (hg _ m_1262) (fun _ h9 => h9) rfl d_Mo_symbol_54 ?_
    refine lv_bipush (v := 12) hx hb d_Mo_symbol_57 (by decide) ?_
    refine lv_icmp_ne (tgt := 64) hx hb d_Mo_symbol_59 (by decide) (fun hc => ?_) (fun hc => ?_)
    · have hv := hv.trans (if_neg hc)
      have hk := hk.2 hc
      refine lv_aload_n hx hb d_Mo_symbol_64 rfl (lv_at hl 0 rfl) ?_
      refine va_get (v := .ref (h 1)) (C := R_Mo) (T := T_Mo) (N := 51) hx hb hg in_Mo hown hK hP 0 rfl rfl 4 (by decide) (hg _ m_1263) (fun _ h9 => h9) rfl d_Mo_symbol_65 ?_
      refine lv_aload_n hx hb d_Mo_symbol_68 rfl (lv_at hl 0 rfl) ?_
      refine va_get (v := .int (σ.1 0 3)) (C := R_Mo) (T := T_Mo) (N := 51) hx hb hg in_Mo hown hK hP 0 rfl rfl 3 (by decide) (hg _ m_1262) (fun _ h9 => h9) rfl d_Mo_symbol_69 ?_
      refine lv_iload_n hx hb d_Mo_symbol_72 rfl (lv_at hl 1 rfl) ?_
      obtain ⟨hk0, hk⟩ := hk
      refine va_iast hx hb hK hP hD hS 1 0 rfl rfl hk0 d_Mo_symbol_73 (fun H locs hP hD hS => ?_)
      have hP : va_P D classes (Wm ty h (sA σ 1 (σ.1 0 3) x1) px) H := hP
      have hD : va_D A (Wm ty h (sA σ 1 (σ.1 0 3) x1) px) := hD
      exact B74 _ _ _ x2 x3 (sA σ 1 (σ.1 0 3) x1) hv hk (lv_sub hl [0, 2, 3] rfl) hP hD hS
    · have hv := hv.trans (if_pos hc)
      have hk := hk.1 hc
      exact B62 _ _ _  σ hv hk (lv_sub hl [] rfl) hP hD hS
  have B5 : ∀ (H : Heap) (locs : List Loc) (ls : Array Slot) (x1 : Int32) (x2 : Int32) (x3 : Int32) (σ : St), v = f_Mo_symbol_5 x1 x2 x3 σ → k_Mo_symbol_5 x1 x2 x3 σ → lv_has ls 4 [(0, .ref (h 0)), (1, .int x1), (2, .int x2), (3, .int x3)] → va_P D classes (Wm ty h σ px) H → va_D A (Wm ty h σ px) → va_S A s.heap H locs → W p l e (headSpec w_Mo_symbol rm_Mo_symbol).room s m args below meth c H locs 0 0 (MQ below (va_Qi (fun r (u : St) => (r, u) = v) (fun u t => va_P D classes (Wm ty h u px) t.heap) A) args s 0 0 A) (F0 m 5 ls []) := by
    intro H locs ls x1 x2 x3 σ hv hk hl hP hD hS
    unfold f_Mo_symbol_5 at hv
    unfold k_Mo_symbol_5 at hk
    refine lv_iload_n hx hb d_Mo_symbol_5 rfl (lv_at hl 1 rfl) ?_
    refine lv_if_lt (tgt := 62) hx hb d_Mo_symbol_6 (by decide) (fun hc => ?_) (fun hc => ?_)
    · have hv := hv.trans (if_pos hc)
      have hk := hk.1 hc
      exact B62 _ _ _  σ hv hk (lv_sub hl [] rfl) hP hD hS
    · have hv := hv.trans (if_neg hc)
      have hk := hk.2 hc
      refine lv_iload_n hx hb d_Mo_symbol_9 rfl (lv_at hl 1 rfl) ?_
      refine lv_aload_n hx hb d_Mo_symbol_10 rfl (lv_at hl 0 rfl) ?_
      refine va_get (v := .int (σ.1 0 2)) (C := R_Mo) (T := T_Mo) (N := 51) hx hb hg in_Mo hown hK hP 0 rfl rfl 2 (by decide) (hg _ m_1261) (fun _ h9 => h9) rfl d_Mo_symbol_11 ?_
      refine lv_icmp_ge (tgt := 62) hx hb d_Mo_symbol_14 (by decide) (fun hc => ?_) (fun hc => ?_)
      · have hv := hv.trans (if_pos hc)
        have hk := hk.1 hc
        exact B62 _ _ _  σ hv hk (lv_sub hl [] rfl) hP hD hS
      · have hv := hv.trans (if_neg hc)
        have hk := hk.2 hc
        refine lv_iload_n hx hb d_Mo_symbol_17 rfl (lv_at hl 2 rfl) ?_
        refine lv_iconst (v := -1) hx hb d_Mo_symbol_18 (by decide) ?_
        refine lv_icmp_lt (tgt := 62) hx hb d_Mo_symbol_19 (by decide) (fun hc => ?_) (fun hc => ?_)
        · have hv := hv.trans (if_pos hc)
          have hk := hk.1 hc
          exact B62 _ _ _  σ hv hk (lv_sub hl [] rfl) hP hD hS
        · have hv := hv.trans (if_neg hc)
          have hk := hk.2 hc
          refine lv_iload_n hx hb d_Mo_symbol_22 rfl (lv_at hl 2 rfl) ?_
          refine lv_aload_n hx hb d_Mo_symbol_23 rfl (lv_at hl 0 rfl) ?_
          refine va_get (v := .int (σ.1 0 2)) (C := R_Mo) (T := T_Mo) (N := 51) hx hb hg in_Mo hown hK hP 0 rfl rfl 2 (by decide) (hg _ m_1261) (fun _ h9 => h9) rfl d_Mo_symbol_24 ?_
          refine lv_icmp_ge (tgt := 62) hx hb d_Mo_symbol_27 (by decide) (fun hc => ?_) (fun hc => ?_)
          · have hv := hv.trans (if_pos hc)
            have hk := hk.1 hc
            exact B62 _ _ _  σ hv hk (lv_sub hl [] rfl) hP hD hS
          · have hv := hv.trans (if_neg hc)
            have hk := hk.2 hc
            refine lv_iload_n hx hb d_Mo_symbol_30 rfl (lv_at hl 3 rfl) ?_
            refine lv_iconst (v := -1) hx hb d_Mo_symbol_31 (by decide) ?_
            refine lv_icmp_lt (tgt := 62) hx hb d_Mo_symbol_32 (by decide) (fun hc => ?_) (fun hc => ?_)
            · have hv := hv.trans (if_pos hc)
              have hk := hk.1 hc
              exact B62 _ _ _  σ hv hk (lv_sub hl [] rfl) hP hD hS
            · have hv := hv.trans (if_neg hc)
              have hk := hk.2 hc
              refine lv_iload_n hx hb d_Mo_symbol_35 rfl (lv_at hl 3 rfl) ?_
              refine lv_aload_n hx hb d_Mo_symbol_36 rfl (lv_at hl 0 rfl) ?_
              refine va_get (v := .int (σ.1 0 2)) (C := R_Mo) (T := T_Mo) (N := 51) hx hb hg in_Mo hown hK hP 0 rfl rfl 2 (by decide) (hg _ m_1261) (fun _ h9 => h9) rfl d_Mo_symbol_37 ?_
              refine lv_icmp_ge (tgt := 62) hx hb d_Mo_symbol_40 (by decide) (fun hc => ?_) (fun hc => ?_)
              · have hv := hv.trans (if_pos hc)
                have hk := hk.1 hc
                exact B62 _ _ _  σ hv hk (lv_sub hl [] rfl) hP hD hS
              · have hv := hv.trans (if_neg hc)
                have hk := hk.2 hc
                refine lv_iload_n hx hb d_Mo_symbol_43 rfl (lv_at hl 2 rfl) ?_
                refine lv_iconst (v := -1) hx hb d_Mo_symbol_44 (by decide) ?_
                refine lv_icmp_ne (tgt := 53) hx hb d_Mo_symbol_45 (by decide) (fun hc => ?_) (fun hc => ?_)
                · have hv := hv.trans (if_neg hc)
                  have hk := hk.2 hc
                  exact B53 _ _ _ x1 x2 x3 σ hv hk (lv_sub hl [0, 1, 2, 3] rfl) hP hD hS
                · have hv := hv.trans (if_pos hc)
                  have hk := hk.1 hc
                  refine lv_iload_n hx hb d_Mo_symbol_48 rfl (lv_at hl 3 rfl) ?_
                  refine lv_iconst (v := -1) hx hb d_Mo_symbol_49 (by decide) ?_
                  refine lv_icmp_ne (tgt := 62) hx hb d_Mo_symbol_50 (by decide) (fun hc => ?_) (fun hc => ?_)
                  · have hv := hv.trans (if_neg hc)
                    have hk := hk.2 hc
                    exact B62 _ _ _  σ hv hk (lv_sub hl [] rfl) hP hD hS
                  · have hv := hv.trans (if_pos hc)
                    have hk := hk.1 hc
                    exact B53 _ _ _ x1 x2 x3 σ hv hk (lv_sub hl [0, 1, 2, 3] rfl) hP hD hS
  unfold f_Mo_symbol at hv
  unfold k_Mo_symbol at hk
  refine lv_aload_n hx hb d_Mo_symbol_0 rfl (lv_at hl 0 rfl) ?_
  refine lv_iconst (v := 0) hx hb d_Mo_symbol_1 (by decide) ?_
  refine va_put (v := .int 0) (ty := .int) (C := R_Mo) (T := T_Mo) (N := 51) hx hb hg in_Mo ty_Mo ok_Mo nm_Mo hown hK hP hD hS 0 rfl rfl 0 (by decide) (hg _ m_1259) (fun _ h9 => h9) rfl (by decide +kernel) rfl rfl (Nat.le_of_ble_eq_true rfl) d_Mo_symbol_2 (fun H locs hP hD hS => ?_)
  have hP : va_P D classes (Wm ty h (sF σ 0 0 0) px) H := hP
  have hD : va_D A (Wm ty h (sF σ 0 0 0) px) := hD
  exact B5 _ _ _ a1 a2 a3 (sF σ 0 0 0) hv hk (lv_sub hl [0, 1, 2, 3] rfl) hP hD hS

-- ClauseLedgerModel.variable(II)Z
abbrev b_Mo_variable : ByteArray := prog_14_method_5_code
def y_Mo_variable : MethodName := ⟨"ClauseLedgerModel", "variable", "(II)Z"⟩
theorem hd_Mo_variable : y_Mo_variable.cls ≠ "java/lang/invoke/MethodHandle" ∧ y_Mo_variable.cls ≠ "java/lang/invoke/VarHandle" ∧ (parseMethodDescriptor y_Mo_variable.desc).map (fun d => d.parameters.length) = some 2 := by decide +kernel
theorem d_Mo_variable_0 : decode b_Mo_variable 0 = .ok (.aload_n 0, 1) := by decide +kernel
theorem d_Mo_variable_1 : decode b_Mo_variable 1 = .ok (.iconst 0, 1) := by decide +kernel
theorem d_Mo_variable_2 : decode b_Mo_variable 2 = .ok (.putfield 103, 3) := by decide +kernel
theorem d_Mo_variable_5 : decode b_Mo_variable 5 = .ok (.iload_n 1, 1) := by decide +kernel
theorem d_Mo_variable_6 : decode b_Mo_variable 6 = .ok (.ifCond .lt 27, 3) := by decide +kernel
theorem d_Mo_variable_9 : decode b_Mo_variable 9 = .ok (.iload_n 1, 1) := by decide +kernel
theorem d_Mo_variable_10 : decode b_Mo_variable 10 = .ok (.iconst 2, 1) := by decide +kernel
theorem d_Mo_variable_11 : decode b_Mo_variable 11 = .ok (.if_icmp .gt 22, 3) := by decide +kernel
theorem d_Mo_variable_14 : decode b_Mo_variable 14 = .ok (.iload_n 2, 1) := by decide +kernel
theorem d_Mo_variable_15 : decode b_Mo_variable 15 = .ok (.ifCond .lt 18, 3) := by decide +kernel
theorem d_Mo_variable_18 : decode b_Mo_variable 18 = .ok (.iload_n 2, 1) := by decide +kernel
theorem d_Mo_variable_19 : decode b_Mo_variable 19 = .ok (.aload_n 0, 1) := by decide +kernel
theorem d_Mo_variable_20 : decode b_Mo_variable 20 = .ok (.getfield 7, 3) := by decide +kernel
theorem d_Mo_variable_23 : decode b_Mo_variable 23 = .ok (.if_icmp .ge 10, 3) := by decide +kernel
theorem d_Mo_variable_26 : decode b_Mo_variable 26 = .ok (.aload_n 0, 1) := by decide +kernel
theorem d_Mo_variable_27 : decode b_Mo_variable 27 = .ok (.getfield 109, 3) := by decide +kernel
theorem d_Mo_variable_30 : decode b_Mo_variable 30 = .ok (.ifCond .le 5, 3) := by decide +kernel
theorem d_Mo_variable_33 : decode b_Mo_variable 33 = .ok (.iconst 0, 1) := by decide +kernel
theorem d_Mo_variable_34 : decode b_Mo_variable 34 = .ok (.ireturn, 1) := by decide +kernel
theorem d_Mo_variable_35 : decode b_Mo_variable 35 = .ok (.aload_n 0, 1) := by decide +kernel
theorem d_Mo_variable_36 : decode b_Mo_variable 36 = .ok (.getfield 23, 3) := by decide +kernel
theorem d_Mo_variable_39 : decode b_Mo_variable 39 = .ok (.iload_n 1, 1) := by decide +kernel
theorem d_Mo_variable_40 : decode b_Mo_variable 40 = .ok (.iload_n 2, 1) := by decide +kernel
theorem d_Mo_variable_41 : decode b_Mo_variable 41 = .ok (.iastore, 1) := by decide +kernel
theorem d_Mo_variable_42 : decode b_Mo_variable 42 = .ok (.iconst 1, 1) := by decide +kernel
theorem d_Mo_variable_43 : decode b_Mo_variable 43 = .ok (.ireturn, 1) := by decide +kernel
def f_Mo_variable_33 (σ : St) : Int32 × St := (0, σ)
def k_Mo_variable_33 (σ : St) : Prop := True
def f_Mo_variable_42 (σ : St) : Int32 × St := (1, σ)
def k_Mo_variable_42 (σ : St) : Prop := True
def f_Mo_variable_5 (x1 : Int32) (x2 : Int32) (σ : St) : Int32 × St := if x1 < 0 then (f_Mo_variable_33 σ) else (if 2 < x1 then (f_Mo_variable_33 σ) else (if x2 < 0 then (f_Mo_variable_33 σ) else (if (σ.1 0 2) ≤ x2 then (f_Mo_variable_33 σ) else (if (σ.1 0 8) ≤ 0 then (f_Mo_variable_42 (sA σ 4 x1 x2)) else (f_Mo_variable_33 σ)))))
def k_Mo_variable_5 (x1 : Int32) (x2 : Int32) (σ : St) : Prop := (x1 < 0 → (k_Mo_variable_33 σ)) ∧ (¬ x1 < 0 → ((2 < x1 → (k_Mo_variable_33 σ)) ∧ (¬ 2 < x1 → ((x2 < 0 → (k_Mo_variable_33 σ)) ∧ (¬ x2 < 0 → (((σ.1 0 2) ≤ x2 → (k_Mo_variable_33 σ)) ∧ (¬ (σ.1 0 2) ≤ x2 → (((σ.1 0 8) ≤ 0 → (vp_in x1 3 ∧ (k_Mo_variable_42 (sA σ 4 x1 x2)))) ∧ (¬ (σ.1 0 8) ≤ 0 → (k_Mo_variable_33 σ))))))))))
def f_Mo_variable (a1 : Int32) (a2 : Int32) (σ : St) : Int32 × St := f_Mo_variable_5 a1 a2 (sF σ 0 0 0)
def k_Mo_variable (a1 : Int32) (a2 : Int32) (σ : St) : Prop := k_Mo_variable_5 a1 a2 (sF σ 0 0 0)
abbrev w_Mo_variable : List Cond := Cond.code y_Mo_variable b_Mo_variable 3 (some .boolean) :: gw
abbrev rm_Mo_variable : Room := { frames := 0, cells := 0, slots := 0, locals := 0 }
set_option maxHeartbeats 4000000 in
set_option maxRecDepth 100000 in
theorem c_Mo_variable (l : Launch) (D : va_G) (ty : Nat → ClassId) (h : Nat → Nat) (px : va_W) (sa : Nat → Nat) (σ : St) (sz : Nat) (a1 : Int32) (a2 : Int32) (hk : k_Mo_variable a1 a2 σ) : Met l y_Mo_variable w_Mo_variable rm_Mo_variable (va_Pc [.ref (h 0), .int a1, .int a2] (fun U => U.heap.size = sz ∧ va_P D classes (Wm ty h σ px) U.heap ∧ va_K D classes (Ta ty) U ∧ NW U ∧ MK sa (va_A (Wm ty h σ px) sz) U U.heap ∧ va_D (fun _ => True) (Wm ty h σ px))) (va_Qi (fun r (u : St) => (r, u) = f_Mo_variable a1 a2 σ) (fun u t => va_P D classes (Wm ty h u px) t.heap) (va_A (Wm ty h σ px) sz)) 0 0 (va_A (Wm ty h σ px) sz) := by
  refine Met.ofW (cc := b_Mo_variable) (maxL := 3) (ret := (some .boolean)) (by decide) rfl ?_
  intro p e s m args below meth c s₁ B hml hv
  obtain ⟨ha, hsz, hP, hK, hN, hM, hD0⟩ := hv
  have hx := B.exec
  have hb := B.bytes
  have hr := B.returns
  have hg : ∀ w ∈ gw, w.before args s = true := fun w h9 => atoms_spec (ws := w_Mo_variable) B.pre w (List.mem_cons_of_mem _ h9)
  have hown : s.vm.findClass "ClauseLedgerModel" = some m.cls := findClass_of_methodNamed B.named
  have hlocks := B.notSynchronized
  subst hsz
  have hD := hD0.self (sz := s.heap.size)
  generalize hAe : va_A (Wm ty h σ px) s.heap.size = A at hD hM ⊢
  have hA : ∀ q : Nat, s.heap.size ≤ q → A q := fun q h9 => by rw [← hAe]; exact Or.inr h9
  have hS : va_S A s.heap s.heap [] := va_S.rf
  have he : entryFrame m args 3 = entryFrame m ([.ref (h 0), .int a1, .int a2] : List Value).toArray 3 := by rw [ha]
  rw [he, lg_entry_eq]
  have hl := lv_entry ([.ref (h 0), .int a1, .int a2]) (n := 3) (Nat.le_of_ble_eq_true rfl)
  generalize (lg_sl ([.ref (h 0), .int a1, .int a2]) ++ List.replicate (3 - (lg_sl ([.ref (h 0), .int a1, .int a2])).length) Slot.unset).toArray = ls at hl ⊢
  have hl : lv_has ls 3 [(0, .ref (h 0)), (1, .int a1), (2, .int a2)] := hl
  generalize hv : f_Mo_variable a1 a2 σ = v
  replace hv := hv.symm
  have B33 : ∀ (H : Heap) (locs : List Loc) (ls : Array Slot) (σ : St), v = f_Mo_variable_33 σ → k_Mo_variable_33 σ → lv_has ls 3 [] → va_P D classes (Wm ty h σ px) H → va_D A (Wm ty h σ px) → va_S A s.heap H locs → W p l e (headSpec w_Mo_variable rm_Mo_variable).room s m args below meth c H locs 0 0 (MQ below (va_Qi (fun r (u : St) => (r, u) = v) (fun u t => va_P D classes (Wm ty h u px) t.heap) A) args s 0 0 A) (F0 m 33 ls []) := by
    intro H locs ls σ hv hk hl hP hD hS
    unfold f_Mo_variable_33 at hv
    unfold k_Mo_variable_33 at hk
    refine lv_iconst (v := 0) hx hb d_Mo_variable_33 (by decide) ?_
    exact W.zret hx hb hr rfl (fun t ht hW => ⟨⟨_, _, rfl, hv.symm, by dsimp only; rw [ht]; exact hP⟩, hS.F ht⟩) hS.2.2 d_Mo_variable_34
  have B42 : ∀ (H : Heap) (locs : List Loc) (ls : Array Slot) (σ : St), v = f_Mo_variable_42 σ → k_Mo_variable_42 σ → lv_has ls 3 [] → va_P D classes (Wm ty h σ px) H → va_D A (Wm ty h σ px) → va_S A s.heap H locs → W p l e (headSpec w_Mo_variable rm_Mo_variable).room s m args below meth c H locs 0 0 (MQ below (va_Qi (fun r (u : St) => (r, u) = v) (fun u t => va_P D classes (Wm ty h u px) t.heap) A) args s 0 0 A) (F0 m 42 ls []) := by
    intro H locs ls σ hv hk hl hP hD hS
    unfold f_Mo_variable_42 at hv
    unfold k_Mo_variable_42 at hk
    refine lv_iconst (v := 1) hx hb d_Mo_variable_42 (by decide) ?_
    exact W.zret hx hb hr rfl (fun t ht hW => ⟨⟨_, _, rfl, hv.symm, by dsimp only; rw [ht]; exact hP⟩, hS.F ht⟩) hS.2.2 d_Mo_variable_43
  have B5 : ∀ (H : Heap) (locs : List Loc) (ls : Array Slot) (x1 : Int32) (x2 : Int32) (σ : St), v = f_Mo_variable_5 x1 x2 σ → k_Mo_variable_5 x1 x2 σ → lv_has ls 3 [(0, .ref (h 0)), (1, .int x1), (2, .int x2)] → va_P D classes (Wm ty h σ px) H → va_D A (Wm ty h σ px) → va_S A s.heap H locs → W p l e (headSpec w_Mo_variable rm_Mo_variable).room s m args below meth c H locs 0 0 (MQ below (va_Qi (fun r (u : St) => (r, u) = v) (fun u t => va_P D classes (Wm ty h u px) t.heap) A) args s 0 0 A) (F0 m 5 ls []) := by
    intro H locs ls x1 x2 σ hv hk hl hP hD hS
    unfold f_Mo_variable_5 at hv
    unfold k_Mo_variable_5 at hk
    refine lv_iload_n hx hb d_Mo_variable_5 rfl (lv_at hl 1 rfl) ?_
    refine lv_if_lt (tgt := 33) hx hb d_Mo_variable_6 (by decide) (fun hc => ?_) (fun hc => ?_)
    · have hv := hv.trans (if_pos hc)
      have hk := hk.1 hc
      exact B33 _ _ _  σ hv hk (lv_sub hl [] rfl) hP hD hS
    · have hv := hv.trans (if_neg hc)
      have hk := hk.2 hc
      refine lv_iload_n hx hb d_Mo_variable_9 rfl (lv_at hl 1 rfl) ?_
      refine lv_iconst (v := 2) hx hb d_Mo_variable_10 (by decide) ?_
      refine lv_icmp_gt (tgt := 33) hx hb d_Mo_variable_11 (by decide) (fun hc => ?_) (fun hc => ?_)
      · have hv := hv.trans (if_pos hc)
        have hk := hk.1 hc
        exact B33 _ _ _  σ hv hk (lv_sub hl [] rfl) hP hD hS
      · have hv := hv.trans (if_neg hc)
        have hk := hk.2 hc
        refine lv_iload_n hx hb d_Mo_variable_14 rfl (lv_at hl 2 rfl) ?_
        refine lv_if_lt (tgt := 33) hx hb d_Mo_variable_15 (by decide) (fun hc => ?_) (fun hc => ?_)
        · have hv := hv.trans (if_pos hc)
          have hk := hk.1 hc
          exact B33 _ _ _  σ hv hk (lv_sub hl [] rfl) hP hD hS
        · have hv := hv.trans (if_neg hc)
          have hk := hk.2 hc
          refine lv_iload_n hx hb d_Mo_variable_18 rfl (lv_at hl 2 rfl) ?_
          refine lv_aload_n hx hb d_Mo_variable_19 rfl (lv_at hl 0 rfl) ?_
          refine va_get (v := .int (σ.1 0 2)) (C := R_Mo) (T := T_Mo) (N := 51) hx hb hg in_Mo hown hK hP 0 rfl rfl 2 (by decide) (hg _ m_1261) (fun _ h9 => h9) rfl d_Mo_variable_20 ?_
          refine lv_icmp_ge (tgt := 33) hx hb d_Mo_variable_23 (by decide) (fun hc => ?_) (fun hc => ?_)
          · have hv := hv.trans (if_pos hc)
            have hk := hk.1 hc
            exact B33 _ _ _  σ hv hk (lv_sub hl [] rfl) hP hD hS
          · have hv := hv.trans (if_neg hc)
            have hk := hk.2 hc
            refine lv_aload_n hx hb d_Mo_variable_26 rfl (lv_at hl 0 rfl) ?_
            refine va_get (v := .int (σ.1 0 8)) (C := R_Mo) (T := T_Mo) (N := 51) hx hb hg in_Mo hown hK hP 0 rfl rfl 8 (by decide) (hg _ m_1267) (fun _ h9 => h9) rfl d_Mo_variable_27 ?_
            refine lv_if_le (tgt := 35) hx hb d_Mo_variable_30 (by decide) (fun hc => ?_) (fun hc => ?_)
            · have hv := hv.trans (if_pos hc)
              have hk := hk.1 hc
              refine lv_aload_n hx hb d_Mo_variable_35 rfl (lv_at hl 0 rfl) ?_
              refine va_get (v := .ref (h 4)) (C := R_Mo) (T := T_Mo) (N := 51) hx hb hg in_Mo hown hK hP 0 rfl rfl 7 (by decide) (hg _ m_1266) (fun _ h9 => h9) rfl d_Mo_variable_36 ?_
              refine lv_iload_n hx hb d_Mo_variable_39 rfl (lv_at hl 1 rfl) ?_
              refine lv_iload_n hx hb d_Mo_variable_40 rfl (lv_at hl 2 rfl) ?_
              obtain ⟨hk0, hk⟩ := hk
              refine va_iast hx hb hK hP hD hS 4 0 rfl rfl hk0 d_Mo_variable_41 (fun H locs hP hD hS => ?_)
              have hP : va_P D classes (Wm ty h (sA σ 4 x1 x2) px) H := hP
              have hD : va_D A (Wm ty h (sA σ 4 x1 x2) px) := hD
              exact B42 _ _ _  (sA σ 4 x1 x2) hv hk (lv_sub hl [] rfl) hP hD hS
            · have hv := hv.trans (if_neg hc)
              have hk := hk.2 hc
              exact B33 _ _ _  σ hv hk (lv_sub hl [] rfl) hP hD hS
  unfold f_Mo_variable at hv
  unfold k_Mo_variable at hk
  refine lv_aload_n hx hb d_Mo_variable_0 rfl (lv_at hl 0 rfl) ?_
  refine lv_iconst (v := 0) hx hb d_Mo_variable_1 (by decide) ?_
  refine va_put (v := .int 0) (ty := .int) (C := R_Mo) (T := T_Mo) (N := 51) hx hb hg in_Mo ty_Mo ok_Mo nm_Mo hown hK hP hD hS 0 rfl rfl 0 (by decide) (hg _ m_1259) (fun _ h9 => h9) rfl (by decide +kernel) rfl rfl (Nat.le_of_ble_eq_true rfl) d_Mo_variable_2 (fun H locs hP hD hS => ?_)
  have hP : va_P D classes (Wm ty h (sF σ 0 0 0) px) H := hP
  have hD : va_D A (Wm ty h (sF σ 0 0 0) px) := hD
  exact B5 _ _ _ a1 a2 (sF σ 0 0 0) hv hk (lv_sub hl [0, 1, 2] rfl) hP hD hS

-- ClauseLedgerModel.found(IIIIIII)I
abbrev b_Mo_found : ByteArray := prog_14_method_6_code
def y_Mo_found : MethodName := ⟨"ClauseLedgerModel", "found", "(IIIIIII)I"⟩
theorem hd_Mo_found : y_Mo_found.cls ≠ "java/lang/invoke/MethodHandle" ∧ y_Mo_found.cls ≠ "java/lang/invoke/VarHandle" ∧ (parseMethodDescriptor y_Mo_found.desc).map (fun d => d.parameters.length) = some 7 := by decide +kernel
theorem d_Mo_found_0 : decode b_Mo_found 0 = .ok (.iconst 0, 1) := by decide +kernel
theorem d_Mo_found_1 : decode b_Mo_found 1 = .ok (.istore 8, 2) := by decide +kernel
theorem d_Mo_found_3 : decode b_Mo_found 3 = .ok (.iload 8, 2) := by decide +kernel
theorem d_Mo_found_5 : decode b_Mo_found 5 = .ok (.aload_n 0, 1) := by decide +kernel
theorem d_Mo_found_6 : decode b_Mo_found 6 = .ok (.getfield 109, 3) := by decide +kernel
theorem d_Mo_found_9 : decode b_Mo_found 9 = .ok (.if_icmp .ge 82, 3) := by decide +kernel
theorem d_Mo_found_12 : decode b_Mo_found 12 = .ok (.aload_n 0, 1) := by decide +kernel
theorem d_Mo_found_13 : decode b_Mo_found 13 = .ok (.getfield 26, 3) := by decide +kernel
theorem d_Mo_found_16 : decode b_Mo_found 16 = .ok (.iload 8, 2) := by decide +kernel
theorem d_Mo_found_18 : decode b_Mo_found 18 = .ok (.iaload, 1) := by decide +kernel
theorem d_Mo_found_19 : decode b_Mo_found 19 = .ok (.iload_n 1, 1) := by decide +kernel
theorem d_Mo_found_20 : decode b_Mo_found 20 = .ok (.if_icmp .ne 65, 3) := by decide +kernel
theorem d_Mo_found_23 : decode b_Mo_found 23 = .ok (.aload_n 0, 1) := by decide +kernel
theorem d_Mo_found_24 : decode b_Mo_found 24 = .ok (.getfield 35, 3) := by decide +kernel
theorem d_Mo_found_27 : decode b_Mo_found 27 = .ok (.iload 8, 2) := by decide +kernel
theorem d_Mo_found_29 : decode b_Mo_found 29 = .ok (.iaload, 1) := by decide +kernel
theorem d_Mo_found_30 : decode b_Mo_found 30 = .ok (.iload_n 3, 1) := by decide +kernel
theorem d_Mo_found_31 : decode b_Mo_found 31 = .ok (.if_icmp .ne 54, 3) := by decide +kernel
theorem d_Mo_found_34 : decode b_Mo_found 34 = .ok (.aload_n 0, 1) := by decide +kernel
theorem d_Mo_found_35 : decode b_Mo_found 35 = .ok (.getfield 38, 3) := by decide +kernel
theorem d_Mo_found_38 : decode b_Mo_found 38 = .ok (.iload 8, 2) := by decide +kernel
theorem d_Mo_found_40 : decode b_Mo_found 40 = .ok (.iaload, 1) := by decide +kernel
theorem d_Mo_found_41 : decode b_Mo_found 41 = .ok (.iload 4, 2) := by decide +kernel
theorem d_Mo_found_43 : decode b_Mo_found 43 = .ok (.if_icmp .ne 42, 3) := by decide +kernel
theorem d_Mo_found_46 : decode b_Mo_found 46 = .ok (.aload_n 0, 1) := by decide +kernel
theorem d_Mo_found_47 : decode b_Mo_found 47 = .ok (.getfield 41, 3) := by decide +kernel
theorem d_Mo_found_50 : decode b_Mo_found 50 = .ok (.iload 8, 2) := by decide +kernel
theorem d_Mo_found_52 : decode b_Mo_found 52 = .ok (.iaload, 1) := by decide +kernel
theorem d_Mo_found_53 : decode b_Mo_found 53 = .ok (.iload 5, 2) := by decide +kernel
theorem d_Mo_found_55 : decode b_Mo_found 55 = .ok (.if_icmp .ne 30, 3) := by decide +kernel
theorem d_Mo_found_58 : decode b_Mo_found 58 = .ok (.aload_n 0, 1) := by decide +kernel
theorem d_Mo_found_59 : decode b_Mo_found 59 = .ok (.getfield 44, 3) := by decide +kernel
theorem d_Mo_found_62 : decode b_Mo_found 62 = .ok (.iload 8, 2) := by decide +kernel
theorem d_Mo_found_64 : decode b_Mo_found 64 = .ok (.iaload, 1) := by decide +kernel
theorem d_Mo_found_65 : decode b_Mo_found 65 = .ok (.iload 6, 2) := by decide +kernel
theorem d_Mo_found_67 : decode b_Mo_found 67 = .ok (.if_icmp .ne 18, 3) := by decide +kernel
theorem d_Mo_found_70 : decode b_Mo_found 70 = .ok (.aload_n 0, 1) := by decide +kernel
theorem d_Mo_found_71 : decode b_Mo_found 71 = .ok (.getfield 47, 3) := by decide +kernel
theorem d_Mo_found_74 : decode b_Mo_found 74 = .ok (.iload 8, 2) := by decide +kernel
theorem d_Mo_found_76 : decode b_Mo_found 76 = .ok (.iaload, 1) := by decide +kernel
theorem d_Mo_found_77 : decode b_Mo_found 77 = .ok (.iload 7, 2) := by decide +kernel
theorem d_Mo_found_79 : decode b_Mo_found 79 = .ok (.if_icmp .ne 6, 3) := by decide +kernel
theorem d_Mo_found_82 : decode b_Mo_found 82 = .ok (.iload 8, 2) := by decide +kernel
theorem d_Mo_found_84 : decode b_Mo_found 84 = .ok (.ireturn, 1) := by decide +kernel
theorem d_Mo_found_85 : decode b_Mo_found 85 = .ok (.iinc 8 1, 3) := by decide +kernel
theorem d_Mo_found_88 : decode b_Mo_found 88 = .ok (.goto (-85), 3) := by decide +kernel
theorem d_Mo_found_91 : decode b_Mo_found 91 = .ok (.aload_n 0, 1) := by decide +kernel
theorem d_Mo_found_92 : decode b_Mo_found 92 = .ok (.getfield 26, 3) := by decide +kernel
theorem d_Mo_found_95 : decode b_Mo_found 95 = .ok (.aload_n 0, 1) := by decide +kernel
theorem d_Mo_found_96 : decode b_Mo_found 96 = .ok (.getfield 109, 3) := by decide +kernel
theorem d_Mo_found_99 : decode b_Mo_found 99 = .ok (.iload_n 1, 1) := by decide +kernel
theorem d_Mo_found_100 : decode b_Mo_found 100 = .ok (.iastore, 1) := by decide +kernel
theorem d_Mo_found_101 : decode b_Mo_found 101 = .ok (.aload_n 0, 1) := by decide +kernel
theorem d_Mo_found_102 : decode b_Mo_found 102 = .ok (.getfield 29, 3) := by decide +kernel
theorem d_Mo_found_105 : decode b_Mo_found 105 = .ok (.aload_n 0, 1) := by decide +kernel
theorem d_Mo_found_106 : decode b_Mo_found 106 = .ok (.getfield 109, 3) := by decide +kernel
theorem d_Mo_found_109 : decode b_Mo_found 109 = .ok (.iload_n 2, 1) := by decide +kernel
theorem d_Mo_found_110 : decode b_Mo_found 110 = .ok (.iastore, 1) := by decide +kernel
theorem d_Mo_found_111 : decode b_Mo_found 111 = .ok (.aload_n 0, 1) := by decide +kernel
theorem d_Mo_found_112 : decode b_Mo_found 112 = .ok (.getfield 35, 3) := by decide +kernel
theorem d_Mo_found_115 : decode b_Mo_found 115 = .ok (.aload_n 0, 1) := by decide +kernel
theorem d_Mo_found_116 : decode b_Mo_found 116 = .ok (.getfield 109, 3) := by decide +kernel
theorem d_Mo_found_119 : decode b_Mo_found 119 = .ok (.iload_n 3, 1) := by decide +kernel
theorem d_Mo_found_120 : decode b_Mo_found 120 = .ok (.iastore, 1) := by decide +kernel
theorem d_Mo_found_121 : decode b_Mo_found 121 = .ok (.aload_n 0, 1) := by decide +kernel
theorem d_Mo_found_122 : decode b_Mo_found 122 = .ok (.getfield 38, 3) := by decide +kernel
theorem d_Mo_found_125 : decode b_Mo_found 125 = .ok (.aload_n 0, 1) := by decide +kernel
theorem d_Mo_found_126 : decode b_Mo_found 126 = .ok (.getfield 109, 3) := by decide +kernel
theorem d_Mo_found_129 : decode b_Mo_found 129 = .ok (.iload 4, 2) := by decide +kernel
theorem d_Mo_found_131 : decode b_Mo_found 131 = .ok (.iastore, 1) := by decide +kernel
theorem d_Mo_found_132 : decode b_Mo_found 132 = .ok (.aload_n 0, 1) := by decide +kernel
theorem d_Mo_found_133 : decode b_Mo_found 133 = .ok (.getfield 41, 3) := by decide +kernel
theorem d_Mo_found_136 : decode b_Mo_found 136 = .ok (.aload_n 0, 1) := by decide +kernel
theorem d_Mo_found_137 : decode b_Mo_found 137 = .ok (.getfield 109, 3) := by decide +kernel
theorem d_Mo_found_140 : decode b_Mo_found 140 = .ok (.iload 5, 2) := by decide +kernel
theorem d_Mo_found_142 : decode b_Mo_found 142 = .ok (.iastore, 1) := by decide +kernel
theorem d_Mo_found_143 : decode b_Mo_found 143 = .ok (.aload_n 0, 1) := by decide +kernel
theorem d_Mo_found_144 : decode b_Mo_found 144 = .ok (.getfield 44, 3) := by decide +kernel
theorem d_Mo_found_147 : decode b_Mo_found 147 = .ok (.aload_n 0, 1) := by decide +kernel
theorem d_Mo_found_148 : decode b_Mo_found 148 = .ok (.getfield 109, 3) := by decide +kernel
theorem d_Mo_found_151 : decode b_Mo_found 151 = .ok (.iload 6, 2) := by decide +kernel
theorem d_Mo_found_153 : decode b_Mo_found 153 = .ok (.iastore, 1) := by decide +kernel
theorem d_Mo_found_154 : decode b_Mo_found 154 = .ok (.aload_n 0, 1) := by decide +kernel
theorem d_Mo_found_155 : decode b_Mo_found 155 = .ok (.getfield 47, 3) := by decide +kernel
theorem d_Mo_found_158 : decode b_Mo_found 158 = .ok (.aload_n 0, 1) := by decide +kernel
theorem d_Mo_found_159 : decode b_Mo_found 159 = .ok (.getfield 109, 3) := by decide +kernel
theorem d_Mo_found_162 : decode b_Mo_found 162 = .ok (.iload 7, 2) := by decide +kernel
theorem d_Mo_found_164 : decode b_Mo_found 164 = .ok (.iastore, 1) := by decide +kernel
theorem d_Mo_found_165 : decode b_Mo_found 165 = .ok (.iload_n 3, 1) := by decide +kernel
theorem d_Mo_found_166 : decode b_Mo_found 166 = .ok (.ifCond .ge 7, 3) := by decide +kernel
theorem d_Mo_found_169 : decode b_Mo_found 169 = .ok (.iconst 0, 1) := by decide +kernel
theorem d_Mo_found_170 : decode b_Mo_found 170 = .ok (.goto 40, 3) := by decide +kernel
theorem d_Mo_found_173 : decode b_Mo_found 173 = .ok (.iload 4, 2) := by decide +kernel
theorem d_Mo_found_175 : decode b_Mo_found 175 = .ok (.ifCond .lt 19, 3) := by decide +kernel
theorem d_Mo_found_178 : decode b_Mo_found 178 = .ok (.aload_n 0, 1) := by decide +kernel
theorem d_Mo_found_179 : decode b_Mo_found 179 = .ok (.getfield 32, 3) := by decide +kernel
theorem d_Mo_found_182 : decode b_Mo_found 182 = .ok (.iload_n 3, 1) := by decide +kernel
theorem d_Mo_found_183 : decode b_Mo_found 183 = .ok (.iaload, 1) := by decide +kernel
theorem d_Mo_found_184 : decode b_Mo_found 184 = .ok (.aload_n 0, 1) := by decide +kernel
theorem d_Mo_found_185 : decode b_Mo_found 185 = .ok (.getfield 32, 3) := by decide +kernel
theorem d_Mo_found_188 : decode b_Mo_found 188 = .ok (.iload 4, 2) := by decide +kernel
theorem d_Mo_found_190 : decode b_Mo_found 190 = .ok (.iaload, 1) := by decide +kernel
theorem d_Mo_found_191 : decode b_Mo_found 191 = .ok (.if_icmp .le 12, 3) := by decide +kernel
theorem d_Mo_found_194 : decode b_Mo_found 194 = .ok (.aload_n 0, 1) := by decide +kernel
theorem d_Mo_found_195 : decode b_Mo_found 195 = .ok (.getfield 32, 3) := by decide +kernel
theorem d_Mo_found_198 : decode b_Mo_found 198 = .ok (.iload_n 3, 1) := by decide +kernel
theorem d_Mo_found_199 : decode b_Mo_found 199 = .ok (.iaload, 1) := by decide +kernel
theorem d_Mo_found_200 : decode b_Mo_found 200 = .ok (.goto 10, 3) := by decide +kernel
theorem d_Mo_found_203 : decode b_Mo_found 203 = .ok (.aload_n 0, 1) := by decide +kernel
theorem d_Mo_found_204 : decode b_Mo_found 204 = .ok (.getfield 32, 3) := by decide +kernel
theorem d_Mo_found_207 : decode b_Mo_found 207 = .ok (.iload 4, 2) := by decide +kernel
theorem d_Mo_found_209 : decode b_Mo_found 209 = .ok (.iaload, 1) := by decide +kernel
theorem d_Mo_found_210 : decode b_Mo_found 210 = .ok (.istore 8, 2) := by decide +kernel
theorem d_Mo_found_212 : decode b_Mo_found 212 = .ok (.aload_n 0, 1) := by decide +kernel
theorem d_Mo_found_213 : decode b_Mo_found 213 = .ok (.getfield 32, 3) := by decide +kernel
theorem d_Mo_found_216 : decode b_Mo_found 216 = .ok (.aload_n 0, 1) := by decide +kernel
theorem d_Mo_found_217 : decode b_Mo_found 217 = .ok (.getfield 109, 3) := by decide +kernel
theorem d_Mo_found_220 : decode b_Mo_found 220 = .ok (.iload 8, 2) := by decide +kernel
theorem d_Mo_found_222 : decode b_Mo_found 222 = .ok (.iconst 1, 1) := by decide +kernel
theorem d_Mo_found_223 : decode b_Mo_found 223 = .ok (.iadd, 1) := by decide +kernel
theorem d_Mo_found_224 : decode b_Mo_found 224 = .ok (.iastore, 1) := by decide +kernel
theorem d_Mo_found_225 : decode b_Mo_found 225 = .ok (.iload_n 1, 1) := by decide +kernel
theorem d_Mo_found_226 : decode b_Mo_found 226 = .ok (.iconst 1, 1) := by decide +kernel
theorem d_Mo_found_227 : decode b_Mo_found 227 = .ok (.if_icmp .ne 10, 3) := by decide +kernel
theorem d_Mo_found_230 : decode b_Mo_found 230 = .ok (.iconst 1, 1) := by decide +kernel
theorem d_Mo_found_231 : decode b_Mo_found 231 = .ok (.iload 5, 2) := by decide +kernel
theorem d_Mo_found_233 : decode b_Mo_found 233 = .ok (.ishl, 1) := by decide +kernel
theorem d_Mo_found_234 : decode b_Mo_found 234 = .ok (.goto 34, 3) := by decide +kernel
theorem d_Mo_found_237 : decode b_Mo_found 237 = .ok (.iload_n 3, 1) := by decide +kernel
theorem d_Mo_found_238 : decode b_Mo_found 238 = .ok (.ifCond .ge 7, 3) := by decide +kernel
theorem d_Mo_found_241 : decode b_Mo_found 241 = .ok (.iconst 0, 1) := by decide +kernel
theorem d_Mo_found_242 : decode b_Mo_found 242 = .ok (.goto 9, 3) := by decide +kernel
theorem d_Mo_found_245 : decode b_Mo_found 245 = .ok (.aload_n 0, 1) := by decide +kernel
theorem d_Mo_found_246 : decode b_Mo_found 246 = .ok (.getfield 50, 3) := by decide +kernel
theorem d_Mo_found_249 : decode b_Mo_found 249 = .ok (.iload_n 3, 1) := by decide +kernel
theorem d_Mo_found_250 : decode b_Mo_found 250 = .ok (.iaload, 1) := by decide +kernel
theorem d_Mo_found_251 : decode b_Mo_found 251 = .ok (.iload 4, 2) := by decide +kernel
theorem d_Mo_found_253 : decode b_Mo_found 253 = .ok (.ifCond .ge 7, 3) := by decide +kernel
theorem d_Mo_found_256 : decode b_Mo_found 256 = .ok (.iconst 0, 1) := by decide +kernel
theorem d_Mo_found_257 : decode b_Mo_found 257 = .ok (.goto 10, 3) := by decide +kernel
theorem d_Mo_found_260 : decode b_Mo_found 260 = .ok (.aload_n 0, 1) := by decide +kernel
theorem d_Mo_found_261 : decode b_Mo_found 261 = .ok (.getfield 50, 3) := by decide +kernel
theorem d_Mo_found_264 : decode b_Mo_found 264 = .ok (.iload 4, 2) := by decide +kernel
theorem d_Mo_found_266 : decode b_Mo_found 266 = .ok (.iaload, 1) := by decide +kernel
theorem d_Mo_found_267 : decode b_Mo_found 267 = .ok (.ior, 1) := by decide +kernel
theorem d_Mo_found_268 : decode b_Mo_found 268 = .ok (.istore 9, 2) := by decide +kernel
theorem d_Mo_found_270 : decode b_Mo_found 270 = .ok (.aload_n 0, 1) := by decide +kernel
theorem d_Mo_found_271 : decode b_Mo_found 271 = .ok (.getfield 50, 3) := by decide +kernel
theorem d_Mo_found_274 : decode b_Mo_found 274 = .ok (.aload_n 0, 1) := by decide +kernel
theorem d_Mo_found_275 : decode b_Mo_found 275 = .ok (.getfield 109, 3) := by decide +kernel
theorem d_Mo_found_278 : decode b_Mo_found 278 = .ok (.iload_n 1, 1) := by decide +kernel
theorem d_Mo_found_279 : decode b_Mo_found 279 = .ok (.bipush 10, 2) := by decide +kernel
theorem d_Mo_found_281 : decode b_Mo_found 281 = .ok (.if_icmp .ne 15, 3) := by decide +kernel
theorem d_Mo_found_284 : decode b_Mo_found 284 = .ok (.iload 9, 2) := by decide +kernel
theorem d_Mo_found_286 : decode b_Mo_found 286 = .ok (.iconst 1, 1) := by decide +kernel
theorem d_Mo_found_287 : decode b_Mo_found 287 = .ok (.iload 5, 2) := by decide +kernel
theorem d_Mo_found_289 : decode b_Mo_found 289 = .ok (.ishl, 1) := by decide +kernel
theorem d_Mo_found_290 : decode b_Mo_found 290 = .ok (.iconst (-1), 1) := by decide +kernel
theorem d_Mo_found_291 : decode b_Mo_found 291 = .ok (.ixor, 1) := by decide +kernel
theorem d_Mo_found_292 : decode b_Mo_found 292 = .ok (.iand, 1) := by decide +kernel
theorem d_Mo_found_293 : decode b_Mo_found 293 = .ok (.goto 5, 3) := by decide +kernel
theorem d_Mo_found_296 : decode b_Mo_found 296 = .ok (.iload 9, 2) := by decide +kernel
theorem d_Mo_found_298 : decode b_Mo_found 298 = .ok (.iastore, 1) := by decide +kernel
theorem d_Mo_found_299 : decode b_Mo_found 299 = .ok (.aload_n 0, 1) := by decide +kernel
theorem d_Mo_found_300 : decode b_Mo_found 300 = .ok (.dup, 1) := by decide +kernel
theorem d_Mo_found_301 : decode b_Mo_found 301 = .ok (.getfield 109, 3) := by decide +kernel
theorem d_Mo_found_304 : decode b_Mo_found 304 = .ok (.iconst 1, 1) := by decide +kernel
theorem d_Mo_found_305 : decode b_Mo_found 305 = .ok (.iadd, 1) := by decide +kernel
theorem d_Mo_found_306 : decode b_Mo_found 306 = .ok (.putfield 109, 3) := by decide +kernel
theorem d_Mo_found_309 : decode b_Mo_found 309 = .ok (.aload_n 0, 1) := by decide +kernel
theorem d_Mo_found_310 : decode b_Mo_found 310 = .ok (.getfield 109, 3) := by decide +kernel
theorem d_Mo_found_313 : decode b_Mo_found 313 = .ok (.iconst 1, 1) := by decide +kernel
theorem d_Mo_found_314 : decode b_Mo_found 314 = .ok (.isub, 1) := by decide +kernel
theorem d_Mo_found_315 : decode b_Mo_found 315 = .ok (.ireturn, 1) := by decide +kernel
def f_Mo_found_85 (F3 : (Int32 → Int32 → Int32 → Int32 → Int32 → Int32 → Int32 → Int32 → St → Int32 × St)) (x1 : Int32) (x2 : Int32) (x3 : Int32) (x4 : Int32) (x5 : Int32) (x6 : Int32) (x7 : Int32) (x8 : Int32) (σ : St) : Int32 × St := F3 x1 x2 x3 x4 x5 x6 x7 (x8 + 1) σ
def k_Mo_found_85 (K3 : (Int32 → Int32 → Int32 → Int32 → Int32 → Int32 → Int32 → Int32 → St → Prop)) (x1 : Int32) (x2 : Int32) (x3 : Int32) (x4 : Int32) (x5 : Int32) (x6 : Int32) (x7 : Int32) (x8 : Int32) (σ : St) : Prop := K3 x1 x2 x3 x4 x5 x6 x7 (x8 + 1) σ
def f_Mo_found_309 (σ : St) : Int32 × St := ((σ.1 0 8) - 1, σ)
def k_Mo_found_309 (σ : St) : Prop := True
def f_Mo_found_299 (σ : St) : Int32 × St := f_Mo_found_309 (sF σ 0 8 ((σ.1 0 8) + 1))
def k_Mo_found_299 (σ : St) : Prop := k_Mo_found_309 (sF σ 0 8 ((σ.1 0 8) + 1))
def f_Mo_found_298 (s0 : Int32) (s1 : Int32) (σ : St) : Int32 × St := f_Mo_found_299 (sA σ 13 s1 s0)
def k_Mo_found_298 (s0 : Int32) (s1 : Int32) (σ : St) : Prop := vp_in s1 400 ∧ (k_Mo_found_299 (sA σ 13 s1 s0))
def f_Mo_found_270 (x1 : Int32) (x5 : Int32) (x9 : Int32) (σ : St) : Int32 × St := if x1 = 10 then (f_Mo_found_298 (x9 &&& ((1 <<< (x5 &&& 31)) ^^^ (-1))) (σ.1 0 8) σ) else (f_Mo_found_298 x9 (σ.1 0 8) σ)
def k_Mo_found_270 (x1 : Int32) (x5 : Int32) (x9 : Int32) (σ : St) : Prop := (x1 = 10 → (k_Mo_found_298 (x9 &&& ((1 <<< (x5 &&& 31)) ^^^ (-1))) (σ.1 0 8) σ)) ∧ (¬ x1 = 10 → (k_Mo_found_298 x9 (σ.1 0 8) σ))
def f_Mo_found_268 (x1 : Int32) (x5 : Int32) (s0 : Int32) (σ : St) : Int32 × St := f_Mo_found_270 x1 x5 s0 σ
def k_Mo_found_268 (x1 : Int32) (x5 : Int32) (s0 : Int32) (σ : St) : Prop := k_Mo_found_270 x1 x5 s0 σ
def f_Mo_found_267 (x1 : Int32) (x5 : Int32) (s0 : Int32) (s1 : Int32) (σ : St) : Int32 × St := f_Mo_found_268 x1 x5 (s1 ||| s0) σ
def k_Mo_found_267 (x1 : Int32) (x5 : Int32) (s0 : Int32) (s1 : Int32) (σ : St) : Prop := k_Mo_found_268 x1 x5 (s1 ||| s0) σ
def f_Mo_found_251 (x1 : Int32) (x4 : Int32) (x5 : Int32) (s0 : Int32) (σ : St) : Int32 × St := if 0 ≤ x4 then (f_Mo_found_267 x1 x5 (σ.1 13 x4.toNatClampNeg) s0 σ) else (f_Mo_found_267 x1 x5 0 s0 σ)
def k_Mo_found_251 (x1 : Int32) (x4 : Int32) (x5 : Int32) (s0 : Int32) (σ : St) : Prop := (0 ≤ x4 → (vp_in x4 400 ∧ (k_Mo_found_267 x1 x5 (σ.1 13 x4.toNatClampNeg) s0 σ))) ∧ (¬ 0 ≤ x4 → (k_Mo_found_267 x1 x5 0 s0 σ))
def f_Mo_found_225 (x1 : Int32) (x3 : Int32) (x4 : Int32) (x5 : Int32) (σ : St) : Int32 × St := if x1 = 1 then (f_Mo_found_268 x1 x5 (1 <<< (x5 &&& 31)) σ) else (if 0 ≤ x3 then (f_Mo_found_251 x1 x4 x5 (σ.1 13 x3.toNatClampNeg) σ) else (f_Mo_found_251 x1 x4 x5 0 σ))
def k_Mo_found_225 (x1 : Int32) (x3 : Int32) (x4 : Int32) (x5 : Int32) (σ : St) : Prop := (x1 = 1 → (k_Mo_found_268 x1 x5 (1 <<< (x5 &&& 31)) σ)) ∧ (¬ x1 = 1 → ((0 ≤ x3 → (vp_in x3 400 ∧ (k_Mo_found_251 x1 x4 x5 (σ.1 13 x3.toNatClampNeg) σ))) ∧ (¬ 0 ≤ x3 → (k_Mo_found_251 x1 x4 x5 0 σ))))
def f_Mo_found_212 (x1 : Int32) (x3 : Int32) (x4 : Int32) (x5 : Int32) (x8 : Int32) (σ : St) : Int32 × St := f_Mo_found_225 x1 x3 x4 x5 (sA σ 7 (σ.1 0 8) (x8 + 1))
def k_Mo_found_212 (x1 : Int32) (x3 : Int32) (x4 : Int32) (x5 : Int32) (x8 : Int32) (σ : St) : Prop := vp_in (σ.1 0 8) 400 ∧ (k_Mo_found_225 x1 x3 x4 x5 (sA σ 7 (σ.1 0 8) (x8 + 1)))
def f_Mo_found_210 (x1 : Int32) (x3 : Int32) (x4 : Int32) (x5 : Int32) (s0 : Int32) (σ : St) : Int32 × St := f_Mo_found_212 x1 x3 x4 x5 s0 σ
def k_Mo_found_210 (x1 : Int32) (x3 : Int32) (x4 : Int32) (x5 : Int32) (s0 : Int32) (σ : St) : Prop := k_Mo_found_212 x1 x3 x4 x5 s0 σ
def f_Mo_found_194 (x1 : Int32) (x3 : Int32) (x4 : Int32) (x5 : Int32) (σ : St) : Int32 × St := f_Mo_found_210 x1 x3 x4 x5 (σ.1 7 x3.toNatClampNeg) σ
def k_Mo_found_194 (x1 : Int32) (x3 : Int32) (x4 : Int32) (x5 : Int32) (σ : St) : Prop := vp_in x3 400 ∧ (k_Mo_found_210 x1 x3 x4 x5 (σ.1 7 x3.toNatClampNeg) σ)
def f_Mo_found_165 (x1 : Int32) (x3 : Int32) (x4 : Int32) (x5 : Int32) (σ : St) : Int32 × St := if 0 ≤ x3 then (if x4 < 0 then (f_Mo_found_194 x1 x3 x4 x5 σ) else (if (σ.1 7 x3.toNatClampNeg) ≤ (σ.1 7 x4.toNatClampNeg) then (f_Mo_found_210 x1 x3 x4 x5 (σ.1 7 x4.toNatClampNeg) σ) else (f_Mo_found_194 x1 x3 x4 x5 σ))) else (f_Mo_found_210 x1 x3 x4 x5 0 σ)
def k_Mo_found_165 (x1 : Int32) (x3 : Int32) (x4 : Int32) (x5 : Int32) (σ : St) : Prop := (0 ≤ x3 → ((x4 < 0 → (k_Mo_found_194 x1 x3 x4 x5 σ)) ∧ (¬ x4 < 0 → (vp_in x3 400 ∧ (vp_in x4 400 ∧ (((σ.1 7 x3.toNatClampNeg) ≤ (σ.1 7 x4.toNatClampNeg) → (vp_in x4 400 ∧ (k_Mo_found_210 x1 x3 x4 x5 (σ.1 7 x4.toNatClampNeg) σ))) ∧ (¬ (σ.1 7 x3.toNatClampNeg) ≤ (σ.1 7 x4.toNatClampNeg) → (k_Mo_found_194 x1 x3 x4 x5 σ)))))))) ∧ (¬ 0 ≤ x3 → (k_Mo_found_210 x1 x3 x4 x5 0 σ))
def f_Mo_found_154 (x1 : Int32) (x3 : Int32) (x4 : Int32) (x5 : Int32) (x7 : Int32) (σ : St) : Int32 × St := f_Mo_found_165 x1 x3 x4 x5 (sA σ 12 (σ.1 0 8) x7)
def k_Mo_found_154 (x1 : Int32) (x3 : Int32) (x4 : Int32) (x5 : Int32) (x7 : Int32) (σ : St) : Prop := vp_in (σ.1 0 8) 400 ∧ (k_Mo_found_165 x1 x3 x4 x5 (sA σ 12 (σ.1 0 8) x7))
def f_Mo_found_143 (x1 : Int32) (x3 : Int32) (x4 : Int32) (x5 : Int32) (x6 : Int32) (x7 : Int32) (σ : St) : Int32 × St := f_Mo_found_154 x1 x3 x4 x5 x7 (sA σ 11 (σ.1 0 8) x6)
def k_Mo_found_143 (x1 : Int32) (x3 : Int32) (x4 : Int32) (x5 : Int32) (x6 : Int32) (x7 : Int32) (σ : St) : Prop := vp_in (σ.1 0 8) 400 ∧ (k_Mo_found_154 x1 x3 x4 x5 x7 (sA σ 11 (σ.1 0 8) x6))
def f_Mo_found_132 (x1 : Int32) (x3 : Int32) (x4 : Int32) (x5 : Int32) (x6 : Int32) (x7 : Int32) (σ : St) : Int32 × St := f_Mo_found_143 x1 x3 x4 x5 x6 x7 (sA σ 10 (σ.1 0 8) x5)
def k_Mo_found_132 (x1 : Int32) (x3 : Int32) (x4 : Int32) (x5 : Int32) (x6 : Int32) (x7 : Int32) (σ : St) : Prop := vp_in (σ.1 0 8) 400 ∧ (k_Mo_found_143 x1 x3 x4 x5 x6 x7 (sA σ 10 (σ.1 0 8) x5))
def f_Mo_found_121 (x1 : Int32) (x3 : Int32) (x4 : Int32) (x5 : Int32) (x6 : Int32) (x7 : Int32) (σ : St) : Int32 × St := f_Mo_found_132 x1 x3 x4 x5 x6 x7 (sA σ 9 (σ.1 0 8) x4)
def k_Mo_found_121 (x1 : Int32) (x3 : Int32) (x4 : Int32) (x5 : Int32) (x6 : Int32) (x7 : Int32) (σ : St) : Prop := vp_in (σ.1 0 8) 400 ∧ (k_Mo_found_132 x1 x3 x4 x5 x6 x7 (sA σ 9 (σ.1 0 8) x4))
def f_Mo_found_111 (x1 : Int32) (x3 : Int32) (x4 : Int32) (x5 : Int32) (x6 : Int32) (x7 : Int32) (σ : St) : Int32 × St := f_Mo_found_121 x1 x3 x4 x5 x6 x7 (sA σ 8 (σ.1 0 8) x3)
def k_Mo_found_111 (x1 : Int32) (x3 : Int32) (x4 : Int32) (x5 : Int32) (x6 : Int32) (x7 : Int32) (σ : St) : Prop := vp_in (σ.1 0 8) 400 ∧ (k_Mo_found_121 x1 x3 x4 x5 x6 x7 (sA σ 8 (σ.1 0 8) x3))
def f_Mo_found_101 (x1 : Int32) (x2 : Int32) (x3 : Int32) (x4 : Int32) (x5 : Int32) (x6 : Int32) (x7 : Int32) (σ : St) : Int32 × St := f_Mo_found_111 x1 x3 x4 x5 x6 x7 (sA σ 6 (σ.1 0 8) x2)
def k_Mo_found_101 (x1 : Int32) (x2 : Int32) (x3 : Int32) (x4 : Int32) (x5 : Int32) (x6 : Int32) (x7 : Int32) (σ : St) : Prop := vp_in (σ.1 0 8) 400 ∧ (k_Mo_found_111 x1 x3 x4 x5 x6 x7 (sA σ 6 (σ.1 0 8) x2))
def f_Mo_found_3 : Nat → Int32 → Int32 → Int32 → Int32 → Int32 → Int32 → Int32 → Int32 → St → Int32 × St
  | 0, _, _, _, _, _, _, _, _, σ => (0, σ)
  | n + 1, x1, x2, x3, x4, x5, x6, x7, x8, σ => if (σ.1 0 8) ≤ x8 then (f_Mo_found_101 x1 x2 x3 x4 x5 x6 x7 (sA σ 5 (σ.1 0 8) x1)) else (if (σ.1 5 x8.toNatClampNeg) = x1 then (if (σ.1 8 x8.toNatClampNeg) = x3 then (if (σ.1 9 x8.toNatClampNeg) = x4 then (if (σ.1 10 x8.toNatClampNeg) = x5 then (if (σ.1 11 x8.toNatClampNeg) = x6 then (if (σ.1 12 x8.toNatClampNeg) = x7 then (x8, σ) else (f_Mo_found_85 (f_Mo_found_3 n) x1 x2 x3 x4 x5 x6 x7 x8 σ)) else (f_Mo_found_85 (f_Mo_found_3 n) x1 x2 x3 x4 x5 x6 x7 x8 σ)) else (f_Mo_found_85 (f_Mo_found_3 n) x1 x2 x3 x4 x5 x6 x7 x8 σ)) else (f_Mo_found_85 (f_Mo_found_3 n) x1 x2 x3 x4 x5 x6 x7 x8 σ)) else (f_Mo_found_85 (f_Mo_found_3 n) x1 x2 x3 x4 x5 x6 x7 x8 σ)) else (f_Mo_found_85 (f_Mo_found_3 n) x1 x2 x3 x4 x5 x6 x7 x8 σ))
def k_Mo_found_3 : Nat → Int32 → Int32 → Int32 → Int32 → Int32 → Int32 → Int32 → Int32 → St → Prop
  | 0, _, _, _, _, _, _, _, _, _ => False
  | n + 1, x1, x2, x3, x4, x5, x6, x7, x8, σ => ((σ.1 0 8) ≤ x8 → (vp_in (σ.1 0 8) 400 ∧ (k_Mo_found_101 x1 x2 x3 x4 x5 x6 x7 (sA σ 5 (σ.1 0 8) x1)))) ∧ (¬ (σ.1 0 8) ≤ x8 → (vp_in x8 400 ∧ (((σ.1 5 x8.toNatClampNeg) = x1 → (vp_in x8 400 ∧ (((σ.1 8 x8.toNatClampNeg) = x3 → (vp_in x8 400 ∧ (((σ.1 9 x8.toNatClampNeg) = x4 → (vp_in x8 400 ∧ (((σ.1 10 x8.toNatClampNeg) = x5 → (vp_in x8 400 ∧ (((σ.1 11 x8.toNatClampNeg) = x6 → (vp_in x8 400 ∧ (((σ.1 12 x8.toNatClampNeg) = x7 → True) ∧ (¬ (σ.1 12 x8.toNatClampNeg) = x7 → (k_Mo_found_85 (k_Mo_found_3 n) x1 x2 x3 x4 x5 x6 x7 x8 σ))))) ∧ (¬ (σ.1 11 x8.toNatClampNeg) = x6 → (k_Mo_found_85 (k_Mo_found_3 n) x1 x2 x3 x4 x5 x6 x7 x8 σ))))) ∧ (¬ (σ.1 10 x8.toNatClampNeg) = x5 → (k_Mo_found_85 (k_Mo_found_3 n) x1 x2 x3 x4 x5 x6 x7 x8 σ))))) ∧ (¬ (σ.1 9 x8.toNatClampNeg) = x4 → (k_Mo_found_85 (k_Mo_found_3 n) x1 x2 x3 x4 x5 x6 x7 x8 σ))))) ∧ (¬ (σ.1 8 x8.toNatClampNeg) = x3 → (k_Mo_found_85 (k_Mo_found_3 n) x1 x2 x3 x4 x5 x6 x7 x8 σ))))) ∧ (¬ (σ.1 5 x8.toNatClampNeg) = x1 → (k_Mo_found_85 (k_Mo_found_3 n) x1 x2 x3 x4 x5 x6 x7 x8 σ)))))
def f_Mo_found (a1 : Int32) (a2 : Int32) (a3 : Int32) (a4 : Int32) (a5 : Int32) (a6 : Int32) (a7 : Int32) (σ : St) : Int32 × St := f_Mo_found_3 1000 a1 a2 a3 a4 a5 a6 a7 0 σ
def k_Mo_found (a1 : Int32) (a2 : Int32) (a3 : Int32) (a4 : Int32) (a5 : Int32) (a6 : Int32) (a7 : Int32) (σ : St) : Prop := k_Mo_found_3 1000 a1 a2 a3 a4 a5 a6 a7 0 σ
abbrev w_Mo_found : List Cond := Cond.code y_Mo_found b_Mo_found 10 (some .int) :: gw
abbrev rm_Mo_found : Room := { frames := 0, cells := 0, slots := 0, locals := 0 }
set_option maxHeartbeats 4000000 in
set_option maxRecDepth 100000 in
theorem c_Mo_found (l : Launch) (D : va_G) (ty : Nat → ClassId) (h : Nat → Nat) (px : va_W) (sa : Nat → Nat) (σ : St) (sz : Nat) (a1 : Int32) (a2 : Int32) (a3 : Int32) (a4 : Int32) (a5 : Int32) (a6 : Int32) (a7 : Int32) (hk : k_Mo_found a1 a2 a3 a4 a5 a6 a7 σ) : Met l y_Mo_found w_Mo_found rm_Mo_found (va_Pc [.ref (h 0), .int a1, .int a2, .int a3, .int a4, .int a5, .int a6, .int a7] (fun U => U.heap.size = sz ∧ va_P D classes (Wm ty h σ px) U.heap ∧ va_K D classes (Ta ty) U ∧ NW U ∧ MK sa (va_A (Wm ty h σ px) sz) U U.heap ∧ va_D (fun _ => True) (Wm ty h σ px))) (va_Qi (fun r (u : St) => (r, u) = f_Mo_found a1 a2 a3 a4 a5 a6 a7 σ) (fun u t => va_P D classes (Wm ty h u px) t.heap) (va_A (Wm ty h σ px) sz)) 0 0 (va_A (Wm ty h σ px) sz) := by
  refine Met.ofW (cc := b_Mo_found) (maxL := 10) (ret := (some .int)) (by decide) rfl ?_
  intro p e s m args below meth c s₁ B hml hv
  obtain ⟨ha, hsz, hP, hK, hN, hM, hD0⟩ := hv
  have hx := B.exec
  have hb := B.bytes
  have hr := B.returns
  have hg : ∀ w ∈ gw, w.before args s = true := fun w h9 => atoms_spec (ws := w_Mo_found) B.pre w (List.mem_cons_of_mem _ h9)
  have hown : s.vm.findClass "ClauseLedgerModel" = some m.cls := findClass_of_methodNamed B.named
  have hlocks := B.notSynchronized
  subst hsz
  have hD := hD0.self (sz := s.heap.size)
  generalize hAe : va_A (Wm ty h σ px) s.heap.size = A at hD hM ⊢
  have hA : ∀ q : Nat, s.heap.size ≤ q → A q := fun q h9 => by rw [← hAe]; exact Or.inr h9
  have hS : va_S A s.heap s.heap [] := va_S.rf
  have he : entryFrame m args 10 = entryFrame m ([.ref (h 0), .int a1, .int a2, .int a3, .int a4, .int a5, .int a6, .int a7] : List Value).toArray 10 := by rw [ha]
  rw [he, lg_entry_eq]
  have hl := lv_entry ([.ref (h 0), .int a1, .int a2, .int a3, .int a4, .int a5, .int a6, .int a7]) (n := 10) (Nat.le_of_ble_eq_true rfl)
  generalize (lg_sl ([.ref (h 0), .int a1, .int a2, .int a3, .int a4, .int a5, .int a6, .int a7]) ++ List.replicate (10 - (lg_sl ([.ref (h 0), .int a1, .int a2, .int a3, .int a4, .int a5, .int a6, .int a7])).length) Slot.unset).toArray = ls at hl ⊢
  have hl : lv_has ls 10 [(0, .ref (h 0)), (1, .int a1), (2, .int a2), (3, .int a3), (4, .int a4), (5, .int a5), (6, .int a6), (7, .int a7)] := hl
  generalize hv : f_Mo_found a1 a2 a3 a4 a5 a6 a7 σ = v
  replace hv := hv.symm
  have B309 : ∀ (H : Heap) (locs : List Loc) (ls : Array Slot) (σ : St), v = f_Mo_found_309 σ → k_Mo_found_309 σ → lv_has ls 10 [(0, .ref (h 0))] → va_P D classes (Wm ty h σ px) H → va_D A (Wm ty h σ px) → va_S A s.heap H locs → W p l e (headSpec w_Mo_found rm_Mo_found).room s m args below meth c H locs 0 0 (MQ below (va_Qi (fun r (u : St) => (r, u) = v) (fun u t => va_P D classes (Wm ty h u px) t.heap) A) args s 0 0 A) (F0 m 309 ls []) := by
    intro H locs ls σ hv hk hl hP hD hS
    unfold f_Mo_found_309 at hv
    unfold k_Mo_found_309 at hk
    refine lv_aload_n hx hb d_Mo_found_309 rfl (lv_at hl 0 rfl) ?_
    refine va_get (v := .int (σ.1 0 8)) (C := R_Mo) (T := T_Mo) (N := 51) hx hb hg in_Mo hown hK hP 0 rfl rfl 8 (by decide) (hg _ m_1267) (fun _ h9 => h9) rfl d_Mo_found_310 ?_
    refine lv_iconst (v := 1) hx hb d_Mo_found_313 (by decide) ?_
    refine lv_isub hx hb d_Mo_found_314 ?_
    exact W.iret hx hb hr (fun t ht hW => ⟨⟨_, _, rfl, hv.symm, by dsimp only; rw [ht]; exact hP⟩, hS.F ht⟩) hS.2.2 d_Mo_found_315
  have B299 : ∀ (H : Heap) (locs : List Loc) (ls : Array Slot) (σ : St), v = f_Mo_found_299 σ → k_Mo_found_299 σ → lv_has ls 10 [(0, .ref (h 0))] → va_P D classes (Wm ty h σ px) H → va_D A (Wm ty h σ px) → va_S A s.heap H locs → W p l e (headSpec w_Mo_found rm_Mo_found).room s m args below meth c H locs 0 0 (MQ below (va_Qi (fun r (u : St) => (r, u) = v) (fun u t => va_P D classes (Wm ty h u px) t.heap) A) args s 0 0 A) (F0 m 299 ls []) := by
    intro H locs ls σ hv hk hl hP hD hS
    unfold f_Mo_found_299 at hv
    unfold k_Mo_found_299 at hk
    refine lv_aload_n hx hb d_Mo_found_299 rfl (lv_at hl 0 rfl) ?_
    refine lv_dup hx hb d_Mo_found_300 rfl ?_
    refine va_get (v := .int (σ.1 0 8)) (C := R_Mo) (T := T_Mo) (N := 51) hx hb hg in_Mo hown hK hP 0 rfl rfl 8 (by decide) (hg _ m_1267) (fun _ h9 => h9) rfl d_Mo_found_301 ?_
    refine lv_iconst (v := 1) hx hb d_Mo_found_304 (by decide) ?_
    refine lv_iadd hx hb d_Mo_found_305 ?_
    refine va_put (v := .int ((σ.1 0 8) + 1)) (ty := .int) (C := R_Mo) (T := T_Mo) (N := 51) hx hb hg in_Mo ty_Mo ok_Mo nm_Mo hown hK hP hD hS 0 rfl rfl 8 (by decide) (hg _ m_1267) (fun _ h9 => h9) rfl (by decide +kernel) rfl rfl (Nat.le_of_ble_eq_true rfl) d_Mo_found_306 (fun H locs hP hD hS => ?_)
    have hP : va_P D classes (Wm ty h (sF σ 0 8 ((σ.1 0 8) + 1)) px) H := hP
    have hD : va_D A (Wm ty h (sF σ 0 8 ((σ.1 0 8) + 1)) px) := hD
    exact B309 _ _ _  (sF σ 0 8 ((σ.1 0 8) + 1)) hv hk (lv_sub hl [0] rfl) hP hD hS
  have B298 : ∀ (H : Heap) (locs : List Loc) (ls : Array Slot) (s0 : Int32) (s1 : Int32) (σ : St), v = f_Mo_found_298 s0 s1 σ → k_Mo_found_298 s0 s1 σ → lv_has ls 10 [(0, .ref (h 0))] → va_P D classes (Wm ty h σ px) H → va_D A (Wm ty h σ px) → va_S A s.heap H locs → W p l e (headSpec w_Mo_found rm_Mo_found).room s m args below meth c H locs 0 0 (MQ below (va_Qi (fun r (u : St) => (r, u) = v) (fun u t => va_P D classes (Wm ty h u px) t.heap) A) args s 0 0 A) (F0 m 298 ls [.int s0, .int s1, .ref (h 13)]) := by
    intro H locs ls s0 s1 σ hv hk hl hP hD hS
    unfold f_Mo_found_298 at hv
    unfold k_Mo_found_298 at hk
    obtain ⟨hk0, hk⟩ := hk
    refine va_iast hx hb hK hP hD hS 13 0 rfl rfl hk0 d_Mo_found_298 (fun H locs hP hD hS => ?_)
    have hP : va_P D classes (Wm ty h (sA σ 13 s1 s0) px) H := hP
    have hD : va_D A (Wm ty h (sA σ 13 s1 s0) px) := hD
    exact B299 _ _ _  (sA σ 13 s1 s0) hv hk (lv_sub hl [0] rfl) hP hD hS
  have B270 : ∀ (H : Heap) (locs : List Loc) (ls : Array Slot) (x1 : Int32) (x5 : Int32) (x9 : Int32) (σ : St), v = f_Mo_found_270 x1 x5 x9 σ → k_Mo_found_270 x1 x5 x9 σ → lv_has ls 10 [(0, .ref (h 0)), (1, .int x1), (5, .int x5), (9, .int x9)] → va_P D classes (Wm ty h σ px) H → va_D A (Wm ty h σ px) → va_S A s.heap H locs → W p l e (headSpec w_Mo_found rm_Mo_found).room s m args below meth c H locs 0 0 (MQ below (va_Qi (fun r (u : St) => (r, u) = v) (fun u t => va_P D classes (Wm ty h u px) t.heap) A) args s 0 0 A) (F0 m 270 ls []) := by
    intro H locs ls x1 x5 x9 σ hv hk hl hP hD hS
    unfold f_Mo_found_270 at hv
    unfold k_Mo_found_270 at hk
    refine lv_aload_n hx hb d_Mo_found_270 rfl (lv_at hl 0 rfl) ?_
    refine va_get (v := .ref (h 13)) (C := R_Mo) (T := T_Mo) (N := 51) hx hb hg in_Mo hown hK hP 0 rfl rfl 18 (by decide) (hg _ m_1277) (fun _ h9 => h9) rfl d_Mo_found_271 ?_
    refine lv_aload_n hx hb d_Mo_found_274 rfl (lv_at hl 0 rfl) ?_
    refine va_get (v := .int (σ.1 0 8)) (C := R_Mo) (T := T_Mo) (N := 51) hx hb hg in_Mo hown hK hP 0 rfl rfl 8 (by decide) (hg _ m_1267) (fun _ h9 => h9) rfl d_Mo_found_275 ?_
    refine lv_iload_n hx hb d_Mo_found_278 rfl (lv_at hl 1 rfl) ?_
    refine lv_bipush (v := 10) hx hb d_Mo_found_279 (by decide) ?_
    refine lv_icmp_ne (tgt := 296) hx hb d_Mo_found_281 (by decide) (fun hc => ?_) (fun hc => ?_)
    · have hv := hv.trans (if_neg hc)
      have hk := hk.2 hc
      refine lv_iload hx hb d_Mo_found_296 (lv_at hl 3 rfl) ?_
      exact B298 _ _ _ x9 (σ.1 0 8) σ hv hk (lv_sub hl [0] rfl) hP hD hS
    · have hv := hv.trans (if_pos hc)
      have hk := hk.1 hc
      refine lv_iload hx hb d_Mo_found_284 (lv_at hl 3 rfl) ?_
      refine lv_iconst (v := 1) hx hb d_Mo_found_286 (by decide) ?_
      refine lv_iload hx hb d_Mo_found_287 (lv_at hl 2 rfl) ?_
      refine lv_ishl hx hb d_Mo_found_289 ?_
      refine lv_iconst (v := -1) hx hb d_Mo_found_290 (by decide) ?_
      refine lv_ixor hx hb d_Mo_found_291 ?_
      refine lv_iand hx hb d_Mo_found_292 ?_
      refine lv_goto (tgt := 298) hx hb d_Mo_found_293 (by decide) ?_
      exact B298 _ _ _ (x9 &&& ((1 <<< (x5 &&& 31)) ^^^ (-1))) (σ.1 0 8) σ hv hk (lv_sub hl [0] rfl) hP hD hS
  have B268 : ∀ (H : Heap) (locs : List Loc) (ls : Array Slot) (x1 : Int32) (x5 : Int32) (s0 : Int32) (σ : St), v = f_Mo_found_268 x1 x5 s0 σ → k_Mo_found_268 x1 x5 s0 σ → lv_has ls 10 [(0, .ref (h 0)), (1, .int x1), (5, .int x5)] → va_P D classes (Wm ty h σ px) H → va_D A (Wm ty h σ px) → va_S A s.heap H locs → W p l e (headSpec w_Mo_found rm_Mo_found).room s m args below meth c H locs 0 0 (MQ below (va_Qi (fun r (u : St) => (r, u) = v) (fun u t => va_P D classes (Wm ty h u px) t.heap) A) args s 0 0 A) (F0 m 268 ls [.int s0]) := by
    intro H locs ls x1 x5 s0 σ hv hk hl hP hD hS
    unfold f_Mo_found_268 at hv
    unfold k_Mo_found_268 at hk
    refine lv_istore (lv' := [(9, .int s0), (0, .ref (h 0)), (1, .int x1), (5, .int x5)]) hx hb d_Mo_found_268 hl (by decide) rfl (fun ls hl => ?_)
    exact B270 _ _ _ x1 x5 s0 σ hv hk (lv_sub hl [1, 2, 3, 0] rfl) hP hD hS
  have B267 : ∀ (H : Heap) (locs : List Loc) (ls : Array Slot) (x1 : Int32) (x5 : Int32) (s0 : Int32) (s1 : Int32) (σ : St), v = f_Mo_found_267 x1 x5 s0 s1 σ → k_Mo_found_267 x1 x5 s0 s1 σ → lv_has ls 10 [(0, .ref (h 0)), (1, .int x1), (5, .int x5)] → va_P D classes (Wm ty h σ px) H → va_D A (Wm ty h σ px) → va_S A s.heap H locs → W p l e (headSpec w_Mo_found rm_Mo_found).room s m args below meth c H locs 0 0 (MQ below (va_Qi (fun r (u : St) => (r, u) = v) (fun u t => va_P D classes (Wm ty h u px) t.heap) A) args s 0 0 A) (F0 m 267 ls [.int s0, .int s1]) := by
    intro H locs ls x1 x5 s0 s1 σ hv hk hl hP hD hS
    unfold f_Mo_found_267 at hv
    unfold k_Mo_found_267 at hk
    refine lv_ior hx hb d_Mo_found_267 ?_
    exact B268 _ _ _ x1 x5 (s1 ||| s0) σ hv hk (lv_sub hl [0, 1, 2] rfl) hP hD hS
  have B251 : ∀ (H : Heap) (locs : List Loc) (ls : Array Slot) (x1 : Int32) (x4 : Int32) (x5 : Int32) (s0 : Int32) (σ : St), v = f_Mo_found_251 x1 x4 x5 s0 σ → k_Mo_found_251 x1 x4 x5 s0 σ → lv_has ls 10 [(0, .ref (h 0)), (1, .int x1), (4, .int x4), (5, .int x5)] → va_P D classes (Wm ty h σ px) H → va_D A (Wm ty h σ px) → va_S A s.heap H locs → W p l e (headSpec w_Mo_found rm_Mo_found).room s m args below meth c H locs 0 0 (MQ below (va_Qi (fun r (u : St) => (r, u) = v) (fun u t => va_P D classes (Wm ty h u px) t.heap) A) args s 0 0 A) (F0 m 251 ls [.int s0]) := by
    intro H locs ls x1 x4 x5 s0 σ hv hk hl hP hD hS
    unfold f_Mo_found_251 at hv
    unfold k_Mo_found_251 at hk
    refine lv_iload hx hb d_Mo_found_251 (lv_at hl 2 rfl) ?_
    refine lv_if_ge (tgt := 260) hx hb d_Mo_found_253 (by decide) (fun hc => ?_) (fun hc => ?_)
    · have hv := hv.trans (if_pos hc)
      have hk := hk.1 hc
      refine lv_aload_n hx hb d_Mo_found_260 rfl (lv_at hl 0 rfl) ?_
      refine va_get (v := .ref (h 13)) (C := R_Mo) (T := T_Mo) (N := 51) hx hb hg in_Mo hown hK hP 0 rfl rfl 18 (by decide) (hg _ m_1277) (fun _ h9 => h9) rfl d_Mo_found_261 ?_
      refine lv_iload hx hb d_Mo_found_264 (lv_at hl 2 rfl) ?_
      obtain ⟨hk0, hk⟩ := hk
      refine va_iald hx hb hK hP 13 0 rfl rfl hk0 d_Mo_found_266 ?_
      exact B267 _ _ _ x1 x5 (σ.1 13 x4.toNatClampNeg) s0 σ hv hk (lv_sub hl [0, 1, 3] rfl) hP hD hS
    · have hv := hv.trans (if_neg hc)
      have hk := hk.2 hc
      refine lv_iconst (v := 0) hx hb d_Mo_found_256 (by decide) ?_
      refine lv_goto (tgt := 267) hx hb d_Mo_found_257 (by decide) ?_
      exact B267 _ _ _ x1 x5 0 s0 σ hv hk (lv_sub hl [0, 1, 3] rfl) hP hD hS
  have B225 : ∀ (H : Heap) (locs : List Loc) (ls : Array Slot) (x1 : Int32) (x3 : Int32) (x4 : Int32) (x5 : Int32) (σ : St), v = f_Mo_found_225 x1 x3 x4 x5 σ → k_Mo_found_225 x1 x3 x4 x5 σ → lv_has ls 10 [(0, .ref (h 0)), (1, .int x1), (3, .int x3), (4, .int x4), (5, .int x5)] → va_P D classes (Wm ty h σ px) H → va_D A (Wm ty h σ px) → va_S A s.heap H locs → W p l e (headSpec w_Mo_found rm_Mo_found).room s m args below meth c H locs 0 0 (MQ below (va_Qi (fun r (u : St) => (r, u) = v) (fun u t => va_P D classes (Wm ty h u px) t.heap) A) args s 0 0 A) (F0 m 225 ls []) := by
    intro H locs ls x1 x3 x4 x5 σ hv hk hl hP hD hS
    unfold f_Mo_found_225 at hv
    unfold k_Mo_found_225 at hk
    refine lv_iload_n hx hb d_Mo_found_225 rfl (lv_at hl 1 rfl) ?_
    refine lv_iconst (v := 1) hx hb d_Mo_found_226 (by decide) ?_
    refine lv_icmp_ne (tgt := 237) hx hb d_Mo_found_227 (by decide) (fun hc => ?_) (fun hc => ?_)
    · have hv := hv.trans (if_neg hc)
      have hk := hk.2 hc
      refine lv_iload_n hx hb d_Mo_found_237 rfl (lv_at hl 2 rfl) ?_
      refine lv_if_ge (tgt := 245) hx hb d_Mo_found_238 (by decide) (fun hc => ?_) (fun hc => ?_)
      · have hv := hv.trans (if_pos hc)
        have hk := hk.1 hc
        refine lv_aload_n hx hb d_Mo_found_245 rfl (lv_at hl 0 rfl) ?_
        refine va_get (v := .ref (h 13)) (C := R_Mo) (T := T_Mo) (N := 51) hx hb hg in_Mo hown hK hP 0 rfl rfl 18 (by decide) (hg _ m_1277) (fun _ h9 => h9) rfl d_Mo_found_246 ?_
        refine lv_iload_n hx hb d_Mo_found_249 rfl (lv_at hl 2 rfl) ?_
        obtain ⟨hk0, hk⟩ := hk
        refine va_iald hx hb hK hP 13 0 rfl rfl hk0 d_Mo_found_250 ?_
        exact B251 _ _ _ x1 x4 x5 (σ.1 13 x3.toNatClampNeg) σ hv hk (lv_sub hl [0, 1, 3, 4] rfl) hP hD hS
      · have hv := hv.trans (if_neg hc)
        have hk := hk.2 hc
        refine lv_iconst (v := 0) hx hb d_Mo_found_241 (by decide) ?_
        refine lv_goto (tgt := 251) hx hb d_Mo_found_242 (by decide) ?_
        exact B251 _ _ _ x1 x4 x5 0 σ hv hk (lv_sub hl [0, 1, 3, 4] rfl) hP hD hS
    · have hv := hv.trans (if_pos hc)
      have hk := hk.1 hc
      refine lv_iconst (v := 1) hx hb d_Mo_found_230 (by decide) ?_
      refine lv_iload hx hb d_Mo_found_231 (lv_at hl 4 rfl) ?_
      refine lv_ishl hx hb d_Mo_found_233 ?_
      refine lv_goto (tgt := 268) hx hb d_Mo_found_234 (by decide) ?_
      exact B268 _ _ _ x1 x5 (1 <<< (x5 &&& 31)) σ hv hk (lv_sub hl [0, 1, 4] rfl) hP hD hS
  have B212 : ∀ (H : Heap) (locs : List Loc) (ls : Array Slot) (x1 : Int32) (x3 : Int32) (x4 : Int32) (x5 : Int32) (x8 : Int32) (σ : St), v = f_Mo_found_212 x1 x3 x4 x5 x8 σ → k_Mo_found_212 x1 x3 x4 x5 x8 σ → lv_has ls 10 [(0, .ref (h 0)), (1, .int x1), (3, .int x3), (4, .int x4), (5, .int x5), (8, .int x8)] → va_P D classes (Wm ty h σ px) H → va_D A (Wm ty h σ px) → va_S A s.heap H locs → W p l e (headSpec w_Mo_found rm_Mo_found).room s m args below meth c H locs 0 0 (MQ below (va_Qi (fun r (u : St) => (r, u) = v) (fun u t => va_P D classes (Wm ty h u px) t.heap) A) args s 0 0 A) (F0 m 212 ls []) := by
    intro H locs ls x1 x3 x4 x5 x8 σ hv hk hl hP hD hS
    unfold f_Mo_found_212 at hv
    unfold k_Mo_found_212 at hk
    refine lv_aload_n hx hb d_Mo_found_212 rfl (lv_at hl 0 rfl) ?_
    refine va_get (v := .ref (h 7)) (C := R_Mo) (T := T_Mo) (N := 51) hx hb hg in_Mo hown hK hP 0 rfl rfl 12 (by decide) (hg _ m_1271) (fun _ h9 => h9) rfl d_Mo_found_213 ?_
    refine lv_aload_n hx hb d_Mo_found_216 rfl (lv_at hl 0 rfl) ?_
    refine va_get (v := .int (σ.1 0 8)) (C := R_Mo) (T := T_Mo) (N := 51) hx hb hg in_Mo hown hK hP 0 rfl rfl 8 (by decide) (hg _ m_1267) (fun _ h9 => h9) rfl d_Mo_found_217 ?_
    refine lv_iload hx hb d_Mo_found_220 (lv_at hl 5 rfl) ?_
    refine lv_iconst (v := 1) hx hb d_Mo_found_222 (by decide) ?_
    refine lv_iadd hx hb d_Mo_found_223 ?_
    obtain ⟨hk0, hk⟩ := hk
    refine va_iast hx hb hK hP hD hS 7 0 rfl rfl hk0 d_Mo_found_224 (fun H locs hP hD hS => ?_)
    have hP : va_P D classes (Wm ty h (sA σ 7 (σ.1 0 8) (x8 + 1)) px) H := hP
    have hD : va_D A (Wm ty h (sA σ 7 (σ.1 0 8) (x8 + 1)) px) := hD
    exact B225 _ _ _ x1 x3 x4 x5 (sA σ 7 (σ.1 0 8) (x8 + 1)) hv hk (lv_sub hl [0, 1, 2, 3, 4] rfl) hP hD hS
  have B210 : ∀ (H : Heap) (locs : List Loc) (ls : Array Slot) (x1 : Int32) (x3 : Int32) (x4 : Int32) (x5 : Int32) (s0 : Int32) (σ : St), v = f_Mo_found_210 x1 x3 x4 x5 s0 σ → k_Mo_found_210 x1 x3 x4 x5 s0 σ → lv_has ls 10 [(0, .ref (h 0)), (1, .int x1), (3, .int x3), (4, .int x4), (5, .int x5)] → va_P D classes (Wm ty h σ px) H → va_D A (Wm ty h σ px) → va_S A s.heap H locs → W p l e (headSpec w_Mo_found rm_Mo_found).room s m args below meth c H locs 0 0 (MQ below (va_Qi (fun r (u : St) => (r, u) = v) (fun u t => va_P D classes (Wm ty h u px) t.heap) A) args s 0 0 A) (F0 m 210 ls [.int s0]) := by
    intro H locs ls x1 x3 x4 x5 s0 σ hv hk hl hP hD hS
    unfold f_Mo_found_210 at hv
    unfold k_Mo_found_210 at hk
    refine lv_istore (lv' := [(8, .int s0), (0, .ref (h 0)), (1, .int x1), (3, .int x3), (4, .int x4), (5, .int x5)]) hx hb d_Mo_found_210 hl (by decide) rfl (fun ls hl => ?_)
    exact B212 _ _ _ x1 x3 x4 x5 s0 σ hv hk (lv_sub hl [1, 2, 3, 4, 5, 0] rfl) hP hD hS
  have B194 : ∀ (H : Heap) (locs : List Loc) (ls : Array Slot) (x1 : Int32) (x3 : Int32) (x4 : Int32) (x5 : Int32) (σ : St), v = f_Mo_found_194 x1 x3 x4 x5 σ → k_Mo_found_194 x1 x3 x4 x5 σ → lv_has ls 10 [(0, .ref (h 0)), (1, .int x1), (3, .int x3), (4, .int x4), (5, .int x5)] → va_P D classes (Wm ty h σ px) H → va_D A (Wm ty h σ px) → va_S A s.heap H locs → W p l e (headSpec w_Mo_found rm_Mo_found).room s m args below meth c H locs 0 0 (MQ below (va_Qi (fun r (u : St) => (r, u) = v) (fun u t => va_P D classes (Wm ty h u px) t.heap) A) args s 0 0 A) (F0 m 194 ls []) := by
    intro H locs ls x1 x3 x4 x5 σ hv hk hl hP hD hS
    unfold f_Mo_found_194 at hv
    unfold k_Mo_found_194 at hk
    refine lv_aload_n hx hb d_Mo_found_194 rfl (lv_at hl 0 rfl) ?_
    refine va_get (v := .ref (h 7)) (C := R_Mo) (T := T_Mo) (N := 51) hx hb hg in_Mo hown hK hP 0 rfl rfl 12 (by decide) (hg _ m_1271) (fun _ h9 => h9) rfl d_Mo_found_195 ?_
    refine lv_iload_n hx hb d_Mo_found_198 rfl (lv_at hl 2 rfl) ?_
    obtain ⟨hk0, hk⟩ := hk
    refine va_iald hx hb hK hP 7 0 rfl rfl hk0 d_Mo_found_199 ?_
    refine lv_goto (tgt := 210) hx hb d_Mo_found_200 (by decide) ?_
    exact B210 _ _ _ x1 x3 x4 x5 (σ.1 7 x3.toNatClampNeg) σ hv hk (lv_sub hl [0, 1, 2, 3, 4] rfl) hP hD hS
  have B165 : ∀ (H : Heap) (locs : List Loc) (ls : Array Slot) (x1 : Int32) (x3 : Int32) (x4 : Int32) (x5 : Int32) (σ : St), v = f_Mo_found_165 x1 x3 x4 x5 σ → k_Mo_found_165 x1 x3 x4 x5 σ → lv_has ls 10 [(0, .ref (h 0)), (1, .int x1), (3, .int x3), (4, .int x4), (5, .int x5)] → va_P D classes (Wm ty h σ px) H → va_D A (Wm ty h σ px) → va_S A s.heap H locs → W p l e (headSpec w_Mo_found rm_Mo_found).room s m args below meth c H locs 0 0 (MQ below (va_Qi (fun r (u : St) => (r, u) = v) (fun u t => va_P D classes (Wm ty h u px) t.heap) A) args s 0 0 A) (F0 m 165 ls []) := by
    intro H locs ls x1 x3 x4 x5 σ hv hk hl hP hD hS
    unfold f_Mo_found_165 at hv
    unfold k_Mo_found_165 at hk
    refine lv_iload_n hx hb d_Mo_found_165 rfl (lv_at hl 2 rfl) ?_
    refine lv_if_ge (tgt := 173) hx hb d_Mo_found_166 (by decide) (fun hc => ?_) (fun hc => ?_)
    · have hv := hv.trans (if_pos hc)
      have hk := hk.1 hc
      refine lv_iload hx hb d_Mo_found_173 (lv_at hl 3 rfl) ?_
      refine lv_if_lt (tgt := 194) hx hb d_Mo_found_175 (by decide) (fun hc => ?_) (fun hc => ?_)
      · have hv := hv.trans (if_pos hc)
        have hk := hk.1 hc
        exact B194 _ _ _ x1 x3 x4 x5 σ hv hk (lv_sub hl [0, 1, 2, 3, 4] rfl) hP hD hS
      · have hv := hv.trans (if_neg hc)
        have hk := hk.2 hc
        refine lv_aload_n hx hb d_Mo_found_178 rfl (lv_at hl 0 rfl) ?_
        refine va_get (v := .ref (h 7)) (C := R_Mo) (T := T_Mo) (N := 51) hx hb hg in_Mo hown hK hP 0 rfl rfl 12 (by decide) (hg _ m_1271) (fun _ h9 => h9) rfl d_Mo_found_179 ?_
        refine lv_iload_n hx hb d_Mo_found_182 rfl (lv_at hl 2 rfl) ?_
        obtain ⟨hk0, hk⟩ := hk
        refine va_iald hx hb hK hP 7 0 rfl rfl hk0 d_Mo_found_183 ?_
        refine lv_aload_n hx hb d_Mo_found_184 rfl (lv_at hl 0 rfl) ?_
        refine va_get (v := .ref (h 7)) (C := R_Mo) (T := T_Mo) (N := 51) hx hb hg in_Mo hown hK hP 0 rfl rfl 12 (by decide) (hg _ m_1271) (fun _ h9 => h9) rfl d_Mo_found_185 ?_
        refine lv_iload hx hb d_Mo_found_188 (lv_at hl 3 rfl) ?_
        obtain ⟨hk0, hk⟩ := hk
        refine va_iald hx hb hK hP 7 0 rfl rfl hk0 d_Mo_found_190 ?_
        refine lv_icmp_le (tgt := 203) hx hb d_Mo_found_191 (by decide) (fun hc => ?_) (fun hc => ?_)
        · have hv := hv.trans (if_pos hc)
          have hk := hk.1 hc
          refine lv_aload_n hx hb d_Mo_found_203 rfl (lv_at hl 0 rfl) ?_
          refine va_get (v := .ref (h 7)) (C := R_Mo) (T := T_Mo) (N := 51) hx hb hg in_Mo hown hK hP 0 rfl rfl 12 (by decide) (hg _ m_1271) (fun _ h9 => h9) rfl d_Mo_found_204 ?_
          refine lv_iload hx hb d_Mo_found_207 (lv_at hl 3 rfl) ?_
          obtain ⟨hk0, hk⟩ := hk
          refine va_iald hx hb hK hP 7 0 rfl rfl hk0 d_Mo_found_209 ?_
          exact B210 _ _ _ x1 x3 x4 x5 (σ.1 7 x4.toNatClampNeg) σ hv hk (lv_sub hl [0, 1, 2, 3, 4] rfl) hP hD hS
        · have hv := hv.trans (if_neg hc)
          have hk := hk.2 hc
          exact B194 _ _ _ x1 x3 x4 x5 σ hv hk (lv_sub hl [0, 1, 2, 3, 4] rfl) hP hD hS
    · have hv := hv.trans (if_neg hc)
      have hk := hk.2 hc
      refine lv_iconst (v := 0) hx hb d_Mo_found_169 (by decide) ?_
      refine lv_goto (tgt := 210) hx hb d_Mo_found_170 (by decide) ?_
      exact B210 _ _ _ x1 x3 x4 x5 0 σ hv hk (lv_sub hl [0, 1, 2, 3, 4] rfl) hP hD hS
  have B154 : ∀ (H : Heap) (locs : List Loc) (ls : Array Slot) (x1 : Int32) (x3 : Int32) (x4 : Int32) (x5 : Int32) (x7 : Int32) (σ : St), v = f_Mo_found_154 x1 x3 x4 x5 x7 σ → k_Mo_found_154 x1 x3 x4 x5 x7 σ → lv_has ls 10 [(0, .ref (h 0)), (1, .int x1), (3, .int x3), (4, .int x4), (5, .int x5), (7, .int x7)] → va_P D classes (Wm ty h σ px) H → va_D A (Wm ty h σ px) → va_S A s.heap H locs → W p l e (headSpec w_Mo_found rm_Mo_found).room s m args below meth c H locs 0 0 (MQ below (va_Qi (fun r (u : St) => (r, u) = v) (fun u t => va_P D classes (Wm ty h u px) t.heap) A) args s 0 0 A) (F0 m 154 ls []) := by
    intro H locs ls x1 x3 x4 x5 x7 σ hv hk hl hP hD hS
    unfold f_Mo_found_154 at hv
    unfold k_Mo_found_154 at hk
    refine lv_aload_n hx hb d_Mo_found_154 rfl (lv_at hl 0 rfl) ?_
    refine va_get (v := .ref (h 12)) (C := R_Mo) (T := T_Mo) (N := 51) hx hb hg in_Mo hown hK hP 0 rfl rfl 17 (by decide) (hg _ m_1276) (fun _ h9 => h9) rfl d_Mo_found_155 ?_
    refine lv_aload_n hx hb d_Mo_found_158 rfl (lv_at hl 0 rfl) ?_
    refine va_get (v := .int (σ.1 0 8)) (C := R_Mo) (T := T_Mo) (N := 51) hx hb hg in_Mo hown hK hP 0 rfl rfl 8 (by decide) (hg _ m_1267) (fun _ h9 => h9) rfl d_Mo_found_159 ?_
    refine lv_iload hx hb d_Mo_found_162 (lv_at hl 5 rfl) ?_
    obtain ⟨hk0, hk⟩ := hk
    refine va_iast hx hb hK hP hD hS 12 0 rfl rfl hk0 d_Mo_found_164 (fun H locs hP hD hS => ?_)
    have hP : va_P D classes (Wm ty h (sA σ 12 (σ.1 0 8) x7) px) H := hP
    have hD : va_D A (Wm ty h (sA σ 12 (σ.1 0 8) x7) px) := hD
    exact B165 _ _ _ x1 x3 x4 x5 (sA σ 12 (σ.1 0 8) x7) hv hk (lv_sub hl [0, 1, 2, 3, 4] rfl) hP hD hS
  have B143 : ∀ (H : Heap) (locs : List Loc) (ls : Array Slot) (x1 : Int32) (x3 : Int32) (x4 : Int32) (x5 : Int32) (x6 : Int32) (x7 : Int32) (σ : St), v = f_Mo_found_143 x1 x3 x4 x5 x6 x7 σ → k_Mo_found_143 x1 x3 x4 x5 x6 x7 σ → lv_has ls 10 [(0, .ref (h 0)), (1, .int x1), (3, .int x3), (4, .int x4), (5, .int x5), (6, .int x6), (7, .int x7)] → va_P D classes (Wm ty h σ px) H → va_D A (Wm ty h σ px) → va_S A s.heap H locs → W p l e (headSpec w_Mo_found rm_Mo_found).room s m args below meth c H locs 0 0 (MQ below (va_Qi (fun r (u : St) => (r, u) = v) (fun u t => va_P D classes (Wm ty h u px) t.heap) A) args s 0 0 A) (F0 m 143 ls []) := by
    intro H locs ls x1 x3 x4 x5 x6 x7 σ hv hk hl hP hD hS
    unfold f_Mo_found_143 at hv
    unfold k_Mo_found_143 at hk
    refine lv_aload_n hx hb d_Mo_found_143 rfl (lv_at hl 0 rfl) ?_
    refine va_get (v := .ref (h 11)) (C := R_Mo) (T := T_Mo) (N := 51) hx hb hg in_Mo hown hK hP 0 rfl rfl 16 (by decide) (hg _ m_1275) (fun _ h9 => h9) rfl d_Mo_found_144 ?_
    refine lv_aload_n hx hb d_Mo_found_147 rfl (lv_at hl 0 rfl) ?_
    refine va_get (v := .int (σ.1 0 8)) (C := R_Mo) (T := T_Mo) (N := 51) hx hb hg in_Mo hown hK hP 0 rfl rfl 8 (by decide) (hg _ m_1267) (fun _ h9 => h9) rfl d_Mo_found_148 ?_
    refine lv_iload hx hb d_Mo_found_151 (lv_at hl 5 rfl) ?_
    obtain ⟨hk0, hk⟩ := hk
    refine va_iast hx hb hK hP hD hS 11 0 rfl rfl hk0 d_Mo_found_153 (fun H locs hP hD hS => ?_)
    have hP : va_P D classes (Wm ty h (sA σ 11 (σ.1 0 8) x6) px) H := hP
    have hD : va_D A (Wm ty h (sA σ 11 (σ.1 0 8) x6) px) := hD
    exact B154 _ _ _ x1 x3 x4 x5 x7 (sA σ 11 (σ.1 0 8) x6) hv hk (lv_sub hl [0, 1, 2, 3, 4, 6] rfl) hP hD hS
  have B132 : ∀ (H : Heap) (locs : List Loc) (ls : Array Slot) (x1 : Int32) (x3 : Int32) (x4 : Int32) (x5 : Int32) (x6 : Int32) (x7 : Int32) (σ : St), v = f_Mo_found_132 x1 x3 x4 x5 x6 x7 σ → k_Mo_found_132 x1 x3 x4 x5 x6 x7 σ → lv_has ls 10 [(0, .ref (h 0)), (1, .int x1), (3, .int x3), (4, .int x4), (5, .int x5), (6, .int x6), (7, .int x7)] → va_P D classes (Wm ty h σ px) H → va_D A (Wm ty h σ px) → va_S A s.heap H locs → W p l e (headSpec w_Mo_found rm_Mo_found).room s m args below meth c H locs 0 0 (MQ below (va_Qi (fun r (u : St) => (r, u) = v) (fun u t => va_P D classes (Wm ty h u px) t.heap) A) args s 0 0 A) (F0 m 132 ls []) := by
    intro H locs ls x1 x3 x4 x5 x6 x7 σ hv hk hl hP hD hS
    unfold f_Mo_found_132 at hv
    unfold k_Mo_found_132 at hk
    refine lv_aload_n hx hb d_Mo_found_132 rfl (lv_at hl 0 rfl) ?_
    refine va_get (v := .ref (h 10)) (C := R_Mo) (T := T_Mo) (N := 51) hx hb hg in_Mo hown hK hP 0 rfl rfl 15 (by decide) (hg _ m_1274) (fun _ h9 => h9) rfl d_Mo_found_133 ?_
    refine lv_aload_n hx hb d_Mo_found_136 rfl (lv_at hl 0 rfl) ?_
    refine va_get (v := .int (σ.1 0 8)) (C := R_Mo) (T := T_Mo) (N := 51) hx hb hg in_Mo hown hK hP 0 rfl rfl 8 (by decide) (hg _ m_1267) (fun _ h9 => h9) rfl d_Mo_found_137 ?_
    refine lv_iload hx hb d_Mo_found_140 (lv_at hl 4 rfl) ?_
    obtain ⟨hk0, hk⟩ := hk
    refine va_iast hx hb hK hP hD hS 10 0 rfl rfl hk0 d_Mo_found_142 (fun H locs hP hD hS => ?_)
    have hP : va_P D classes (Wm ty h (sA σ 10 (σ.1 0 8) x5) px) H := hP
    have hD : va_D A (Wm ty h (sA σ 10 (σ.1 0 8) x5) px) := hD
    exact B143 _ _ _ x1 x3 x4 x5 x6 x7 (sA σ 10 (σ.1 0 8) x5) hv hk (lv_sub hl [0, 1, 2, 3, 4, 5, 6] rfl) hP hD hS
  have B121 : ∀ (H : Heap) (locs : List Loc) (ls : Array Slot) (x1 : Int32) (x3 : Int32) (x4 : Int32) (x5 : Int32) (x6 : Int32) (x7 : Int32) (σ : St), v = f_Mo_found_121 x1 x3 x4 x5 x6 x7 σ → k_Mo_found_121 x1 x3 x4 x5 x6 x7 σ → lv_has ls 10 [(0, .ref (h 0)), (1, .int x1), (3, .int x3), (4, .int x4), (5, .int x5), (6, .int x6), (7, .int x7)] → va_P D classes (Wm ty h σ px) H → va_D A (Wm ty h σ px) → va_S A s.heap H locs → W p l e (headSpec w_Mo_found rm_Mo_found).room s m args below meth c H locs 0 0 (MQ below (va_Qi (fun r (u : St) => (r, u) = v) (fun u t => va_P D classes (Wm ty h u px) t.heap) A) args s 0 0 A) (F0 m 121 ls []) := by
    intro H locs ls x1 x3 x4 x5 x6 x7 σ hv hk hl hP hD hS
    unfold f_Mo_found_121 at hv
    unfold k_Mo_found_121 at hk
    refine lv_aload_n hx hb d_Mo_found_121 rfl (lv_at hl 0 rfl) ?_
    refine va_get (v := .ref (h 9)) (C := R_Mo) (T := T_Mo) (N := 51) hx hb hg in_Mo hown hK hP 0 rfl rfl 14 (by decide) (hg _ m_1273) (fun _ h9 => h9) rfl d_Mo_found_122 ?_
    refine lv_aload_n hx hb d_Mo_found_125 rfl (lv_at hl 0 rfl) ?_
    refine va_get (v := .int (σ.1 0 8)) (C := R_Mo) (T := T_Mo) (N := 51) hx hb hg in_Mo hown hK hP 0 rfl rfl 8 (by decide) (hg _ m_1267) (fun _ h9 => h9) rfl d_Mo_found_126 ?_
    refine lv_iload hx hb d_Mo_found_129 (lv_at hl 3 rfl) ?_
    obtain ⟨hk0, hk⟩ := hk
    refine va_iast hx hb hK hP hD hS 9 0 rfl rfl hk0 d_Mo_found_131 (fun H locs hP hD hS => ?_)
    have hP : va_P D classes (Wm ty h (sA σ 9 (σ.1 0 8) x4) px) H := hP
    have hD : va_D A (Wm ty h (sA σ 9 (σ.1 0 8) x4) px) := hD
    exact B132 _ _ _ x1 x3 x4 x5 x6 x7 (sA σ 9 (σ.1 0 8) x4) hv hk (lv_sub hl [0, 1, 2, 3, 4, 5, 6] rfl) hP hD hS
  have B111 : ∀ (H : Heap) (locs : List Loc) (ls : Array Slot) (x1 : Int32) (x3 : Int32) (x4 : Int32) (x5 : Int32) (x6 : Int32) (x7 : Int32) (σ : St), v = f_Mo_found_111 x1 x3 x4 x5 x6 x7 σ → k_Mo_found_111 x1 x3 x4 x5 x6 x7 σ → lv_has ls 10 [(0, .ref (h 0)), (1, .int x1), (3, .int x3), (4, .int x4), (5, .int x5), (6, .int x6), (7, .int x7)] → va_P D classes (Wm ty h σ px) H → va_D A (Wm ty h σ px) → va_S A s.heap H locs → W p l e (headSpec w_Mo_found rm_Mo_found).room s m args below meth c H locs 0 0 (MQ below (va_Qi (fun r (u : St) => (r, u) = v) (fun u t => va_P D classes (Wm ty h u px) t.heap) A) args s 0 0 A) (F0 m 111 ls []) := by
    intro H locs ls x1 x3 x4 x5 x6 x7 σ hv hk hl hP hD hS
    unfold f_Mo_found_111 at hv
    unfold k_Mo_found_111 at hk
    refine lv_aload_n hx hb d_Mo_found_111 rfl (lv_at hl 0 rfl) ?_
    refine va_get (v := .ref (h 8)) (C := R_Mo) (T := T_Mo) (N := 51) hx hb hg in_Mo hown hK hP 0 rfl rfl 13 (by decide) (hg _ m_1272) (fun _ h9 => h9) rfl d_Mo_found_112 ?_
    refine lv_aload_n hx hb d_Mo_found_115 rfl (lv_at hl 0 rfl) ?_
    refine va_get (v := .int (σ.1 0 8)) (C := R_Mo) (T := T_Mo) (N := 51) hx hb hg in_Mo hown hK hP 0 rfl rfl 8 (by decide) (hg _ m_1267) (fun _ h9 => h9) rfl d_Mo_found_116 ?_
    refine lv_iload_n hx hb d_Mo_found_119 rfl (lv_at hl 2 rfl) ?_
    obtain ⟨hk0, hk⟩ := hk
    refine va_iast hx hb hK hP hD hS 8 0 rfl rfl hk0 d_Mo_found_120 (fun H locs hP hD hS => ?_)
    have hP : va_P D classes (Wm ty h (sA σ 8 (σ.1 0 8) x3) px) H := hP
    have hD : va_D A (Wm ty h (sA σ 8 (σ.1 0 8) x3) px) := hD
    exact B121 _ _ _ x1 x3 x4 x5 x6 x7 (sA σ 8 (σ.1 0 8) x3) hv hk (lv_sub hl [0, 1, 2, 3, 4, 5, 6] rfl) hP hD hS
  have B101 : ∀ (H : Heap) (locs : List Loc) (ls : Array Slot) (x1 : Int32) (x2 : Int32) (x3 : Int32) (x4 : Int32) (x5 : Int32) (x6 : Int32) (x7 : Int32) (σ : St), v = f_Mo_found_101 x1 x2 x3 x4 x5 x6 x7 σ → k_Mo_found_101 x1 x2 x3 x4 x5 x6 x7 σ → lv_has ls 10 [(0, .ref (h 0)), (1, .int x1), (2, .int x2), (3, .int x3), (4, .int x4), (5, .int x5), (6, .int x6), (7, .int x7)] → va_P D classes (Wm ty h σ px) H → va_D A (Wm ty h σ px) → va_S A s.heap H locs → W p l e (headSpec w_Mo_found rm_Mo_found).room s m args below meth c H locs 0 0 (MQ below (va_Qi (fun r (u : St) => (r, u) = v) (fun u t => va_P D classes (Wm ty h u px) t.heap) A) args s 0 0 A) (F0 m 101 ls []) := by
    intro H locs ls x1 x2 x3 x4 x5 x6 x7 σ hv hk hl hP hD hS
    unfold f_Mo_found_101 at hv
    unfold k_Mo_found_101 at hk
    refine lv_aload_n hx hb d_Mo_found_101 rfl (lv_at hl 0 rfl) ?_
    refine va_get (v := .ref (h 6)) (C := R_Mo) (T := T_Mo) (N := 51) hx hb hg in_Mo hown hK hP 0 rfl rfl 11 (by decide) (hg _ m_1270) (fun _ h9 => h9) rfl d_Mo_found_102 ?_
    refine lv_aload_n hx hb d_Mo_found_105 rfl (lv_at hl 0 rfl) ?_
    refine va_get (v := .int (σ.1 0 8)) (C := R_Mo) (T := T_Mo) (N := 51) hx hb hg in_Mo hown hK hP 0 rfl rfl 8 (by decide) (hg _ m_1267) (fun _ h9 => h9) rfl d_Mo_found_106 ?_
    refine lv_iload_n hx hb d_Mo_found_109 rfl (lv_at hl 2 rfl) ?_
    obtain ⟨hk0, hk⟩ := hk
    refine va_iast hx hb hK hP hD hS 6 0 rfl rfl hk0 d_Mo_found_110 (fun H locs hP hD hS => ?_)
    have hP : va_P D classes (Wm ty h (sA σ 6 (σ.1 0 8) x2) px) H := hP
    have hD : va_D A (Wm ty h (sA σ 6 (σ.1 0 8) x2) px) := hD
    exact B111 _ _ _ x1 x3 x4 x5 x6 x7 (sA σ 6 (σ.1 0 8) x2) hv hk (lv_sub hl [0, 1, 3, 4, 5, 6, 7] rfl) hP hD hS
  have B3 : ∀ (n3 : Nat) (H : Heap) (locs : List Loc) (ls : Array Slot) (x1 : Int32) (x2 : Int32) (x3 : Int32) (x4 : Int32) (x5 : Int32) (x6 : Int32) (x7 : Int32) (x8 : Int32) (σ : St), v = f_Mo_found_3 n3 x1 x2 x3 x4 x5 x6 x7 x8 σ → k_Mo_found_3 n3 x1 x2 x3 x4 x5 x6 x7 x8 σ → lv_has ls 10 [(0, .ref (h 0)), (1, .int x1), (2, .int x2), (3, .int x3), (4, .int x4), (5, .int x5), (6, .int x6), (7, .int x7), (8, .int x8)] → va_P D classes (Wm ty h σ px) H → va_D A (Wm ty h σ px) → va_S A s.heap H locs → W p l e (headSpec w_Mo_found rm_Mo_found).room s m args below meth c H locs 0 0 (MQ below (va_Qi (fun r (u : St) => (r, u) = v) (fun u t => va_P D classes (Wm ty h u px) t.heap) A) args s 0 0 A) (F0 m 3 ls []) := by
    intro n3
    induction n3 with
    | zero => intro H locs ls x1 x2 x3 x4 x5 x6 x7 x8 σ hv hk hl hP hD hS; exact hk.elim
    | succ n3 ih3 =>
      have B85 : ∀ (H : Heap) (locs : List Loc) (ls : Array Slot) (x1 : Int32) (x2 : Int32) (x3 : Int32) (x4 : Int32) (x5 : Int32) (x6 : Int32) (x7 : Int32) (x8 : Int32) (σ : St), v = f_Mo_found_85 (f_Mo_found_3 n3) x1 x2 x3 x4 x5 x6 x7 x8 σ → k_Mo_found_85 (k_Mo_found_3 n3) x1 x2 x3 x4 x5 x6 x7 x8 σ → lv_has ls 10 [(0, .ref (h 0)), (1, .int x1), (2, .int x2), (3, .int x3), (4, .int x4), (5, .int x5), (6, .int x6), (7, .int x7), (8, .int x8)] → va_P D classes (Wm ty h σ px) H → va_D A (Wm ty h σ px) → va_S A s.heap H locs → W p l e (headSpec w_Mo_found rm_Mo_found).room s m args below meth c H locs 0 0 (MQ below (va_Qi (fun r (u : St) => (r, u) = v) (fun u t => va_P D classes (Wm ty h u px) t.heap) A) args s 0 0 A) (F0 m 85 ls []) := by
        intro H locs ls x1 x2 x3 x4 x5 x6 x7 x8 σ hv hk hl hP hD hS
        unfold f_Mo_found_85 at hv
        unfold k_Mo_found_85 at hk
        refine lv_iinc (k := 8) (v := x8 + 1) (lv' := [(8, .int (x8 + 1)), (0, .ref (h 0)), (1, .int x1), (2, .int x2), (3, .int x3), (4, .int x4), (5, .int x5), (6, .int x6), (7, .int x7)]) hx hb d_Mo_found_85 hl rfl (by first | rfl | simp [lit1, litm1]) (by decide) rfl (fun ls hl => ?_)
        refine lv_goto (tgt := 3) hx hb d_Mo_found_88 (by decide) ?_
        exact ih3 _ _ _ x1 x2 x3 x4 x5 x6 x7 (x8 + 1) σ hv hk (lv_sub hl [1, 2, 3, 4, 5, 6, 7, 8, 0] rfl) hP hD hS
      intro H locs ls x1 x2 x3 x4 x5 x6 x7 x8 σ hv hk hl hP hD hS
      rw [f_Mo_found_3] at hv
      rw [k_Mo_found_3] at hk
      refine lv_iload hx hb d_Mo_found_3 (lv_at hl 8 rfl) ?_
      refine lv_aload_n hx hb d_Mo_found_5 rfl (lv_at hl 0 rfl) ?_
      refine va_get (v := .int (σ.1 0 8)) (C := R_Mo) (T := T_Mo) (N := 51) hx hb hg in_Mo hown hK hP 0 rfl rfl 8 (by decide) (hg _ m_1267) (fun _ h9 => h9) rfl d_Mo_found_6 ?_
      refine lv_icmp_ge (tgt := 91) hx hb d_Mo_found_9 (by decide) (fun hc => ?_) (fun hc => ?_)
      · have hv := hv.trans (if_pos hc)
        have hk := hk.1 hc
        refine lv_aload_n hx hb d_Mo_found_91 rfl (lv_at hl 0 rfl) ?_
        refine va_get (v := .ref (h 5)) (C := R_Mo) (T := T_Mo) (N := 51) hx hb hg in_Mo hown hK hP 0 rfl rfl 10 (by decide) (hg _ m_1269) (fun _ h9 => h9) rfl d_Mo_found_92 ?_
        refine lv_aload_n hx hb d_Mo_found_95 rfl (lv_at hl 0 rfl) ?_
        refine va_get (v := .int (σ.1 0 8)) (C := R_Mo) (T := T_Mo) (N := 51) hx hb hg in_Mo hown hK hP 0 rfl rfl 8 (by decide) (hg _ m_1267) (fun _ h9 => h9) rfl d_Mo_found_96 ?_
        refine lv_iload_n hx hb d_Mo_found_99 rfl (lv_at hl 1 rfl) ?_
        obtain ⟨hk0, hk⟩ := hk
        refine va_iast hx hb hK hP hD hS 5 0 rfl rfl hk0 d_Mo_found_100 (fun H locs hP hD hS => ?_)
        have hP : va_P D classes (Wm ty h (sA σ 5 (σ.1 0 8) x1) px) H := hP
        have hD : va_D A (Wm ty h (sA σ 5 (σ.1 0 8) x1) px) := hD
        exact B101 _ _ _ x1 x2 x3 x4 x5 x6 x7 (sA σ 5 (σ.1 0 8) x1) hv hk (lv_sub hl [0, 1, 2, 3, 4, 5, 6, 7] rfl) hP hD hS
      · have hv := hv.trans (if_neg hc)
        have hk := hk.2 hc
        refine lv_aload_n hx hb d_Mo_found_12 rfl (lv_at hl 0 rfl) ?_
        refine va_get (v := .ref (h 5)) (C := R_Mo) (T := T_Mo) (N := 51) hx hb hg in_Mo hown hK hP 0 rfl rfl 10 (by decide) (hg _ m_1269) (fun _ h9 => h9) rfl d_Mo_found_13 ?_
        refine lv_iload hx hb d_Mo_found_16 (lv_at hl 8 rfl) ?_
        obtain ⟨hk0, hk⟩ := hk
        refine va_iald hx hb hK hP 5 0 rfl rfl hk0 d_Mo_found_18 ?_
        refine lv_iload_n hx hb d_Mo_found_19 rfl (lv_at hl 1 rfl) ?_
        refine lv_icmp_ne (tgt := 85) hx hb d_Mo_found_20 (by decide) (fun hc => ?_) (fun hc => ?_)
        · have hv := hv.trans (if_neg hc)
          have hk := hk.2 hc
          exact B85 _ _ _ x1 x2 x3 x4 x5 x6 x7 x8 σ hv hk (lv_sub hl [0, 1, 2, 3, 4, 5, 6, 7, 8] rfl) hP hD hS
        · have hv := hv.trans (if_pos hc)
          have hk := hk.1 hc
          refine lv_aload_n hx hb d_Mo_found_23 rfl (lv_at hl 0 rfl) ?_
          refine va_get (v := .ref (h 8)) (C := R_Mo) (T := T_Mo) (N := 51) hx hb hg in_Mo hown hK hP 0 rfl rfl 13 (by decide) (hg _ m_1272) (fun _ h9 => h9) rfl d_Mo_found_24 ?_
          refine lv_iload hx hb d_Mo_found_27 (lv_at hl 8 rfl) ?_
          obtain ⟨hk0, hk⟩ := hk
          refine va_iald hx hb hK hP 8 0 rfl rfl hk0 d_Mo_found_29 ?_
          refine lv_iload_n hx hb d_Mo_found_30 rfl (lv_at hl 3 rfl) ?_
          refine lv_icmp_ne (tgt := 85) hx hb d_Mo_found_31 (by decide) (fun hc => ?_) (fun hc => ?_)
          · have hv := hv.trans (if_neg hc)
            have hk := hk.2 hc
            exact B85 _ _ _ x1 x2 x3 x4 x5 x6 x7 x8 σ hv hk (lv_sub hl [0, 1, 2, 3, 4, 5, 6, 7, 8] rfl) hP hD hS
          · have hv := hv.trans (if_pos hc)
            have hk := hk.1 hc
            refine lv_aload_n hx hb d_Mo_found_34 rfl (lv_at hl 0 rfl) ?_
            refine va_get (v := .ref (h 9)) (C := R_Mo) (T := T_Mo) (N := 51) hx hb hg in_Mo hown hK hP 0 rfl rfl 14 (by decide) (hg _ m_1273) (fun _ h9 => h9) rfl d_Mo_found_35 ?_
            refine lv_iload hx hb d_Mo_found_38 (lv_at hl 8 rfl) ?_
            obtain ⟨hk0, hk⟩ := hk
            refine va_iald hx hb hK hP 9 0 rfl rfl hk0 d_Mo_found_40 ?_
            refine lv_iload hx hb d_Mo_found_41 (lv_at hl 4 rfl) ?_
            refine lv_icmp_ne (tgt := 85) hx hb d_Mo_found_43 (by decide) (fun hc => ?_) (fun hc => ?_)
            · have hv := hv.trans (if_neg hc)
              have hk := hk.2 hc
              exact B85 _ _ _ x1 x2 x3 x4 x5 x6 x7 x8 σ hv hk (lv_sub hl [0, 1, 2, 3, 4, 5, 6, 7, 8] rfl) hP hD hS
            · have hv := hv.trans (if_pos hc)
              have hk := hk.1 hc
              refine lv_aload_n hx hb d_Mo_found_46 rfl (lv_at hl 0 rfl) ?_
              refine va_get (v := .ref (h 10)) (C := R_Mo) (T := T_Mo) (N := 51) hx hb hg in_Mo hown hK hP 0 rfl rfl 15 (by decide) (hg _ m_1274) (fun _ h9 => h9) rfl d_Mo_found_47 ?_
              refine lv_iload hx hb d_Mo_found_50 (lv_at hl 8 rfl) ?_
              obtain ⟨hk0, hk⟩ := hk
              refine va_iald hx hb hK hP 10 0 rfl rfl hk0 d_Mo_found_52 ?_
              refine lv_iload hx hb d_Mo_found_53 (lv_at hl 5 rfl) ?_
              refine lv_icmp_ne (tgt := 85) hx hb d_Mo_found_55 (by decide) (fun hc => ?_) (fun hc => ?_)
              · have hv := hv.trans (if_neg hc)
                have hk := hk.2 hc
                exact B85 _ _ _ x1 x2 x3 x4 x5 x6 x7 x8 σ hv hk (lv_sub hl [0, 1, 2, 3, 4, 5, 6, 7, 8] rfl) hP hD hS
              · have hv := hv.trans (if_pos hc)
                have hk := hk.1 hc
                refine lv_aload_n hx hb d_Mo_found_58 rfl (lv_at hl 0 rfl) ?_
                refine va_get (v := .ref (h 11)) (C := R_Mo) (T := T_Mo) (N := 51) hx hb hg in_Mo hown hK hP 0 rfl rfl 16 (by decide) (hg _ m_1275) (fun _ h9 => h9) rfl d_Mo_found_59 ?_
                refine lv_iload hx hb d_Mo_found_62 (lv_at hl 8 rfl) ?_
                obtain ⟨hk0, hk⟩ := hk
                refine va_iald hx hb hK hP 11 0 rfl rfl hk0 d_Mo_found_64 ?_
                refine lv_iload hx hb d_Mo_found_65 (lv_at hl 6 rfl) ?_
                refine lv_icmp_ne (tgt := 85) hx hb d_Mo_found_67 (by decide) (fun hc => ?_) (fun hc => ?_)
                · have hv := hv.trans (if_neg hc)
                  have hk := hk.2 hc
                  exact B85 _ _ _ x1 x2 x3 x4 x5 x6 x7 x8 σ hv hk (lv_sub hl [0, 1, 2, 3, 4, 5, 6, 7, 8] rfl) hP hD hS
                · have hv := hv.trans (if_pos hc)
                  have hk := hk.1 hc
                  refine lv_aload_n hx hb d_Mo_found_70 rfl (lv_at hl 0 rfl) ?_
                  refine va_get (v := .ref (h 12)) (C := R_Mo) (T := T_Mo) (N := 51) hx hb hg in_Mo hown hK hP 0 rfl rfl 17 (by decide) (hg _ m_1276) (fun _ h9 => h9) rfl d_Mo_found_71 ?_
                  refine lv_iload hx hb d_Mo_found_74 (lv_at hl 8 rfl) ?_
                  obtain ⟨hk0, hk⟩ := hk
                  refine va_iald hx hb hK hP 12 0 rfl rfl hk0 d_Mo_found_76 ?_
                  refine lv_iload hx hb d_Mo_found_77 (lv_at hl 7 rfl) ?_
                  refine lv_icmp_ne (tgt := 85) hx hb d_Mo_found_79 (by decide) (fun hc => ?_) (fun hc => ?_)
                  · have hv := hv.trans (if_neg hc)
                    have hk := hk.2 hc
                    exact B85 _ _ _ x1 x2 x3 x4 x5 x6 x7 x8 σ hv hk (lv_sub hl [0, 1, 2, 3, 4, 5, 6, 7, 8] rfl) hP hD hS
                  · have hv := hv.trans (if_pos hc)
                    have hk := hk.1 hc
                    refine lv_iload hx hb d_Mo_found_82 (lv_at hl 8 rfl) ?_
                    exact W.iret hx hb hr (fun t ht hW => ⟨⟨_, _, rfl, hv.symm, by dsimp only; rw [ht]; exact hP⟩, hS.F ht⟩) hS.2.2 d_Mo_found_84
  unfold f_Mo_found at hv
  unfold k_Mo_found at hk
  refine lv_iconst (v := 0) hx hb d_Mo_found_0 (by decide) ?_
  refine lv_istore (lv' := [(8, .int 0), (0, .ref (h 0)), (1, .int a1), (2, .int a2), (3, .int a3), (4, .int a4), (5, .int a5), (6, .int a6), (7, .int a7)]) hx hb d_Mo_found_1 hl (by decide) rfl (fun ls hl => ?_)
  exact B3 1000 _ _ _ a1 a2 a3 a4 a5 a6 a7 0 σ hv hk (lv_sub hl [1, 2, 3, 4, 5, 6, 7, 8, 0] rfl) hP hD hS

-- ClauseLedgerModel.made(III)I
abbrev b_Mo_made : ByteArray := prog_14_method_7_code
def y_Mo_made : MethodName := ⟨"ClauseLedgerModel", "made", "(III)I"⟩
theorem hd_Mo_made : y_Mo_made.cls ≠ "java/lang/invoke/MethodHandle" ∧ y_Mo_made.cls ≠ "java/lang/invoke/VarHandle" ∧ (parseMethodDescriptor y_Mo_made.desc).map (fun d => d.parameters.length) = some 3 := by decide +kernel
theorem d_Mo_made_0 : decode b_Mo_made 0 = .ok (.aload_n 0, 1) := by decide +kernel
theorem d_Mo_made_1 : decode b_Mo_made 1 = .ok (.iload_n 1, 1) := by decide +kernel
theorem d_Mo_made_2 : decode b_Mo_made 2 = .ok (.iload_n 1, 1) := by decide +kernel
theorem d_Mo_made_3 : decode b_Mo_made 3 = .ok (.iconst 3, 1) := by decide +kernel
theorem d_Mo_made_4 : decode b_Mo_made 4 = .ok (.if_icmp .eq 8, 3) := by decide +kernel
theorem d_Mo_made_7 : decode b_Mo_made 7 = .ok (.iload_n 1, 1) := by decide +kernel
theorem d_Mo_made_8 : decode b_Mo_made 8 = .ok (.iconst 4, 1) := by decide +kernel
theorem d_Mo_made_9 : decode b_Mo_made 9 = .ok (.if_icmp .ne 7, 3) := by decide +kernel
theorem d_Mo_made_12 : decode b_Mo_made 12 = .ok (.iconst 1, 1) := by decide +kernel
theorem d_Mo_made_13 : decode b_Mo_made 13 = .ok (.goto 4, 3) := by decide +kernel
theorem d_Mo_made_16 : decode b_Mo_made 16 = .ok (.iconst 0, 1) := by decide +kernel
theorem d_Mo_made_17 : decode b_Mo_made 17 = .ok (.iload_n 2, 1) := by decide +kernel
theorem d_Mo_made_18 : decode b_Mo_made 18 = .ok (.iload_n 3, 1) := by decide +kernel
theorem d_Mo_made_19 : decode b_Mo_made 19 = .ok (.iconst (-1), 1) := by decide +kernel
theorem d_Mo_made_20 : decode b_Mo_made 20 = .ok (.iconst 0, 1) := by decide +kernel
theorem d_Mo_made_21 : decode b_Mo_made 21 = .ok (.iconst 0, 1) := by decide +kernel
theorem d_Mo_made_22 : decode b_Mo_made 22 = .ok (.invokevirtual 112, 3) := by decide +kernel
theorem d_Mo_made_25 : decode b_Mo_made 25 = .ok (.ireturn, 1) := by decide +kernel
def f_Mo_made_25 (s0 : Int32) (σ : St) : Int32 × St := (s0, σ)
def k_Mo_made_25 (s0 : Int32) (σ : St) : Prop := True
def f_Mo_made_17 (x2 : Int32) (x3 : Int32) (s0 : Int32) (s1 : Int32) (σ : St) : Int32 × St := f_Mo_made_25 ((f_Mo_found s1 s0 x2 x3 (-1) 0 0 σ).1) ((f_Mo_found s1 s0 x2 x3 (-1) 0 0 σ).2)
def k_Mo_made_17 (x2 : Int32) (x3 : Int32) (s0 : Int32) (s1 : Int32) (σ : St) : Prop := (k_Mo_found s1 s0 x2 x3 (-1) 0 0 σ) ∧ (k_Mo_made_25 ((f_Mo_found s1 s0 x2 x3 (-1) 0 0 σ).1) ((f_Mo_found s1 s0 x2 x3 (-1) 0 0 σ).2))
def f_Mo_made_12 (x2 : Int32) (x3 : Int32) (s0 : Int32) (σ : St) : Int32 × St := f_Mo_made_17 x2 x3 1 s0 σ
def k_Mo_made_12 (x2 : Int32) (x3 : Int32) (s0 : Int32) (σ : St) : Prop := k_Mo_made_17 x2 x3 1 s0 σ
def f_Mo_made (a1 : Int32) (a2 : Int32) (a3 : Int32) (σ : St) : Int32 × St := if a1 = 3 then (f_Mo_made_12 a2 a3 a1 σ) else (if a1 = 4 then (f_Mo_made_12 a2 a3 a1 σ) else (f_Mo_made_17 a2 a3 0 a1 σ))
def k_Mo_made (a1 : Int32) (a2 : Int32) (a3 : Int32) (σ : St) : Prop := (a1 = 3 → (k_Mo_made_12 a2 a3 a1 σ)) ∧ (¬ a1 = 3 → ((a1 = 4 → (k_Mo_made_12 a2 a3 a1 σ)) ∧ (¬ a1 = 4 → (k_Mo_made_17 a2 a3 0 a1 σ))))
abbrev w_Mo_made : List Cond := Cond.code y_Mo_made b_Mo_made 4 (some .int) :: gw
abbrev rm_Mo_made : Room := { frames := 1, cells := 0, slots := 0, locals := 29 }
set_option maxHeartbeats 4000000 in
set_option maxRecDepth 100000 in
theorem c_Mo_made (l : Launch) (D : va_G) (ty : Nat → ClassId) (h : Nat → Nat) (px : va_W) (sa : Nat → Nat) (σ : St) (sz : Nat) (a1 : Int32) (a2 : Int32) (a3 : Int32) (hk : k_Mo_made a1 a2 a3 σ) : Met l y_Mo_made w_Mo_made rm_Mo_made (va_Pc [.ref (h 0), .int a1, .int a2, .int a3] (fun U => U.heap.size = sz ∧ va_P D classes (Wm ty h σ px) U.heap ∧ va_K D classes (Ta ty) U ∧ NW U ∧ MK sa (va_A (Wm ty h σ px) sz) U U.heap ∧ va_D (fun _ => True) (Wm ty h σ px))) (va_Qi (fun r (u : St) => (r, u) = f_Mo_made a1 a2 a3 σ) (fun u t => va_P D classes (Wm ty h u px) t.heap) (va_A (Wm ty h σ px) sz)) 0 0 (va_A (Wm ty h σ px) sz) := by
  refine Met.ofW (cc := b_Mo_made) (maxL := 4) (ret := (some .int)) (by decide) rfl ?_
  intro p e s m args below meth c s₁ B hml hv
  obtain ⟨ha, hsz, hP, hK, hN, hM, hD0⟩ := hv
  have hx := B.exec
  have hb := B.bytes
  have hr := B.returns
  have hg : ∀ w ∈ gw, w.before args s = true := fun w h9 => atoms_spec (ws := w_Mo_made) B.pre w (List.mem_cons_of_mem _ h9)
  have hown : s.vm.findClass "ClauseLedgerModel" = some m.cls := findClass_of_methodNamed B.named
  have hlocks := B.notSynchronized
  subst hsz
  have hD := hD0.self (sz := s.heap.size)
  generalize hAe : va_A (Wm ty h σ px) s.heap.size = A at hD hM ⊢
  have hA : ∀ q : Nat, s.heap.size ≤ q → A q := fun q h9 => by rw [← hAe]; exact Or.inr h9
  have hS : va_S A s.heap s.heap [] := va_S.rf
  have he : entryFrame m args 4 = entryFrame m ([.ref (h 0), .int a1, .int a2, .int a3] : List Value).toArray 4 := by rw [ha]
  rw [he, lg_entry_eq]
  have hl := lv_entry ([.ref (h 0), .int a1, .int a2, .int a3]) (n := 4) (Nat.le_of_ble_eq_true rfl)
  generalize (lg_sl ([.ref (h 0), .int a1, .int a2, .int a3]) ++ List.replicate (4 - (lg_sl ([.ref (h 0), .int a1, .int a2, .int a3])).length) Slot.unset).toArray = ls at hl ⊢
  have hl : lv_has ls 4 [(0, .ref (h 0)), (1, .int a1), (2, .int a2), (3, .int a3)] := hl
  generalize hv : f_Mo_made a1 a2 a3 σ = v
  replace hv := hv.symm
  have B25 : ∀ (H : Heap) (locs : List Loc) (ls : Array Slot) (s0 : Int32) (σ : St), v = f_Mo_made_25 s0 σ → k_Mo_made_25 s0 σ → lv_has ls 4 [] → va_P D classes (Wm ty h σ px) H → va_D A (Wm ty h σ px) → va_S A s.heap H locs → W p l e (headSpec w_Mo_made rm_Mo_made).room s m args below meth c H locs 0 0 (MQ below (va_Qi (fun r (u : St) => (r, u) = v) (fun u t => va_P D classes (Wm ty h u px) t.heap) A) args s 0 0 A) (F0 m 25 ls [.int s0]) := by
    intro H locs ls s0 σ hv hk hl hP hD hS
    unfold f_Mo_made_25 at hv
    unfold k_Mo_made_25 at hk
    exact W.iret hx hb hr (fun t ht hW => ⟨⟨_, _, rfl, hv.symm, by dsimp only; rw [ht]; exact hP⟩, hS.F ht⟩) hS.2.2 d_Mo_made_25
  have B17 : ∀ (H : Heap) (locs : List Loc) (ls : Array Slot) (x2 : Int32) (x3 : Int32) (s0 : Int32) (s1 : Int32) (σ : St), v = f_Mo_made_17 x2 x3 s0 s1 σ → k_Mo_made_17 x2 x3 s0 s1 σ → lv_has ls 4 [(2, .int x2), (3, .int x3)] → va_P D classes (Wm ty h σ px) H → va_D A (Wm ty h σ px) → va_S A s.heap H locs → W p l e (headSpec w_Mo_made rm_Mo_made).room s m args below meth c H locs 0 0 (MQ below (va_Qi (fun r (u : St) => (r, u) = v) (fun u t => va_P D classes (Wm ty h u px) t.heap) A) args s 0 0 A) (F0 m 17 ls [.int s0, .int s1, .ref (h 0)]) := by
    intro H locs ls x2 x3 s0 s1 σ hv hk hl hP hD hS
    unfold f_Mo_made_17 at hv
    unfold k_Mo_made_17 at hk
    refine lv_iload_n hx hb d_Mo_made_17 rfl (lv_at hl 0 rfl) ?_
    refine lv_iload_n hx hb d_Mo_made_18 rfl (lv_at hl 1 rfl) ?_
    refine lv_iconst (v := -1) hx hb d_Mo_made_19 (by decide) ?_
    refine lv_iconst (v := 0) hx hb d_Mo_made_20 (by decide) ?_
    refine lv_iconst (v := 0) hx hb d_Mo_made_21 (by decide) ?_
    obtain ⟨hk0, hk⟩ := hk
    refine va_calli (va_runV (As := [.int s1, .int s0, .int x2, .int x3, .int (-1), .int 0, .int 0]) (rest := []) ⟨hx, hb, hml, hown, hg⟩ (c_Mo_found l D ty h px sa σ H.size s1 s0 x2 x3 (-1) 0 0 hk0) ⟨callB_of 7 hg (gw_C m_1484) rfl rfl rfl (hg _ m_13) (hg _ m_1481) hd_Mo_found ⟨Nat.le_of_ble_eq_true rfl, Nat.le_of_ble_eq_true rfl⟩, hg _ m_1483, hg _ ms_57⟩ (zz_preVW hM hS hA hN hK hP hD 0 rfl rfl) rfl rfl hl.1 rfl (lv_room (Nat.le_of_ble_eq_true rfl)) d_Mo_made_22 ⟨Nat.le_of_ble_eq_true rfl, Nat.le_of_ble_eq_true rfl⟩) hS (fun q _ h => zz_free hD hS hA q h) (zz_free hD hS hA) (fun r22 u22 t H locs ht hvm hp hP1 hz hk1 hS => ?_)
    rw [ht] at hP1
    rw [← hp] at hv hk
    have hD : va_D A (Wm ty h u22 px) := zz_D hD rfl
    have hP := hP1
    exact B25 _ _ _ r22 u22 hv hk (lv_sub hl [] rfl) hP hD hS
  have B12 : ∀ (H : Heap) (locs : List Loc) (ls : Array Slot) (x2 : Int32) (x3 : Int32) (s0 : Int32) (σ : St), v = f_Mo_made_12 x2 x3 s0 σ → k_Mo_made_12 x2 x3 s0 σ → lv_has ls 4 [(2, .int x2), (3, .int x3)] → va_P D classes (Wm ty h σ px) H → va_D A (Wm ty h σ px) → va_S A s.heap H locs → W p l e (headSpec w_Mo_made rm_Mo_made).room s m args below meth c H locs 0 0 (MQ below (va_Qi (fun r (u : St) => (r, u) = v) (fun u t => va_P D classes (Wm ty h u px) t.heap) A) args s 0 0 A) (F0 m 12 ls [.int s0, .ref (h 0)]) := by
    intro H locs ls x2 x3 s0 σ hv hk hl hP hD hS
    unfold f_Mo_made_12 at hv
    unfold k_Mo_made_12 at hk
    refine lv_iconst (v := 1) hx hb d_Mo_made_12 (by decide) ?_
    refine lv_goto (tgt := 17) hx hb d_Mo_made_13 (by decide) ?_
    exact B17 _ _ _ x2 x3 1 s0 σ hv hk (lv_sub hl [0, 1] rfl) hP hD hS
  unfold f_Mo_made at hv
  unfold k_Mo_made at hk
  refine lv_aload_n hx hb d_Mo_made_0 rfl (lv_at hl 0 rfl) ?_
  refine lv_iload_n hx hb d_Mo_made_1 rfl (lv_at hl 1 rfl) ?_
  refine lv_iload_n hx hb d_Mo_made_2 rfl (lv_at hl 1 rfl) ?_
  refine lv_iconst (v := 3) hx hb d_Mo_made_3 (by decide) ?_
  refine lv_icmp_eq (tgt := 12) hx hb d_Mo_made_4 (by decide) (fun hc => ?_) (fun hc => ?_)
  · have hv := hv.trans (if_pos hc)
    have hk := hk.1 hc
    exact B12 _ _ _ a2 a3 a1 σ hv hk (lv_sub hl [2, 3] rfl) hP hD hS
  · have hv := hv.trans (if_neg hc)
    have hk := hk.2 hc
    refine lv_iload_n hx hb d_Mo_made_7 rfl (lv_at hl 1 rfl) ?_
    refine lv_iconst (v := 4) hx hb d_Mo_made_8 (by decide) ?_
    refine lv_icmp_ne (tgt := 16) hx hb d_Mo_made_9 (by decide) (fun hc => ?_) (fun hc => ?_)
    · have hv := hv.trans (if_neg hc)
      have hk := hk.2 hc
      refine lv_iconst (v := 0) hx hb d_Mo_made_16 (by decide) ?_
      exact B17 _ _ _ a2 a3 0 a1 σ hv hk (lv_sub hl [2, 3] rfl) hP hD hS
    · have hv := hv.trans (if_pos hc)
      have hk := hk.1 hc
      exact B12 _ _ _ a2 a3 a1 σ hv hk (lv_sub hl [2, 3] rfl) hP hD hS

-- ClauseLedgerModel.opposite(I)I
abbrev b_Mo_opposite : ByteArray := prog_14_method_8_code
def y_Mo_opposite : MethodName := ⟨"ClauseLedgerModel", "opposite", "(I)I"⟩
theorem hd_Mo_opposite : y_Mo_opposite.cls ≠ "java/lang/invoke/MethodHandle" ∧ y_Mo_opposite.cls ≠ "java/lang/invoke/VarHandle" ∧ (parseMethodDescriptor y_Mo_opposite.desc).map (fun d => d.parameters.length) = some 1 := by decide +kernel
theorem d_Mo_opposite_0 : decode b_Mo_opposite 0 = .ok (.aload_n 0, 1) := by decide +kernel
theorem d_Mo_opposite_1 : decode b_Mo_opposite 1 = .ok (.getfield 26, 3) := by decide +kernel
theorem d_Mo_opposite_4 : decode b_Mo_opposite 4 = .ok (.iload_n 1, 1) := by decide +kernel
theorem d_Mo_opposite_5 : decode b_Mo_opposite 5 = .ok (.iaload, 1) := by decide +kernel
theorem d_Mo_opposite_6 : decode b_Mo_opposite 6 = .ok (.bipush 7, 2) := by decide +kernel
theorem d_Mo_opposite_8 : decode b_Mo_opposite 8 = .ok (.if_icmp .ne 12, 3) := by decide +kernel
theorem d_Mo_opposite_11 : decode b_Mo_opposite 11 = .ok (.aload_n 0, 1) := by decide +kernel
theorem d_Mo_opposite_12 : decode b_Mo_opposite 12 = .ok (.getfield 35, 3) := by decide +kernel
theorem d_Mo_opposite_15 : decode b_Mo_opposite 15 = .ok (.iload_n 1, 1) := by decide +kernel
theorem d_Mo_opposite_16 : decode b_Mo_opposite 16 = .ok (.iaload, 1) := by decide +kernel
theorem d_Mo_opposite_17 : decode b_Mo_opposite 17 = .ok (.goto 11, 3) := by decide +kernel
theorem d_Mo_opposite_20 : decode b_Mo_opposite 20 = .ok (.aload_n 0, 1) := by decide +kernel
theorem d_Mo_opposite_21 : decode b_Mo_opposite 21 = .ok (.bipush 7, 2) := by decide +kernel
theorem d_Mo_opposite_23 : decode b_Mo_opposite 23 = .ok (.iload_n 1, 1) := by decide +kernel
theorem d_Mo_opposite_24 : decode b_Mo_opposite 24 = .ok (.iconst (-1), 1) := by decide +kernel
theorem d_Mo_opposite_25 : decode b_Mo_opposite 25 = .ok (.invokevirtual 116, 3) := by decide +kernel
theorem d_Mo_opposite_28 : decode b_Mo_opposite 28 = .ok (.ireturn, 1) := by decide +kernel
def f_Mo_opposite_28 (s0 : Int32) (σ : St) : Int32 × St := (s0, σ)
def k_Mo_opposite_28 (s0 : Int32) (σ : St) : Prop := True
def f_Mo_opposite (a1 : Int32) (σ : St) : Int32 × St := if (σ.1 5 a1.toNatClampNeg) = 7 then (f_Mo_opposite_28 (σ.1 8 a1.toNatClampNeg) σ) else (f_Mo_opposite_28 ((f_Mo_made 7 a1 (-1) σ).1) ((f_Mo_made 7 a1 (-1) σ).2))
def k_Mo_opposite (a1 : Int32) (σ : St) : Prop := vp_in a1 400 ∧ (((σ.1 5 a1.toNatClampNeg) = 7 → (vp_in a1 400 ∧ (k_Mo_opposite_28 (σ.1 8 a1.toNatClampNeg) σ))) ∧ (¬ (σ.1 5 a1.toNatClampNeg) = 7 → ((k_Mo_made 7 a1 (-1) σ) ∧ (k_Mo_opposite_28 ((f_Mo_made 7 a1 (-1) σ).1) ((f_Mo_made 7 a1 (-1) σ).2)))))
abbrev w_Mo_opposite : List Cond := Cond.code y_Mo_opposite b_Mo_opposite 2 (some .int) :: gw
abbrev rm_Mo_opposite : Room := { frames := 2, cells := 0, slots := 0, locals := 52 }
set_option maxHeartbeats 4000000 in
set_option maxRecDepth 100000 in
theorem c_Mo_opposite (l : Launch) (D : va_G) (ty : Nat → ClassId) (h : Nat → Nat) (px : va_W) (sa : Nat → Nat) (σ : St) (sz : Nat) (a1 : Int32) (hk : k_Mo_opposite a1 σ) : Met l y_Mo_opposite w_Mo_opposite rm_Mo_opposite (va_Pc [.ref (h 0), .int a1] (fun U => U.heap.size = sz ∧ va_P D classes (Wm ty h σ px) U.heap ∧ va_K D classes (Ta ty) U ∧ NW U ∧ MK sa (va_A (Wm ty h σ px) sz) U U.heap ∧ va_D (fun _ => True) (Wm ty h σ px))) (va_Qi (fun r (u : St) => (r, u) = f_Mo_opposite a1 σ) (fun u t => va_P D classes (Wm ty h u px) t.heap) (va_A (Wm ty h σ px) sz)) 0 0 (va_A (Wm ty h σ px) sz) := by
  refine Met.ofW (cc := b_Mo_opposite) (maxL := 2) (ret := (some .int)) (by decide) rfl ?_
  intro p e s m args below meth c s₁ B hml hv
  obtain ⟨ha, hsz, hP, hK, hN, hM, hD0⟩ := hv
  have hx := B.exec
  have hb := B.bytes
  have hr := B.returns
  have hg : ∀ w ∈ gw, w.before args s = true := fun w h9 => atoms_spec (ws := w_Mo_opposite) B.pre w (List.mem_cons_of_mem _ h9)
  have hown : s.vm.findClass "ClauseLedgerModel" = some m.cls := findClass_of_methodNamed B.named
  have hlocks := B.notSynchronized
  subst hsz
  have hD := hD0.self (sz := s.heap.size)
  generalize hAe : va_A (Wm ty h σ px) s.heap.size = A at hD hM ⊢
  have hA : ∀ q : Nat, s.heap.size ≤ q → A q := fun q h9 => by rw [← hAe]; exact Or.inr h9
  have hS : va_S A s.heap s.heap [] := va_S.rf
  have he : entryFrame m args 2 = entryFrame m ([.ref (h 0), .int a1] : List Value).toArray 2 := by rw [ha]
  rw [he, lg_entry_eq]
  have hl := lv_entry ([.ref (h 0), .int a1]) (n := 2) (Nat.le_of_ble_eq_true rfl)
  generalize (lg_sl ([.ref (h 0), .int a1]) ++ List.replicate (2 - (lg_sl ([.ref (h 0), .int a1])).length) Slot.unset).toArray = ls at hl ⊢
  have hl : lv_has ls 2 [(0, .ref (h 0)), (1, .int a1)] := hl
  generalize hv : f_Mo_opposite a1 σ = v
  replace hv := hv.symm
  have B28 : ∀ (H : Heap) (locs : List Loc) (ls : Array Slot) (s0 : Int32) (σ : St), v = f_Mo_opposite_28 s0 σ → k_Mo_opposite_28 s0 σ → lv_has ls 2 [] → va_P D classes (Wm ty h σ px) H → va_D A (Wm ty h σ px) → va_S A s.heap H locs → W p l e (headSpec w_Mo_opposite rm_Mo_opposite).room s m args below meth c H locs 0 0 (MQ below (va_Qi (fun r (u : St) => (r, u) = v) (fun u t => va_P D classes (Wm ty h u px) t.heap) A) args s 0 0 A) (F0 m 28 ls [.int s0]) := by
    intro H locs ls s0 σ hv hk hl hP hD hS
    unfold f_Mo_opposite_28 at hv
    unfold k_Mo_opposite_28 at hk
    exact W.iret hx hb hr (fun t ht hW => ⟨⟨_, _, rfl, hv.symm, by dsimp only; rw [ht]; exact hP⟩, hS.F ht⟩) hS.2.2 d_Mo_opposite_28
  unfold f_Mo_opposite at hv
  unfold k_Mo_opposite at hk
  refine lv_aload_n hx hb d_Mo_opposite_0 rfl (lv_at hl 0 rfl) ?_
  refine va_get (v := .ref (h 5)) (C := R_Mo) (T := T_Mo) (N := 51) hx hb hg in_Mo hown hK hP 0 rfl rfl 10 (by decide) (hg _ m_1269) (fun _ h9 => h9) rfl d_Mo_opposite_1 ?_
  refine lv_iload_n hx hb d_Mo_opposite_4 rfl (lv_at hl 1 rfl) ?_
  obtain ⟨hk0, hk⟩ := hk
  refine va_iald hx hb hK hP 5 0 rfl rfl hk0 d_Mo_opposite_5 ?_
  refine lv_bipush (v := 7) hx hb d_Mo_opposite_6 (by decide) ?_
  refine lv_icmp_ne (tgt := 20) hx hb d_Mo_opposite_8 (by decide) (fun hc => ?_) (fun hc => ?_)
  · have hv := hv.trans (if_neg hc)
    have hk := hk.2 hc
    refine lv_aload_n hx hb d_Mo_opposite_20 rfl (lv_at hl 0 rfl) ?_
    refine lv_bipush (v := 7) hx hb d_Mo_opposite_21 (by decide) ?_
    refine lv_iload_n hx hb d_Mo_opposite_23 rfl (lv_at hl 1 rfl) ?_
    refine lv_iconst (v := -1) hx hb d_Mo_opposite_24 (by decide) ?_
    obtain ⟨hk0, hk⟩ := hk
    refine va_calli (va_runV (As := [.int 7, .int a1, .int (-1)]) (rest := []) ⟨hx, hb, hml, hown, hg⟩ (c_Mo_made l D ty h px sa σ s.heap.size 7 a1 (-1) hk0) ⟨callB_of 3 hg (gw_C m_1503) rfl rfl rfl (hg _ m_13) (hg _ m_1500) hd_Mo_made ⟨Nat.le_of_ble_eq_true rfl, Nat.le_of_ble_eq_true rfl⟩, hg _ m_1502, hg _ ms_61⟩ (zz_preVW hM hS hA hN hK hP hD 0 rfl rfl) rfl rfl hl.1 rfl (lv_room (Nat.le_of_ble_eq_true rfl)) d_Mo_opposite_25 ⟨Nat.le_of_ble_eq_true rfl, Nat.le_of_ble_eq_true rfl⟩) hS (fun q _ h => zz_free hD hS hA q h) (zz_free hD hS hA) (fun r25 u25 t H locs ht hvm hp hP1 hz hk1 hS => ?_)
    rw [ht] at hP1
    rw [← hp] at hv hk
    have hD : va_D A (Wm ty h u25 px) := zz_D hD rfl
    have hP := hP1
    exact B28 _ _ _ r25 u25 hv hk (lv_sub hl [] rfl) hP hD hS
  · have hv := hv.trans (if_pos hc)
    have hk := hk.1 hc
    refine lv_aload_n hx hb d_Mo_opposite_11 rfl (lv_at hl 0 rfl) ?_
    refine va_get (v := .ref (h 8)) (C := R_Mo) (T := T_Mo) (N := 51) hx hb hg in_Mo hown hK hP 0 rfl rfl 13 (by decide) (hg _ m_1272) (fun _ h9 => h9) rfl d_Mo_opposite_12 ?_
    refine lv_iload_n hx hb d_Mo_opposite_15 rfl (lv_at hl 1 rfl) ?_
    obtain ⟨hk0, hk⟩ := hk
    refine va_iald hx hb hK hP 8 0 rfl rfl hk0 d_Mo_opposite_16 ?_
    refine lv_goto (tgt := 28) hx hb d_Mo_opposite_17 (by decide) ?_
    exact B28 _ _ _ (σ.1 8 a1.toNatClampNeg) σ hv hk (lv_sub hl [] rfl) hP hD hS

-- ClauseLedgerModel.isTerm(I)Z
abbrev b_Mo_isTerm : ByteArray := prog_14_method_9_code
def y_Mo_isTerm : MethodName := ⟨"ClauseLedgerModel", "isTerm", "(I)Z"⟩
theorem hd_Mo_isTerm : y_Mo_isTerm.cls ≠ "java/lang/invoke/MethodHandle" ∧ y_Mo_isTerm.cls ≠ "java/lang/invoke/VarHandle" ∧ (parseMethodDescriptor y_Mo_isTerm.desc).map (fun d => d.parameters.length) = some 1 := by decide +kernel
theorem d_Mo_isTerm_0 : decode b_Mo_isTerm 0 = .ok (.iload_n 1, 1) := by decide +kernel
theorem d_Mo_isTerm_1 : decode b_Mo_isTerm 1 = .ok (.ifCond .lt 15, 3) := by decide +kernel
theorem d_Mo_isTerm_4 : decode b_Mo_isTerm 4 = .ok (.iload_n 1, 1) := by decide +kernel
theorem d_Mo_isTerm_5 : decode b_Mo_isTerm 5 = .ok (.aload_n 0, 1) := by decide +kernel
theorem d_Mo_isTerm_6 : decode b_Mo_isTerm 6 = .ok (.getfield 120, 3) := by decide +kernel
theorem d_Mo_isTerm_9 : decode b_Mo_isTerm 9 = .ok (.if_icmp .ge 7, 3) := by decide +kernel
theorem d_Mo_isTerm_12 : decode b_Mo_isTerm 12 = .ok (.iconst 1, 1) := by decide +kernel
theorem d_Mo_isTerm_13 : decode b_Mo_isTerm 13 = .ok (.goto 4, 3) := by decide +kernel
theorem d_Mo_isTerm_16 : decode b_Mo_isTerm 16 = .ok (.iconst 0, 1) := by decide +kernel
theorem d_Mo_isTerm_17 : decode b_Mo_isTerm 17 = .ok (.ireturn, 1) := by decide +kernel
def f_Mo_isTerm_17 (s0 : Int32) (σ : St) : Int32 := s0
def k_Mo_isTerm_17 (s0 : Int32) (σ : St) : Prop := (narrow .boolean (.int s0) = .int s0) ∧ True
def f_Mo_isTerm_16 (σ : St) : Int32 := f_Mo_isTerm_17 0 σ
def k_Mo_isTerm_16 (σ : St) : Prop := k_Mo_isTerm_17 0 σ
def f_Mo_isTerm (a1 : Int32) (σ : St) : Int32 := if a1 < 0 then (f_Mo_isTerm_16 σ) else (if (σ.1 0 9) ≤ a1 then (f_Mo_isTerm_16 σ) else (f_Mo_isTerm_17 1 σ))
def k_Mo_isTerm (a1 : Int32) (σ : St) : Prop := (a1 < 0 → (k_Mo_isTerm_16 σ)) ∧ (¬ a1 < 0 → (((σ.1 0 9) ≤ a1 → (k_Mo_isTerm_16 σ)) ∧ (¬ (σ.1 0 9) ≤ a1 → (k_Mo_isTerm_17 1 σ))))
abbrev w_Mo_isTerm : List Cond := Cond.code y_Mo_isTerm b_Mo_isTerm 2 (some .boolean) :: gw
abbrev rm_Mo_isTerm : Room := { frames := 0, cells := 0, slots := 0, locals := 0 }
set_option maxHeartbeats 4000000 in
set_option maxRecDepth 100000 in
theorem c_Mo_isTerm (l : Launch) (D : va_G) (ty : Nat → ClassId) (h : Nat → Nat) (px : va_W) (sa : Nat → Nat) (σ : St) (a1 : Int32) (hk : k_Mo_isTerm a1 σ) : Met l y_Mo_isTerm w_Mo_isTerm rm_Mo_isTerm (va_Pc [.ref (h 0), .int a1] (fun U => va_P D classes (Wm ty h σ px) U.heap ∧ va_K D classes (Ta ty) U ∧ NW U ∧ MK sa (fun _ => False) U U.heap)) (k2_QcV (.int (f_Mo_isTerm a1 σ))) 0 0 (fun _ => False) := by
  refine Met.ofW (cc := b_Mo_isTerm) (maxL := 2) (ret := (some .boolean)) (by decide) rfl ?_
  intro p e s m args below meth c s₁ B hml hv
  obtain ⟨ha, hP, hK, hN, hM⟩ := hv
  have hx := B.exec
  have hb := B.bytes
  have hr := B.returns
  have hg : ∀ w ∈ gw, w.before args s = true := fun w h9 => atoms_spec (ws := w_Mo_isTerm) B.pre w (List.mem_cons_of_mem _ h9)
  have hown : s.vm.findClass "ClauseLedgerModel" = some m.cls := findClass_of_methodNamed B.named
  have hlocks := B.notSynchronized
  have he : entryFrame m args 2 = entryFrame m ([.ref (h 0), .int a1] : List Value).toArray 2 := by rw [ha]
  rw [he, lg_entry_eq]
  have hl := lv_entry ([.ref (h 0), .int a1]) (n := 2) (Nat.le_of_ble_eq_true rfl)
  generalize (lg_sl ([.ref (h 0), .int a1]) ++ List.replicate (2 - (lg_sl ([.ref (h 0), .int a1])).length) Slot.unset).toArray = ls at hl ⊢
  have hl : lv_has ls 2 [(0, .ref (h 0)), (1, .int a1)] := hl
  generalize hv : f_Mo_isTerm a1 σ = v
  replace hv := hv.symm
  have B17 : ∀ (ls : Array Slot) (s0 : Int32), v = f_Mo_isTerm_17 s0 σ → k_Mo_isTerm_17 s0 σ → lv_has ls 2 [] → W p l e (headSpec w_Mo_isTerm rm_Mo_isTerm).room s m args below meth c s.heap [] 0 0 (MQ below (k2_QcV (.int v)) args s 0 0 (fun _ => False)) (F0 m 17 ls [.int s0]) := by
    intro ls s0 hv hk hl
    unfold f_Mo_isTerm_17 at hv
    unfold k_Mo_isTerm_17 at hk
    obtain ⟨hk0, hk⟩ := hk
    exact W.zret hx hb hr hk0 (fun t ht hW => ⟨by rw [hv], ht⟩) (fun q h => nomatch h) d_Mo_isTerm_17
  have B16 : ∀ (ls : Array Slot), v = f_Mo_isTerm_16 σ → k_Mo_isTerm_16 σ → lv_has ls 2 [] → W p l e (headSpec w_Mo_isTerm rm_Mo_isTerm).room s m args below meth c s.heap [] 0 0 (MQ below (k2_QcV (.int v)) args s 0 0 (fun _ => False)) (F0 m 16 ls []) := by
    intro ls hv hk hl
    unfold f_Mo_isTerm_16 at hv
    unfold k_Mo_isTerm_16 at hk
    refine lv_iconst (v := 0) hx hb d_Mo_isTerm_16 (by decide) ?_
    exact B17 _ 0 hv hk (lv_sub hl [] rfl)
  unfold f_Mo_isTerm at hv
  unfold k_Mo_isTerm at hk
  refine lv_iload_n hx hb d_Mo_isTerm_0 rfl (lv_at hl 1 rfl) ?_
  refine lv_if_lt (tgt := 16) hx hb d_Mo_isTerm_1 (by decide) (fun hc => ?_) (fun hc => ?_)
  · have hv := hv.trans (if_pos hc)
    have hk := hk.1 hc
    exact B16 _  hv hk (lv_sub hl [] rfl)
  · have hv := hv.trans (if_neg hc)
    have hk := hk.2 hc
    refine lv_iload_n hx hb d_Mo_isTerm_4 rfl (lv_at hl 1 rfl) ?_
    refine lv_aload_n hx hb d_Mo_isTerm_5 rfl (lv_at hl 0 rfl) ?_
    refine va_get (v := .int (σ.1 0 9)) (C := R_Mo) (T := T_Mo) (N := 51) hx hb hg in_Mo hown hK hP 0 rfl rfl 9 (by decide) (hg _ m_1268) (fun _ h9 => h9) rfl d_Mo_isTerm_6 ?_
    refine lv_icmp_ge (tgt := 16) hx hb d_Mo_isTerm_9 (by decide) (fun hc => ?_) (fun hc => ?_)
    · have hv := hv.trans (if_pos hc)
      have hk := hk.1 hc
      exact B16 _  hv hk (lv_sub hl [] rfl)
    · have hv := hv.trans (if_neg hc)
      have hk := hk.2 hc
      refine lv_iconst (v := 1) hx hb d_Mo_isTerm_12 (by decide) ?_
      refine lv_goto (tgt := 17) hx hb d_Mo_isTerm_13 (by decide) ?_
      exact B17 _ 1 hv hk (lv_sub hl [] rfl)

-- ClauseLedgerModel.isTruth(I)Z
abbrev b_Mo_isTruth : ByteArray := prog_14_method_10_code
def y_Mo_isTruth : MethodName := ⟨"ClauseLedgerModel", "isTruth", "(I)Z"⟩
theorem hd_Mo_isTruth : y_Mo_isTruth.cls ≠ "java/lang/invoke/MethodHandle" ∧ y_Mo_isTruth.cls ≠ "java/lang/invoke/VarHandle" ∧ (parseMethodDescriptor y_Mo_isTruth.desc).map (fun d => d.parameters.length) = some 1 := by decide +kernel
theorem d_Mo_isTruth_0 : decode b_Mo_isTruth 0 = .ok (.aload_n 0, 1) := by decide +kernel
theorem d_Mo_isTruth_1 : decode b_Mo_isTruth 1 = .ok (.getfield 29, 3) := by decide +kernel
theorem d_Mo_isTruth_4 : decode b_Mo_isTruth 4 = .ok (.iload_n 1, 1) := by decide +kernel
theorem d_Mo_isTruth_5 : decode b_Mo_isTruth 5 = .ok (.iaload, 1) := by decide +kernel
theorem d_Mo_isTruth_6 : decode b_Mo_isTruth 6 = .ok (.ifCond .ne 7, 3) := by decide +kernel
theorem d_Mo_isTruth_9 : decode b_Mo_isTruth 9 = .ok (.iconst 1, 1) := by decide +kernel
theorem d_Mo_isTruth_10 : decode b_Mo_isTruth 10 = .ok (.goto 4, 3) := by decide +kernel
theorem d_Mo_isTruth_13 : decode b_Mo_isTruth 13 = .ok (.iconst 0, 1) := by decide +kernel
theorem d_Mo_isTruth_14 : decode b_Mo_isTruth 14 = .ok (.ireturn, 1) := by decide +kernel
def f_Mo_isTruth_14 (s0 : Int32) (σ : St) : Int32 := s0
def k_Mo_isTruth_14 (s0 : Int32) (σ : St) : Prop := (narrow .boolean (.int s0) = .int s0) ∧ True
def f_Mo_isTruth (a1 : Int32) (σ : St) : Int32 := if (σ.1 6 a1.toNatClampNeg) = 0 then (f_Mo_isTruth_14 1 σ) else (f_Mo_isTruth_14 0 σ)
def k_Mo_isTruth (a1 : Int32) (σ : St) : Prop := vp_in a1 400 ∧ (((σ.1 6 a1.toNatClampNeg) = 0 → (k_Mo_isTruth_14 1 σ)) ∧ (¬ (σ.1 6 a1.toNatClampNeg) = 0 → (k_Mo_isTruth_14 0 σ)))
abbrev w_Mo_isTruth : List Cond := Cond.code y_Mo_isTruth b_Mo_isTruth 2 (some .boolean) :: gw
abbrev rm_Mo_isTruth : Room := { frames := 0, cells := 0, slots := 0, locals := 0 }
set_option maxHeartbeats 4000000 in
set_option maxRecDepth 100000 in
theorem c_Mo_isTruth (l : Launch) (D : va_G) (ty : Nat → ClassId) (h : Nat → Nat) (px : va_W) (sa : Nat → Nat) (σ : St) (a1 : Int32) (hk : k_Mo_isTruth a1 σ) : Met l y_Mo_isTruth w_Mo_isTruth rm_Mo_isTruth (va_Pc [.ref (h 0), .int a1] (fun U => va_P D classes (Wm ty h σ px) U.heap ∧ va_K D classes (Ta ty) U ∧ NW U ∧ MK sa (fun _ => False) U U.heap)) (k2_QcV (.int (f_Mo_isTruth a1 σ))) 0 0 (fun _ => False) := by
  refine Met.ofW (cc := b_Mo_isTruth) (maxL := 2) (ret := (some .boolean)) (by decide) rfl ?_
  intro p e s m args below meth c s₁ B hml hv
  obtain ⟨ha, hP, hK, hN, hM⟩ := hv
  have hx := B.exec
  have hb := B.bytes
  have hr := B.returns
  have hg : ∀ w ∈ gw, w.before args s = true := fun w h9 => atoms_spec (ws := w_Mo_isTruth) B.pre w (List.mem_cons_of_mem _ h9)
  have hown : s.vm.findClass "ClauseLedgerModel" = some m.cls := findClass_of_methodNamed B.named
  have hlocks := B.notSynchronized
  have he : entryFrame m args 2 = entryFrame m ([.ref (h 0), .int a1] : List Value).toArray 2 := by rw [ha]
  rw [he, lg_entry_eq]
  have hl := lv_entry ([.ref (h 0), .int a1]) (n := 2) (Nat.le_of_ble_eq_true rfl)
  generalize (lg_sl ([.ref (h 0), .int a1]) ++ List.replicate (2 - (lg_sl ([.ref (h 0), .int a1])).length) Slot.unset).toArray = ls at hl ⊢
  have hl : lv_has ls 2 [(0, .ref (h 0)), (1, .int a1)] := hl
  generalize hv : f_Mo_isTruth a1 σ = v
  replace hv := hv.symm
  have B14 : ∀ (ls : Array Slot) (s0 : Int32), v = f_Mo_isTruth_14 s0 σ → k_Mo_isTruth_14 s0 σ → lv_has ls 2 [] → W p l e (headSpec w_Mo_isTruth rm_Mo_isTruth).room s m args below meth c s.heap [] 0 0 (MQ below (k2_QcV (.int v)) args s 0 0 (fun _ => False)) (F0 m 14 ls [.int s0]) := by
    intro ls s0 hv hk hl
    unfold f_Mo_isTruth_14 at hv
    unfold k_Mo_isTruth_14 at hk
    obtain ⟨hk0, hk⟩ := hk
    exact W.zret hx hb hr hk0 (fun t ht hW => ⟨by rw [hv], ht⟩) (fun q h => nomatch h) d_Mo_isTruth_14
  unfold f_Mo_isTruth at hv
  unfold k_Mo_isTruth at hk
  refine lv_aload_n hx hb d_Mo_isTruth_0 rfl (lv_at hl 0 rfl) ?_
  refine va_get (v := .ref (h 6)) (C := R_Mo) (T := T_Mo) (N := 51) hx hb hg in_Mo hown hK hP 0 rfl rfl 11 (by decide) (hg _ m_1270) (fun _ h9 => h9) rfl d_Mo_isTruth_1 ?_
  refine lv_iload_n hx hb d_Mo_isTruth_4 rfl (lv_at hl 1 rfl) ?_
  obtain ⟨hk0, hk⟩ := hk
  refine va_iald hx hb hK hP 6 0 rfl rfl hk0 d_Mo_isTruth_5 ?_
  refine lv_if_ne (tgt := 13) hx hb d_Mo_isTruth_6 (by decide) (fun hc => ?_) (fun hc => ?_)
  · have hv := hv.trans (if_neg hc)
    have hk := hk.2 hc
    refine lv_iconst (v := 0) hx hb d_Mo_isTruth_13 (by decide) ?_
    exact B14 _ 0 hv hk (lv_sub hl [] rfl)
  · have hv := hv.trans (if_pos hc)
    have hk := hk.1 hc
    refine lv_iconst (v := 1) hx hb d_Mo_isTruth_9 (by decide) ?_
    refine lv_goto (tgt := 14) hx hb d_Mo_isTruth_10 (by decide) ?_
    exact B14 _ 1 hv hk (lv_sub hl [] rfl)

-- ClauseLedgerModel.begin()Z
abbrev b_Mo_begin : ByteArray := prog_14_method_11_code
def y_Mo_begin : MethodName := ⟨"ClauseLedgerModel", "begin", "()Z"⟩
theorem hd_Mo_begin : y_Mo_begin.cls ≠ "java/lang/invoke/MethodHandle" ∧ y_Mo_begin.cls ≠ "java/lang/invoke/VarHandle" ∧ (parseMethodDescriptor y_Mo_begin.desc).map (fun d => d.parameters.length) = some 0 := by decide +kernel
theorem d_Mo_begin_0 : decode b_Mo_begin 0 = .ok (.aload_n 0, 1) := by decide +kernel
theorem d_Mo_begin_1 : decode b_Mo_begin 1 = .ok (.iconst 0, 1) := by decide +kernel
theorem d_Mo_begin_2 : decode b_Mo_begin 2 = .ok (.putfield 103, 3) := by decide +kernel
theorem d_Mo_begin_5 : decode b_Mo_begin 5 = .ok (.aload_n 0, 1) := by decide +kernel
theorem d_Mo_begin_6 : decode b_Mo_begin 6 = .ok (.aload_n 0, 1) := by decide +kernel
theorem d_Mo_begin_7 : decode b_Mo_begin 7 = .ok (.getfield 109, 3) := by decide +kernel
theorem d_Mo_begin_10 : decode b_Mo_begin 10 = .ok (.putfield 120, 3) := by decide +kernel
theorem d_Mo_begin_13 : decode b_Mo_begin 13 = .ok (.aload_n 0, 1) := by decide +kernel
theorem d_Mo_begin_14 : decode b_Mo_begin 14 = .ok (.iconst 0, 1) := by decide +kernel
theorem d_Mo_begin_15 : decode b_Mo_begin 15 = .ok (.putfield 123, 3) := by decide +kernel
theorem d_Mo_begin_18 : decode b_Mo_begin 18 = .ok (.aload_n 0, 1) := by decide +kernel
theorem d_Mo_begin_19 : decode b_Mo_begin 19 = .ok (.getfield 126, 3) := by decide +kernel
theorem d_Mo_begin_22 : decode b_Mo_begin 22 = .ok (.bipush 60, 2) := by decide +kernel
theorem d_Mo_begin_24 : decode b_Mo_begin 24 = .ok (.if_icmp .lt 7, 3) := by decide +kernel
theorem d_Mo_begin_27 : decode b_Mo_begin 27 = .ok (.iconst 1, 1) := by decide +kernel
theorem d_Mo_begin_28 : decode b_Mo_begin 28 = .ok (.goto 4, 3) := by decide +kernel
theorem d_Mo_begin_31 : decode b_Mo_begin 31 = .ok (.iconst 0, 1) := by decide +kernel
theorem d_Mo_begin_32 : decode b_Mo_begin 32 = .ok (.ireturn, 1) := by decide +kernel
def f_Mo_begin_32 (s0 : Int32) (σ : St) : Int32 × St := (s0, σ)
def k_Mo_begin_32 (s0 : Int32) (σ : St) : Prop := (narrow .boolean (.int s0) = .int s0) ∧ True
def f_Mo_begin_18 (σ : St) : Int32 × St := if (σ.1 0 1) < 60 then (f_Mo_begin_32 0 σ) else (f_Mo_begin_32 1 σ)
def k_Mo_begin_18 (σ : St) : Prop := ((σ.1 0 1) < 60 → (k_Mo_begin_32 0 σ)) ∧ (¬ (σ.1 0 1) < 60 → (k_Mo_begin_32 1 σ))
def f_Mo_begin_13 (σ : St) : Int32 × St := f_Mo_begin_18 (sF σ 0 28 0)
def k_Mo_begin_13 (σ : St) : Prop := k_Mo_begin_18 (sF σ 0 28 0)
def f_Mo_begin_5 (σ : St) : Int32 × St := f_Mo_begin_13 (sF σ 0 9 (σ.1 0 8))
def k_Mo_begin_5 (σ : St) : Prop := k_Mo_begin_13 (sF σ 0 9 (σ.1 0 8))
def f_Mo_begin (σ : St) : Int32 × St := f_Mo_begin_5 (sF σ 0 0 0)
def k_Mo_begin (σ : St) : Prop := k_Mo_begin_5 (sF σ 0 0 0)
abbrev w_Mo_begin : List Cond := Cond.code y_Mo_begin b_Mo_begin 1 (some .boolean) :: gw
abbrev rm_Mo_begin : Room := { frames := 0, cells := 0, slots := 0, locals := 0 }
set_option maxHeartbeats 4000000 in
set_option maxRecDepth 100000 in
theorem c_Mo_begin (l : Launch) (D : va_G) (ty : Nat → ClassId) (h : Nat → Nat) (px : va_W) (sa : Nat → Nat) (σ : St) (sz : Nat) (hk : k_Mo_begin σ) : Met l y_Mo_begin w_Mo_begin rm_Mo_begin (va_Pc [.ref (h 0)] (fun U => U.heap.size = sz ∧ va_P D classes (Wm ty h σ px) U.heap ∧ va_K D classes (Ta ty) U ∧ NW U ∧ MK sa (va_A (Wm ty h σ px) sz) U U.heap ∧ va_D (fun _ => True) (Wm ty h σ px))) (va_Qi (fun r (u : St) => (r, u) = f_Mo_begin σ) (fun u t => va_P D classes (Wm ty h u px) t.heap) (va_A (Wm ty h σ px) sz)) 0 0 (va_A (Wm ty h σ px) sz) := by
  refine Met.ofW (cc := b_Mo_begin) (maxL := 1) (ret := (some .boolean)) (by decide) rfl ?_
  intro p e s m args below meth c s₁ B hml hv
  obtain ⟨ha, hsz, hP, hK, hN, hM, hD0⟩ := hv
  have hx := B.exec
  have hb := B.bytes
  have hr := B.returns
  have hg : ∀ w ∈ gw, w.before args s = true := fun w h9 => atoms_spec (ws := w_Mo_begin) B.pre w (List.mem_cons_of_mem _ h9)
  have hown : s.vm.findClass "ClauseLedgerModel" = some m.cls := findClass_of_methodNamed B.named
  have hlocks := B.notSynchronized
  subst hsz
  have hD := hD0.self (sz := s.heap.size)
  generalize hAe : va_A (Wm ty h σ px) s.heap.size = A at hD hM ⊢
  have hA : ∀ q : Nat, s.heap.size ≤ q → A q := fun q h9 => by rw [← hAe]; exact Or.inr h9
  have hS : va_S A s.heap s.heap [] := va_S.rf
  have he : entryFrame m args 1 = entryFrame m ([.ref (h 0)] : List Value).toArray 1 := by rw [ha]
  rw [he, lg_entry_eq]
  have hl := lv_entry ([.ref (h 0)]) (n := 1) (Nat.le_of_ble_eq_true rfl)
  generalize (lg_sl ([.ref (h 0)]) ++ List.replicate (1 - (lg_sl ([.ref (h 0)])).length) Slot.unset).toArray = ls at hl ⊢
  have hl : lv_has ls 1 [(0, .ref (h 0))] := hl
  generalize hv : f_Mo_begin σ = v
  replace hv := hv.symm
  have B32 : ∀ (H : Heap) (locs : List Loc) (ls : Array Slot) (s0 : Int32) (σ : St), v = f_Mo_begin_32 s0 σ → k_Mo_begin_32 s0 σ → lv_has ls 1 [] → va_P D classes (Wm ty h σ px) H → va_D A (Wm ty h σ px) → va_S A s.heap H locs → W p l e (headSpec w_Mo_begin rm_Mo_begin).room s m args below meth c H locs 0 0 (MQ below (va_Qi (fun r (u : St) => (r, u) = v) (fun u t => va_P D classes (Wm ty h u px) t.heap) A) args s 0 0 A) (F0 m 32 ls [.int s0]) := by
    intro H locs ls s0 σ hv hk hl hP hD hS
    unfold f_Mo_begin_32 at hv
    unfold k_Mo_begin_32 at hk
    obtain ⟨hk0, hk⟩ := hk
    exact W.zret hx hb hr hk0 (fun t ht hW => ⟨⟨_, _, rfl, hv.symm, by dsimp only; rw [ht]; exact hP⟩, hS.F ht⟩) hS.2.2 d_Mo_begin_32
  have B18 : ∀ (H : Heap) (locs : List Loc) (ls : Array Slot) (σ : St), v = f_Mo_begin_18 σ → k_Mo_begin_18 σ → lv_has ls 1 [(0, .ref (h 0))] → va_P D classes (Wm ty h σ px) H → va_D A (Wm ty h σ px) → va_S A s.heap H locs → W p l e (headSpec w_Mo_begin rm_Mo_begin).room s m args below meth c H locs 0 0 (MQ below (va_Qi (fun r (u : St) => (r, u) = v) (fun u t => va_P D classes (Wm ty h u px) t.heap) A) args s 0 0 A) (F0 m 18 ls []) := by
    intro H locs ls σ hv hk hl hP hD hS
    unfold f_Mo_begin_18 at hv
    unfold k_Mo_begin_18 at hk
    refine lv_aload_n hx hb d_Mo_begin_18 rfl (lv_at hl 0 rfl) ?_
    refine va_get (v := .int (σ.1 0 1)) (C := R_Mo) (T := T_Mo) (N := 51) hx hb hg in_Mo hown hK hP 0 rfl rfl 1 (by decide) (hg _ m_1260) (fun _ h9 => h9) rfl d_Mo_begin_19 ?_
    refine lv_bipush (v := 60) hx hb d_Mo_begin_22 (by decide) ?_
    refine lv_icmp_lt (tgt := 31) hx hb d_Mo_begin_24 (by decide) (fun hc => ?_) (fun hc => ?_)
    · have hv := hv.trans (if_pos hc)
      have hk := hk.1 hc
      refine lv_iconst (v := 0) hx hb d_Mo_begin_31 (by decide) ?_
      exact B32 _ _ _ 0 σ hv hk (lv_sub hl [] rfl) hP hD hS
    · have hv := hv.trans (if_neg hc)
      have hk := hk.2 hc
      refine lv_iconst (v := 1) hx hb d_Mo_begin_27 (by decide) ?_
      refine lv_goto (tgt := 32) hx hb d_Mo_begin_28 (by decide) ?_
      exact B32 _ _ _ 1 σ hv hk (lv_sub hl [] rfl) hP hD hS
  have B13 : ∀ (H : Heap) (locs : List Loc) (ls : Array Slot) (σ : St), v = f_Mo_begin_13 σ → k_Mo_begin_13 σ → lv_has ls 1 [(0, .ref (h 0))] → va_P D classes (Wm ty h σ px) H → va_D A (Wm ty h σ px) → va_S A s.heap H locs → W p l e (headSpec w_Mo_begin rm_Mo_begin).room s m args below meth c H locs 0 0 (MQ below (va_Qi (fun r (u : St) => (r, u) = v) (fun u t => va_P D classes (Wm ty h u px) t.heap) A) args s 0 0 A) (F0 m 13 ls []) := by
    intro H locs ls σ hv hk hl hP hD hS
    unfold f_Mo_begin_13 at hv
    unfold k_Mo_begin_13 at hk
    refine lv_aload_n hx hb d_Mo_begin_13 rfl (lv_at hl 0 rfl) ?_
    refine lv_iconst (v := 0) hx hb d_Mo_begin_14 (by decide) ?_
    refine va_put (v := .int 0) (ty := .int) (C := R_Mo) (T := T_Mo) (N := 51) hx hb hg in_Mo ty_Mo ok_Mo nm_Mo hown hK hP hD hS 0 rfl rfl 28 (by decide) (hg _ m_1287) (fun _ h9 => h9) rfl (by decide +kernel) rfl rfl (Nat.le_of_ble_eq_true rfl) d_Mo_begin_15 (fun H locs hP hD hS => ?_)
    have hP : va_P D classes (Wm ty h (sF σ 0 28 0) px) H := hP
    have hD : va_D A (Wm ty h (sF σ 0 28 0) px) := hD
    exact B18 _ _ _  (sF σ 0 28 0) hv hk (lv_sub hl [0] rfl) hP hD hS
  have B5 : ∀ (H : Heap) (locs : List Loc) (ls : Array Slot) (σ : St), v = f_Mo_begin_5 σ → k_Mo_begin_5 σ → lv_has ls 1 [(0, .ref (h 0))] → va_P D classes (Wm ty h σ px) H → va_D A (Wm ty h σ px) → va_S A s.heap H locs → W p l e (headSpec w_Mo_begin rm_Mo_begin).room s m args below meth c H locs 0 0 (MQ below (va_Qi (fun r (u : St) => (r, u) = v) (fun u t => va_P D classes (Wm ty h u px) t.heap) A) args s 0 0 A) (F0 m 5 ls []) := by
    intro H locs ls σ hv hk hl hP hD hS
    unfold f_Mo_begin_5 at hv
    unfold k_Mo_begin_5 at hk
    refine lv_aload_n hx hb d_Mo_begin_5 rfl (lv_at hl 0 rfl) ?_
    refine lv_aload_n hx hb d_Mo_begin_6 rfl (lv_at hl 0 rfl) ?_
    refine va_get (v := .int (σ.1 0 8)) (C := R_Mo) (T := T_Mo) (N := 51) hx hb hg in_Mo hown hK hP 0 rfl rfl 8 (by decide) (hg _ m_1267) (fun _ h9 => h9) rfl d_Mo_begin_7 ?_
    refine va_put (v := .int (σ.1 0 8)) (ty := .int) (C := R_Mo) (T := T_Mo) (N := 51) hx hb hg in_Mo ty_Mo ok_Mo nm_Mo hown hK hP hD hS 0 rfl rfl 9 (by decide) (hg _ m_1268) (fun _ h9 => h9) rfl (by decide +kernel) rfl rfl (Nat.le_of_ble_eq_true rfl) d_Mo_begin_10 (fun H locs hP hD hS => ?_)
    have hP : va_P D classes (Wm ty h (sF σ 0 9 (σ.1 0 8)) px) H := hP
    have hD : va_D A (Wm ty h (sF σ 0 9 (σ.1 0 8)) px) := hD
    exact B13 _ _ _  (sF σ 0 9 (σ.1 0 8)) hv hk (lv_sub hl [0] rfl) hP hD hS
  unfold f_Mo_begin at hv
  unfold k_Mo_begin at hk
  refine lv_aload_n hx hb d_Mo_begin_0 rfl (lv_at hl 0 rfl) ?_
  refine lv_iconst (v := 0) hx hb d_Mo_begin_1 (by decide) ?_
  refine va_put (v := .int 0) (ty := .int) (C := R_Mo) (T := T_Mo) (N := 51) hx hb hg in_Mo ty_Mo ok_Mo nm_Mo hown hK hP hD hS 0 rfl rfl 0 (by decide) (hg _ m_1259) (fun _ h9 => h9) rfl (by decide +kernel) rfl rfl (Nat.le_of_ble_eq_true rfl) d_Mo_begin_2 (fun H locs hP hD hS => ?_)
  have hP : va_P D classes (Wm ty h (sF σ 0 0 0) px) H := hP
  have hD : va_D A (Wm ty h (sF σ 0 0 0) px) := hD
  exact B5 _ _ _  (sF σ 0 0 0) hv hk (lv_sub hl [0] rfl) hP hD hS

-- ClauseLedgerModel.fails(II)I
abbrev b_Mo_fails : ByteArray := prog_14_method_12_code
def y_Mo_fails : MethodName := ⟨"ClauseLedgerModel", "fails", "(II)I"⟩
theorem hd_Mo_fails : y_Mo_fails.cls ≠ "java/lang/invoke/MethodHandle" ∧ y_Mo_fails.cls ≠ "java/lang/invoke/VarHandle" ∧ (parseMethodDescriptor y_Mo_fails.desc).map (fun d => d.parameters.length) = some 2 := by decide +kernel
theorem d_Mo_fails_0 : decode b_Mo_fails 0 = .ok (.aload_n 0, 1) := by decide +kernel
theorem d_Mo_fails_1 : decode b_Mo_fails 1 = .ok (.aload_n 0, 1) := by decide +kernel
theorem d_Mo_fails_2 : decode b_Mo_fails 2 = .ok (.getfield 120, 3) := by decide +kernel
theorem d_Mo_fails_5 : decode b_Mo_fails 5 = .ok (.putfield 109, 3) := by decide +kernel
theorem d_Mo_fails_8 : decode b_Mo_fails 8 = .ok (.aload_n 0, 1) := by decide +kernel
theorem d_Mo_fails_9 : decode b_Mo_fails 9 = .ok (.dup, 1) := by decide +kernel
theorem d_Mo_fails_10 : decode b_Mo_fails 10 = .ok (.getfield 126, 3) := by decide +kernel
theorem d_Mo_fails_13 : decode b_Mo_fails 13 = .ok (.iconst 1, 1) := by decide +kernel
theorem d_Mo_fails_14 : decode b_Mo_fails 14 = .ok (.iadd, 1) := by decide +kernel
theorem d_Mo_fails_15 : decode b_Mo_fails 15 = .ok (.putfield 126, 3) := by decide +kernel
theorem d_Mo_fails_18 : decode b_Mo_fails 18 = .ok (.aload_n 0, 1) := by decide +kernel
theorem d_Mo_fails_19 : decode b_Mo_fails 19 = .ok (.iconst 1, 1) := by decide +kernel
theorem d_Mo_fails_20 : decode b_Mo_fails 20 = .ok (.putfield 103, 3) := by decide +kernel
theorem d_Mo_fails_23 : decode b_Mo_fails 23 = .ok (.iload_n 2, 1) := by decide +kernel
theorem d_Mo_fails_24 : decode b_Mo_fails 24 = .ok (.iconst 4, 1) := by decide +kernel
theorem d_Mo_fails_25 : decode b_Mo_fails 25 = .ok (.aload_n 0, 1) := by decide +kernel
theorem d_Mo_fails_26 : decode b_Mo_fails 26 = .ok (.getfield 103, 3) := by decide +kernel
theorem d_Mo_fails_29 : decode b_Mo_fails 29 = .ok (.imul, 1) := by decide +kernel
theorem d_Mo_fails_30 : decode b_Mo_fails 30 = .ok (.iconst 4, 1) := by decide +kernel
theorem d_Mo_fails_31 : decode b_Mo_fails 31 = .ok (.isub, 1) := by decide +kernel
theorem d_Mo_fails_32 : decode b_Mo_fails 32 = .ok (.ishr, 1) := by decide +kernel
theorem d_Mo_fails_33 : decode b_Mo_fails 33 = .ok (.bipush 15, 2) := by decide +kernel
theorem d_Mo_fails_35 : decode b_Mo_fails 35 = .ok (.iand, 1) := by decide +kernel
theorem d_Mo_fails_36 : decode b_Mo_fails 36 = .ok (.iload_n 1, 1) := by decide +kernel
theorem d_Mo_fails_37 : decode b_Mo_fails 37 = .ok (.if_icmp .eq 16, 3) := by decide +kernel
theorem d_Mo_fails_40 : decode b_Mo_fails 40 = .ok (.aload_n 0, 1) := by decide +kernel
theorem d_Mo_fails_41 : decode b_Mo_fails 41 = .ok (.dup, 1) := by decide +kernel
theorem d_Mo_fails_42 : decode b_Mo_fails 42 = .ok (.getfield 103, 3) := by decide +kernel
theorem d_Mo_fails_45 : decode b_Mo_fails 45 = .ok (.iconst 1, 1) := by decide +kernel
theorem d_Mo_fails_46 : decode b_Mo_fails 46 = .ok (.iadd, 1) := by decide +kernel
theorem d_Mo_fails_47 : decode b_Mo_fails 47 = .ok (.putfield 103, 3) := by decide +kernel
theorem d_Mo_fails_50 : decode b_Mo_fails 50 = .ok (.goto (-27), 3) := by decide +kernel
theorem d_Mo_fails_53 : decode b_Mo_fails 53 = .ok (.iconst 0, 1) := by decide +kernel
theorem d_Mo_fails_54 : decode b_Mo_fails 54 = .ok (.ireturn, 1) := by decide +kernel
def f_Mo_fails_50 (F23 : (Int32 → Int32 → St → Int32 × St)) (x1 : Int32) (x2 : Int32) (σ : St) : Int32 × St := F23 x1 x2 σ
def k_Mo_fails_50 (K23 : (Int32 → Int32 → St → Prop)) (x1 : Int32) (x2 : Int32) (σ : St) : Prop := K23 x1 x2 σ
def f_Mo_fails_23 : Nat → Int32 → Int32 → St → Int32 × St
  | 0, _, _, σ => (0, σ)
  | n + 1, x1, x2, σ => if ((x2 >>> (((4 * (σ.1 0 0)) - 4) &&& 31)) &&& 15) = x1 then (0, σ) else (f_Mo_fails_50 (f_Mo_fails_23 n) x1 x2 (sF σ 0 0 ((σ.1 0 0) + 1)))
def k_Mo_fails_23 : Nat → Int32 → Int32 → St → Prop
  | 0, _, _, _ => False
  | n + 1, x1, x2, σ => (((x2 >>> (((4 * (σ.1 0 0)) - 4) &&& 31)) &&& 15) = x1 → True) ∧ (¬ ((x2 >>> (((4 * (σ.1 0 0)) - 4) &&& 31)) &&& 15) = x1 → (k_Mo_fails_50 (k_Mo_fails_23 n) x1 x2 (sF σ 0 0 ((σ.1 0 0) + 1))))
def f_Mo_fails_18 (x1 : Int32) (x2 : Int32) (σ : St) : Int32 × St := f_Mo_fails_23 1000 x1 x2 (sF σ 0 0 1)
def k_Mo_fails_18 (x1 : Int32) (x2 : Int32) (σ : St) : Prop := k_Mo_fails_23 1000 x1 x2 (sF σ 0 0 1)
def f_Mo_fails_8 (x1 : Int32) (x2 : Int32) (σ : St) : Int32 × St := f_Mo_fails_18 x1 x2 (sF σ 0 1 ((σ.1 0 1) + 1))
def k_Mo_fails_8 (x1 : Int32) (x2 : Int32) (σ : St) : Prop := k_Mo_fails_18 x1 x2 (sF σ 0 1 ((σ.1 0 1) + 1))
def f_Mo_fails (a1 : Int32) (a2 : Int32) (σ : St) : Int32 × St := f_Mo_fails_8 a1 a2 (sF σ 0 8 (σ.1 0 9))
def k_Mo_fails (a1 : Int32) (a2 : Int32) (σ : St) : Prop := k_Mo_fails_8 a1 a2 (sF σ 0 8 (σ.1 0 9))
abbrev w_Mo_fails : List Cond := Cond.code y_Mo_fails b_Mo_fails 3 (some .int) :: gw
abbrev rm_Mo_fails : Room := { frames := 0, cells := 0, slots := 0, locals := 0 }
set_option maxHeartbeats 4000000 in
set_option maxRecDepth 100000 in
theorem c_Mo_fails (l : Launch) (D : va_G) (ty : Nat → ClassId) (h : Nat → Nat) (px : va_W) (sa : Nat → Nat) (σ : St) (sz : Nat) (a1 : Int32) (a2 : Int32) (hk : k_Mo_fails a1 a2 σ) : Met l y_Mo_fails w_Mo_fails rm_Mo_fails (va_Pc [.ref (h 0), .int a1, .int a2] (fun U => U.heap.size = sz ∧ va_P D classes (Wm ty h σ px) U.heap ∧ va_K D classes (Ta ty) U ∧ NW U ∧ MK sa (va_A (Wm ty h σ px) sz) U U.heap ∧ va_D (fun _ => True) (Wm ty h σ px))) (va_Qi (fun r (u : St) => (r, u) = f_Mo_fails a1 a2 σ) (fun u t => va_P D classes (Wm ty h u px) t.heap) (va_A (Wm ty h σ px) sz)) 0 0 (va_A (Wm ty h σ px) sz) := by
  refine Met.ofW (cc := b_Mo_fails) (maxL := 3) (ret := (some .int)) (by decide) rfl ?_
  intro p e s m args below meth c s₁ B hml hv
  obtain ⟨ha, hsz, hP, hK, hN, hM, hD0⟩ := hv
  have hx := B.exec
  have hb := B.bytes
  have hr := B.returns
  have hg : ∀ w ∈ gw, w.before args s = true := fun w h9 => atoms_spec (ws := w_Mo_fails) B.pre w (List.mem_cons_of_mem _ h9)
  have hown : s.vm.findClass "ClauseLedgerModel" = some m.cls := findClass_of_methodNamed B.named
  have hlocks := B.notSynchronized
  subst hsz
  have hD := hD0.self (sz := s.heap.size)
  generalize hAe : va_A (Wm ty h σ px) s.heap.size = A at hD hM ⊢
  have hA : ∀ q : Nat, s.heap.size ≤ q → A q := fun q h9 => by rw [← hAe]; exact Or.inr h9
  have hS : va_S A s.heap s.heap [] := va_S.rf
  have he : entryFrame m args 3 = entryFrame m ([.ref (h 0), .int a1, .int a2] : List Value).toArray 3 := by rw [ha]
  rw [he, lg_entry_eq]
  have hl := lv_entry ([.ref (h 0), .int a1, .int a2]) (n := 3) (Nat.le_of_ble_eq_true rfl)
  generalize (lg_sl ([.ref (h 0), .int a1, .int a2]) ++ List.replicate (3 - (lg_sl ([.ref (h 0), .int a1, .int a2])).length) Slot.unset).toArray = ls at hl ⊢
  have hl : lv_has ls 3 [(0, .ref (h 0)), (1, .int a1), (2, .int a2)] := hl
  generalize hv : f_Mo_fails a1 a2 σ = v
  replace hv := hv.symm
  have B23 : ∀ (n23 : Nat) (H : Heap) (locs : List Loc) (ls : Array Slot) (x1 : Int32) (x2 : Int32) (σ : St), v = f_Mo_fails_23 n23 x1 x2 σ → k_Mo_fails_23 n23 x1 x2 σ → lv_has ls 3 [(0, .ref (h 0)), (1, .int x1), (2, .int x2)] → va_P D classes (Wm ty h σ px) H → va_D A (Wm ty h σ px) → va_S A s.heap H locs → W p l e (headSpec w_Mo_fails rm_Mo_fails).room s m args below meth c H locs 0 0 (MQ below (va_Qi (fun r (u : St) => (r, u) = v) (fun u t => va_P D classes (Wm ty h u px) t.heap) A) args s 0 0 A) (F0 m 23 ls []) := by
    intro n23
    induction n23 with
    | zero => intro H locs ls x1 x2 σ hv hk hl hP hD hS; exact hk.elim
    | succ n23 ih23 =>
      have B50 : ∀ (H : Heap) (locs : List Loc) (ls : Array Slot) (x1 : Int32) (x2 : Int32) (σ : St), v = f_Mo_fails_50 (f_Mo_fails_23 n23) x1 x2 σ → k_Mo_fails_50 (k_Mo_fails_23 n23) x1 x2 σ → lv_has ls 3 [(0, .ref (h 0)), (1, .int x1), (2, .int x2)] → va_P D classes (Wm ty h σ px) H → va_D A (Wm ty h σ px) → va_S A s.heap H locs → W p l e (headSpec w_Mo_fails rm_Mo_fails).room s m args below meth c H locs 0 0 (MQ below (va_Qi (fun r (u : St) => (r, u) = v) (fun u t => va_P D classes (Wm ty h u px) t.heap) A) args s 0 0 A) (F0 m 50 ls []) := by
        intro H locs ls x1 x2 σ hv hk hl hP hD hS
        unfold f_Mo_fails_50 at hv
        unfold k_Mo_fails_50 at hk
        refine lv_goto (tgt := 23) hx hb d_Mo_fails_50 (by decide) ?_
        exact ih23 _ _ _ x1 x2 σ hv hk (lv_sub hl [0, 1, 2] rfl) hP hD hS
      intro H locs ls x1 x2 σ hv hk hl hP hD hS
      rw [f_Mo_fails_23] at hv
      rw [k_Mo_fails_23] at hk
      refine lv_iload_n hx hb d_Mo_fails_23 rfl (lv_at hl 2 rfl) ?_
      refine lv_iconst (v := 4) hx hb d_Mo_fails_24 (by decide) ?_
      refine lv_aload_n hx hb d_Mo_fails_25 rfl (lv_at hl 0 rfl) ?_
      refine va_get (v := .int (σ.1 0 0)) (C := R_Mo) (T := T_Mo) (N := 51) hx hb hg in_Mo hown hK hP 0 rfl rfl 0 (by decide) (hg _ m_1259) (fun _ h9 => h9) rfl d_Mo_fails_26 ?_
      refine lv_imul hx hb d_Mo_fails_29 ?_
      refine lv_iconst (v := 4) hx hb d_Mo_fails_30 (by decide) ?_
      refine lv_isub hx hb d_Mo_fails_31 ?_
      refine lv_ishr hx hb d_Mo_fails_32 ?_
      refine lv_bipush (v := 15) hx hb d_Mo_fails_33 (by decide) ?_
      refine lv_iand hx hb d_Mo_fails_35 ?_
      refine lv_iload_n hx hb d_Mo_fails_36 rfl (lv_at hl 1 rfl) ?_
      refine lv_icmp_eq (tgt := 53) hx hb d_Mo_fails_37 (by decide) (fun hc => ?_) (fun hc => ?_)
      · have hv := hv.trans (if_pos hc)
        have hk := hk.1 hc
        refine lv_iconst (v := 0) hx hb d_Mo_fails_53 (by decide) ?_
        exact W.iret hx hb hr (fun t ht hW => ⟨⟨_, _, rfl, hv.symm, by dsimp only; rw [ht]; exact hP⟩, hS.F ht⟩) hS.2.2 d_Mo_fails_54
      · have hv := hv.trans (if_neg hc)
        have hk := hk.2 hc
        refine lv_aload_n hx hb d_Mo_fails_40 rfl (lv_at hl 0 rfl) ?_
        refine lv_dup hx hb d_Mo_fails_41 rfl ?_
        refine va_get (v := .int (σ.1 0 0)) (C := R_Mo) (T := T_Mo) (N := 51) hx hb hg in_Mo hown hK hP 0 rfl rfl 0 (by decide) (hg _ m_1259) (fun _ h9 => h9) rfl d_Mo_fails_42 ?_
        refine lv_iconst (v := 1) hx hb d_Mo_fails_45 (by decide) ?_
        refine lv_iadd hx hb d_Mo_fails_46 ?_
        refine va_put (v := .int ((σ.1 0 0) + 1)) (ty := .int) (C := R_Mo) (T := T_Mo) (N := 51) hx hb hg in_Mo ty_Mo ok_Mo nm_Mo hown hK hP hD hS 0 rfl rfl 0 (by decide) (hg _ m_1259) (fun _ h9 => h9) rfl (by decide +kernel) rfl rfl (Nat.le_of_ble_eq_true rfl) d_Mo_fails_47 (fun H locs hP hD hS => ?_)
        have hP : va_P D classes (Wm ty h (sF σ 0 0 ((σ.1 0 0) + 1)) px) H := hP
        have hD : va_D A (Wm ty h (sF σ 0 0 ((σ.1 0 0) + 1)) px) := hD
        exact B50 _ _ _ x1 x2 (sF σ 0 0 ((σ.1 0 0) + 1)) hv hk (lv_sub hl [0, 1, 2] rfl) hP hD hS
  have B18 : ∀ (H : Heap) (locs : List Loc) (ls : Array Slot) (x1 : Int32) (x2 : Int32) (σ : St), v = f_Mo_fails_18 x1 x2 σ → k_Mo_fails_18 x1 x2 σ → lv_has ls 3 [(0, .ref (h 0)), (1, .int x1), (2, .int x2)] → va_P D classes (Wm ty h σ px) H → va_D A (Wm ty h σ px) → va_S A s.heap H locs → W p l e (headSpec w_Mo_fails rm_Mo_fails).room s m args below meth c H locs 0 0 (MQ below (va_Qi (fun r (u : St) => (r, u) = v) (fun u t => va_P D classes (Wm ty h u px) t.heap) A) args s 0 0 A) (F0 m 18 ls []) := by
    intro H locs ls x1 x2 σ hv hk hl hP hD hS
    unfold f_Mo_fails_18 at hv
    unfold k_Mo_fails_18 at hk
    refine lv_aload_n hx hb d_Mo_fails_18 rfl (lv_at hl 0 rfl) ?_
    refine lv_iconst (v := 1) hx hb d_Mo_fails_19 (by decide) ?_
    refine va_put (v := .int 1) (ty := .int) (C := R_Mo) (T := T_Mo) (N := 51) hx hb hg in_Mo ty_Mo ok_Mo nm_Mo hown hK hP hD hS 0 rfl rfl 0 (by decide) (hg _ m_1259) (fun _ h9 => h9) rfl (by decide +kernel) rfl rfl (Nat.le_of_ble_eq_true rfl) d_Mo_fails_20 (fun H locs hP hD hS => ?_)
    have hP : va_P D classes (Wm ty h (sF σ 0 0 1) px) H := hP
    have hD : va_D A (Wm ty h (sF σ 0 0 1) px) := hD
    exact B23 1000 _ _ _ x1 x2 (sF σ 0 0 1) hv hk (lv_sub hl [0, 1, 2] rfl) hP hD hS
  have B8 : ∀ (H : Heap) (locs : List Loc) (ls : Array Slot) (x1 : Int32) (x2 : Int32) (σ : St), v = f_Mo_fails_8 x1 x2 σ → k_Mo_fails_8 x1 x2 σ → lv_has ls 3 [(0, .ref (h 0)), (1, .int x1), (2, .int x2)] → va_P D classes (Wm ty h σ px) H → va_D A (Wm ty h σ px) → va_S A s.heap H locs → W p l e (headSpec w_Mo_fails rm_Mo_fails).room s m args below meth c H locs 0 0 (MQ below (va_Qi (fun r (u : St) => (r, u) = v) (fun u t => va_P D classes (Wm ty h u px) t.heap) A) args s 0 0 A) (F0 m 8 ls []) := by
    intro H locs ls x1 x2 σ hv hk hl hP hD hS
    unfold f_Mo_fails_8 at hv
    unfold k_Mo_fails_8 at hk
    refine lv_aload_n hx hb d_Mo_fails_8 rfl (lv_at hl 0 rfl) ?_
    refine lv_dup hx hb d_Mo_fails_9 rfl ?_
    refine va_get (v := .int (σ.1 0 1)) (C := R_Mo) (T := T_Mo) (N := 51) hx hb hg in_Mo hown hK hP 0 rfl rfl 1 (by decide) (hg _ m_1260) (fun _ h9 => h9) rfl d_Mo_fails_10 ?_
    refine lv_iconst (v := 1) hx hb d_Mo_fails_13 (by decide) ?_
    refine lv_iadd hx hb d_Mo_fails_14 ?_
    refine va_put (v := .int ((σ.1 0 1) + 1)) (ty := .int) (C := R_Mo) (T := T_Mo) (N := 51) hx hb hg in_Mo ty_Mo ok_Mo nm_Mo hown hK hP hD hS 0 rfl rfl 1 (by decide) (hg _ m_1260) (fun _ h9 => h9) rfl (by decide +kernel) rfl rfl (Nat.le_of_ble_eq_true rfl) d_Mo_fails_15 (fun H locs hP hD hS => ?_)
    have hP : va_P D classes (Wm ty h (sF σ 0 1 ((σ.1 0 1) + 1)) px) H := hP
    have hD : va_D A (Wm ty h (sF σ 0 1 ((σ.1 0 1) + 1)) px) := hD
    exact B18 _ _ _ x1 x2 (sF σ 0 1 ((σ.1 0 1) + 1)) hv hk (lv_sub hl [0, 1, 2] rfl) hP hD hS
  unfold f_Mo_fails at hv
  unfold k_Mo_fails at hk
  refine lv_aload_n hx hb d_Mo_fails_0 rfl (lv_at hl 0 rfl) ?_
  refine lv_aload_n hx hb d_Mo_fails_1 rfl (lv_at hl 0 rfl) ?_
  refine va_get (v := .int (σ.1 0 9)) (C := R_Mo) (T := T_Mo) (N := 51) hx hb hg in_Mo hown hK hP 0 rfl rfl 9 (by decide) (hg _ m_1268) (fun _ h9 => h9) rfl d_Mo_fails_2 ?_
  refine va_put (v := .int (σ.1 0 9)) (ty := .int) (C := R_Mo) (T := T_Mo) (N := 51) hx hb hg in_Mo ty_Mo ok_Mo nm_Mo hown hK hP hD hS 0 rfl rfl 8 (by decide) (hg _ m_1267) (fun _ h9 => h9) rfl (by decide +kernel) rfl rfl (Nat.le_of_ble_eq_true rfl) d_Mo_fails_5 (fun H locs hP hD hS => ?_)
  have hP : va_P D classes (Wm ty h (sF σ 0 8 (σ.1 0 9)) px) H := hP
  have hD : va_D A (Wm ty h (sF σ 0 8 (σ.1 0 9)) px) := hD
  exact B8 _ _ _ a1 a2 (sF σ 0 8 (σ.1 0 9)) hv hk (lv_sub hl [0, 1, 2] rfl) hP hD hS

-- ClauseLedgerModel.tooDeep()Z
abbrev b_Mo_tooDeep : ByteArray := prog_14_method_13_code
def y_Mo_tooDeep : MethodName := ⟨"ClauseLedgerModel", "tooDeep", "()Z"⟩
theorem hd_Mo_tooDeep : y_Mo_tooDeep.cls ≠ "java/lang/invoke/MethodHandle" ∧ y_Mo_tooDeep.cls ≠ "java/lang/invoke/VarHandle" ∧ (parseMethodDescriptor y_Mo_tooDeep.desc).map (fun d => d.parameters.length) = some 0 := by decide +kernel
theorem d_Mo_tooDeep_0 : decode b_Mo_tooDeep 0 = .ok (.iconst 0, 1) := by decide +kernel
theorem d_Mo_tooDeep_1 : decode b_Mo_tooDeep 1 = .ok (.istore_n 1, 1) := by decide +kernel
theorem d_Mo_tooDeep_2 : decode b_Mo_tooDeep 2 = .ok (.aload_n 0, 1) := by decide +kernel
theorem d_Mo_tooDeep_3 : decode b_Mo_tooDeep 3 = .ok (.getfield 120, 3) := by decide +kernel
theorem d_Mo_tooDeep_6 : decode b_Mo_tooDeep 6 = .ok (.istore_n 2, 1) := by decide +kernel
theorem d_Mo_tooDeep_7 : decode b_Mo_tooDeep 7 = .ok (.iload_n 2, 1) := by decide +kernel
theorem d_Mo_tooDeep_8 : decode b_Mo_tooDeep 8 = .ok (.aload_n 0, 1) := by decide +kernel
theorem d_Mo_tooDeep_9 : decode b_Mo_tooDeep 9 = .ok (.getfield 109, 3) := by decide +kernel
theorem d_Mo_tooDeep_12 : decode b_Mo_tooDeep 12 = .ok (.if_icmp .ge 30, 3) := by decide +kernel
theorem d_Mo_tooDeep_15 : decode b_Mo_tooDeep 15 = .ok (.iload_n 1, 1) := by decide +kernel
theorem d_Mo_tooDeep_16 : decode b_Mo_tooDeep 16 = .ok (.ifCond .ne 14, 3) := by decide +kernel
theorem d_Mo_tooDeep_19 : decode b_Mo_tooDeep 19 = .ok (.aload_n 0, 1) := by decide +kernel
theorem d_Mo_tooDeep_20 : decode b_Mo_tooDeep 20 = .ok (.getfield 32, 3) := by decide +kernel
theorem d_Mo_tooDeep_23 : decode b_Mo_tooDeep 23 = .ok (.iload_n 2, 1) := by decide +kernel
theorem d_Mo_tooDeep_24 : decode b_Mo_tooDeep 24 = .ok (.iaload, 1) := by decide +kernel
theorem d_Mo_tooDeep_25 : decode b_Mo_tooDeep 25 = .ok (.bipush 12, 2) := by decide +kernel
theorem d_Mo_tooDeep_27 : decode b_Mo_tooDeep 27 = .ok (.if_icmp .le 7, 3) := by decide +kernel
theorem d_Mo_tooDeep_30 : decode b_Mo_tooDeep 30 = .ok (.iconst 1, 1) := by decide +kernel
theorem d_Mo_tooDeep_31 : decode b_Mo_tooDeep 31 = .ok (.goto 4, 3) := by decide +kernel
theorem d_Mo_tooDeep_34 : decode b_Mo_tooDeep 34 = .ok (.iconst 0, 1) := by decide +kernel
theorem d_Mo_tooDeep_35 : decode b_Mo_tooDeep 35 = .ok (.istore_n 1, 1) := by decide +kernel
theorem d_Mo_tooDeep_36 : decode b_Mo_tooDeep 36 = .ok (.iinc 2 1, 3) := by decide +kernel
theorem d_Mo_tooDeep_39 : decode b_Mo_tooDeep 39 = .ok (.goto (-32), 3) := by decide +kernel
theorem d_Mo_tooDeep_42 : decode b_Mo_tooDeep 42 = .ok (.iload_n 1, 1) := by decide +kernel
theorem d_Mo_tooDeep_43 : decode b_Mo_tooDeep 43 = .ok (.ireturn, 1) := by decide +kernel
def f_Mo_tooDeep_35 (F7 : (Int32 → Int32 → St → Int32)) (x2 : Int32) (s0 : Int32) (σ : St) : Int32 := F7 s0 (x2 + 1) σ
def k_Mo_tooDeep_35 (K7 : (Int32 → Int32 → St → Prop)) (x2 : Int32) (s0 : Int32) (σ : St) : Prop := K7 s0 (x2 + 1) σ
def f_Mo_tooDeep_30 (F7 : (Int32 → Int32 → St → Int32)) (x2 : Int32) (σ : St) : Int32 := f_Mo_tooDeep_35 F7 x2 1 σ
def k_Mo_tooDeep_30 (K7 : (Int32 → Int32 → St → Prop)) (x2 : Int32) (σ : St) : Prop := k_Mo_tooDeep_35 K7 x2 1 σ
def f_Mo_tooDeep_7 : Nat → Int32 → Int32 → St → Int32
  | 0, _, _, σ => 0
  | n + 1, x1, x2, σ => if (σ.1 0 8) ≤ x2 then x1 else (if x1 = 0 then (if (σ.1 7 x2.toNatClampNeg) ≤ 12 then (f_Mo_tooDeep_35 (f_Mo_tooDeep_7 n) x2 0 σ) else (f_Mo_tooDeep_30 (f_Mo_tooDeep_7 n) x2 σ)) else (f_Mo_tooDeep_30 (f_Mo_tooDeep_7 n) x2 σ))
def k_Mo_tooDeep_7 : Nat → Int32 → Int32 → St → Prop
  | 0, _, _, _ => False
  | n + 1, x1, x2, σ => ((σ.1 0 8) ≤ x2 → ((narrow .boolean (.int x1) = .int x1) ∧ True)) ∧ (¬ (σ.1 0 8) ≤ x2 → ((x1 = 0 → (vp_in x2 400 ∧ (((σ.1 7 x2.toNatClampNeg) ≤ 12 → (k_Mo_tooDeep_35 (k_Mo_tooDeep_7 n) x2 0 σ)) ∧ (¬ (σ.1 7 x2.toNatClampNeg) ≤ 12 → (k_Mo_tooDeep_30 (k_Mo_tooDeep_7 n) x2 σ))))) ∧ (¬ x1 = 0 → (k_Mo_tooDeep_30 (k_Mo_tooDeep_7 n) x2 σ))))
def f_Mo_tooDeep (σ : St) : Int32 := f_Mo_tooDeep_7 1000 0 (σ.1 0 9) σ
def k_Mo_tooDeep (σ : St) : Prop := k_Mo_tooDeep_7 1000 0 (σ.1 0 9) σ
abbrev w_Mo_tooDeep : List Cond := Cond.code y_Mo_tooDeep b_Mo_tooDeep 3 (some .boolean) :: gw
abbrev rm_Mo_tooDeep : Room := { frames := 0, cells := 0, slots := 0, locals := 0 }
set_option maxHeartbeats 4000000 in
set_option maxRecDepth 100000 in
theorem c_Mo_tooDeep (l : Launch) (D : va_G) (ty : Nat → ClassId) (h : Nat → Nat) (px : va_W) (sa : Nat → Nat) (σ : St) (hk : k_Mo_tooDeep σ) : Met l y_Mo_tooDeep w_Mo_tooDeep rm_Mo_tooDeep (va_Pc [.ref (h 0)] (fun U => va_P D classes (Wm ty h σ px) U.heap ∧ va_K D classes (Ta ty) U ∧ NW U ∧ MK sa (fun _ => False) U U.heap)) (k2_QcV (.int (f_Mo_tooDeep σ))) 0 0 (fun _ => False) := by
  refine Met.ofW (cc := b_Mo_tooDeep) (maxL := 3) (ret := (some .boolean)) (by decide) rfl ?_
  intro p e s m args below meth c s₁ B hml hv
  obtain ⟨ha, hP, hK, hN, hM⟩ := hv
  have hx := B.exec
  have hb := B.bytes
  have hr := B.returns
  have hg : ∀ w ∈ gw, w.before args s = true := fun w h9 => atoms_spec (ws := w_Mo_tooDeep) B.pre w (List.mem_cons_of_mem _ h9)
  have hown : s.vm.findClass "ClauseLedgerModel" = some m.cls := findClass_of_methodNamed B.named
  have hlocks := B.notSynchronized
  have he : entryFrame m args 3 = entryFrame m ([.ref (h 0)] : List Value).toArray 3 := by rw [ha]
  rw [he, lg_entry_eq]
  have hl := lv_entry ([.ref (h 0)]) (n := 3) (Nat.le_of_ble_eq_true rfl)
  generalize (lg_sl ([.ref (h 0)]) ++ List.replicate (3 - (lg_sl ([.ref (h 0)])).length) Slot.unset).toArray = ls at hl ⊢
  have hl : lv_has ls 3 [(0, .ref (h 0))] := hl
  generalize hv : f_Mo_tooDeep σ = v
  replace hv := hv.symm
  have B7 : ∀ (n7 : Nat) (ls : Array Slot) (x1 : Int32) (x2 : Int32), v = f_Mo_tooDeep_7 n7 x1 x2 σ → k_Mo_tooDeep_7 n7 x1 x2 σ → lv_has ls 3 [(0, .ref (h 0)), (1, .int x1), (2, .int x2)] → W p l e (headSpec w_Mo_tooDeep rm_Mo_tooDeep).room s m args below meth c s.heap [] 0 0 (MQ below (k2_QcV (.int v)) args s 0 0 (fun _ => False)) (F0 m 7 ls []) := by
    intro n7
    induction n7 with
    | zero => intro ls x1 x2 hv hk hl; exact hk.elim
    | succ n7 ih7 =>
      have B35 : ∀ (ls : Array Slot) (x2 : Int32) (s0 : Int32), v = f_Mo_tooDeep_35 (f_Mo_tooDeep_7 n7) x2 s0 σ → k_Mo_tooDeep_35 (k_Mo_tooDeep_7 n7) x2 s0 σ → lv_has ls 3 [(0, .ref (h 0)), (2, .int x2)] → W p l e (headSpec w_Mo_tooDeep rm_Mo_tooDeep).room s m args below meth c s.heap [] 0 0 (MQ below (k2_QcV (.int v)) args s 0 0 (fun _ => False)) (F0 m 35 ls [.int s0]) := by
        intro ls x2 s0 hv hk hl
        unfold f_Mo_tooDeep_35 at hv
        unfold k_Mo_tooDeep_35 at hk
        refine lv_istore_n (lv' := [(1, .int s0), (0, .ref (h 0)), (2, .int x2)]) hx hb d_Mo_tooDeep_35 rfl hl (by decide) rfl (fun ls hl => ?_)
        refine lv_iinc (k := 2) (v := x2 + 1) (lv' := [(2, .int (x2 + 1)), (1, .int s0), (0, .ref (h 0))]) hx hb d_Mo_tooDeep_36 hl rfl (by first | rfl | simp [lit1, litm1]) (by decide) rfl (fun ls hl => ?_)
        refine lv_goto (tgt := 7) hx hb d_Mo_tooDeep_39 (by decide) ?_
        exact ih7 _ s0 (x2 + 1) hv hk (lv_sub hl [2, 1, 0] rfl)
      have B30 : ∀ (ls : Array Slot) (x2 : Int32), v = f_Mo_tooDeep_30 (f_Mo_tooDeep_7 n7) x2 σ → k_Mo_tooDeep_30 (k_Mo_tooDeep_7 n7) x2 σ → lv_has ls 3 [(0, .ref (h 0)), (2, .int x2)] → W p l e (headSpec w_Mo_tooDeep rm_Mo_tooDeep).room s m args below meth c s.heap [] 0 0 (MQ below (k2_QcV (.int v)) args s 0 0 (fun _ => False)) (F0 m 30 ls []) := by
        intro ls x2 hv hk hl
        unfold f_Mo_tooDeep_30 at hv
        unfold k_Mo_tooDeep_30 at hk
        refine lv_iconst (v := 1) hx hb d_Mo_tooDeep_30 (by decide) ?_
        refine lv_goto (tgt := 35) hx hb d_Mo_tooDeep_31 (by decide) ?_
        exact B35 _ x2 1 hv hk (lv_sub hl [0, 1] rfl)
      intro ls x1 x2 hv hk hl
      rw [f_Mo_tooDeep_7] at hv
      rw [k_Mo_tooDeep_7] at hk
      refine lv_iload_n hx hb d_Mo_tooDeep_7 rfl (lv_at hl 2 rfl) ?_
      refine lv_aload_n hx hb d_Mo_tooDeep_8 rfl (lv_at hl 0 rfl) ?_
      refine va_get (v := .int (σ.1 0 8)) (C := R_Mo) (T := T_Mo) (N := 51) hx hb hg in_Mo hown hK hP 0 rfl rfl 8 (by decide) (hg _ m_1267) (fun _ h9 => h9) rfl d_Mo_tooDeep_9 ?_
      refine lv_icmp_ge (tgt := 42) hx hb d_Mo_tooDeep_12 (by decide) (fun hc => ?_) (fun hc => ?_)
      · have hv := hv.trans (if_pos hc)
        have hk := hk.1 hc
        refine lv_iload_n hx hb d_Mo_tooDeep_42 rfl (lv_at hl 1 rfl) ?_
        obtain ⟨hk0, hk⟩ := hk
        exact W.zret hx hb hr hk0 (fun t ht hW => ⟨by rw [hv], ht⟩) (fun q h => nomatch h) d_Mo_tooDeep_43
      · have hv := hv.trans (if_neg hc)
        have hk := hk.2 hc
        refine lv_iload_n hx hb d_Mo_tooDeep_15 rfl (lv_at hl 1 rfl) ?_
        refine lv_if_ne (tgt := 30) hx hb d_Mo_tooDeep_16 (by decide) (fun hc => ?_) (fun hc => ?_)
        · have hv := hv.trans (if_neg hc)
          have hk := hk.2 hc
          exact B30 _ x2 hv hk (lv_sub hl [0, 2] rfl)
        · have hv := hv.trans (if_pos hc)
          have hk := hk.1 hc
          refine lv_aload_n hx hb d_Mo_tooDeep_19 rfl (lv_at hl 0 rfl) ?_
          refine va_get (v := .ref (h 7)) (C := R_Mo) (T := T_Mo) (N := 51) hx hb hg in_Mo hown hK hP 0 rfl rfl 12 (by decide) (hg _ m_1271) (fun _ h9 => h9) rfl d_Mo_tooDeep_20 ?_
          refine lv_iload_n hx hb d_Mo_tooDeep_23 rfl (lv_at hl 2 rfl) ?_
          obtain ⟨hk0, hk⟩ := hk
          refine va_iald hx hb hK hP 7 0 rfl rfl hk0 d_Mo_tooDeep_24 ?_
          refine lv_bipush (v := 12) hx hb d_Mo_tooDeep_25 (by decide) ?_
          refine lv_icmp_le (tgt := 34) hx hb d_Mo_tooDeep_27 (by decide) (fun hc => ?_) (fun hc => ?_)
          · have hv := hv.trans (if_pos hc)
            have hk := hk.1 hc
            refine lv_iconst (v := 0) hx hb d_Mo_tooDeep_34 (by decide) ?_
            exact B35 _ x2 0 hv hk (lv_sub hl [0, 2] rfl)
          · have hv := hv.trans (if_neg hc)
            have hk := hk.2 hc
            exact B30 _ x2 hv hk (lv_sub hl [0, 2] rfl)
  unfold f_Mo_tooDeep at hv
  unfold k_Mo_tooDeep at hk
  refine lv_iconst (v := 0) hx hb d_Mo_tooDeep_0 (by decide) ?_
  refine lv_istore_n (lv' := [(1, .int 0), (0, .ref (h 0))]) hx hb d_Mo_tooDeep_1 rfl hl (by decide) rfl (fun ls hl => ?_)
  refine lv_aload_n hx hb d_Mo_tooDeep_2 rfl (lv_at hl 1 rfl) ?_
  refine va_get (v := .int (σ.1 0 9)) (C := R_Mo) (T := T_Mo) (N := 51) hx hb hg in_Mo hown hK hP 0 rfl rfl 9 (by decide) (hg _ m_1268) (fun _ h9 => h9) rfl d_Mo_tooDeep_3 ?_
  refine lv_istore_n (lv' := [(2, .int (σ.1 0 9)), (1, .int 0), (0, .ref (h 0))]) hx hb d_Mo_tooDeep_6 rfl hl (by decide) rfl (fun ls hl => ?_)
  exact B7 1000 _ 0 (σ.1 0 9) hv hk (lv_sub hl [2, 1, 0] rfl)

-- ClauseLedgerModel.join(I)V
abbrev b_Mo_join : ByteArray := prog_14_method_14_code
def y_Mo_join : MethodName := ⟨"ClauseLedgerModel", "join", "(I)V"⟩
theorem hd_Mo_join : y_Mo_join.cls ≠ "java/lang/invoke/MethodHandle" ∧ y_Mo_join.cls ≠ "java/lang/invoke/VarHandle" ∧ (parseMethodDescriptor y_Mo_join.desc).map (fun d => d.parameters.length) = some 1 := by decide +kernel
theorem d_Mo_join_0 : decode b_Mo_join 0 = .ok (.iconst 0, 1) := by decide +kernel
theorem d_Mo_join_1 : decode b_Mo_join 1 = .ok (.istore_n 2, 1) := by decide +kernel
theorem d_Mo_join_2 : decode b_Mo_join 2 = .ok (.iconst 0, 1) := by decide +kernel
theorem d_Mo_join_3 : decode b_Mo_join 3 = .ok (.istore_n 3, 1) := by decide +kernel
theorem d_Mo_join_4 : decode b_Mo_join 4 = .ok (.iload_n 3, 1) := by decide +kernel
theorem d_Mo_join_5 : decode b_Mo_join 5 = .ok (.aload_n 0, 1) := by decide +kernel
theorem d_Mo_join_6 : decode b_Mo_join 6 = .ok (.getfield 123, 3) := by decide +kernel
theorem d_Mo_join_9 : decode b_Mo_join 9 = .ok (.if_icmp .ge 29, 3) := by decide +kernel
theorem d_Mo_join_12 : decode b_Mo_join 12 = .ok (.iload_n 2, 1) := by decide +kernel
theorem d_Mo_join_13 : decode b_Mo_join 13 = .ok (.ifCond .ne 13, 3) := by decide +kernel
theorem d_Mo_join_16 : decode b_Mo_join 16 = .ok (.aload_n 0, 1) := by decide +kernel
theorem d_Mo_join_17 : decode b_Mo_join 17 = .ok (.getfield 72, 3) := by decide +kernel
theorem d_Mo_join_20 : decode b_Mo_join 20 = .ok (.iload_n 3, 1) := by decide +kernel
theorem d_Mo_join_21 : decode b_Mo_join 21 = .ok (.iaload, 1) := by decide +kernel
theorem d_Mo_join_22 : decode b_Mo_join 22 = .ok (.iload_n 1, 1) := by decide +kernel
theorem d_Mo_join_23 : decode b_Mo_join 23 = .ok (.if_icmp .ne 7, 3) := by decide +kernel
theorem d_Mo_join_26 : decode b_Mo_join 26 = .ok (.iconst 1, 1) := by decide +kernel
theorem d_Mo_join_27 : decode b_Mo_join 27 = .ok (.goto 4, 3) := by decide +kernel
theorem d_Mo_join_30 : decode b_Mo_join 30 = .ok (.iconst 0, 1) := by decide +kernel
theorem d_Mo_join_31 : decode b_Mo_join 31 = .ok (.istore_n 2, 1) := by decide +kernel
theorem d_Mo_join_32 : decode b_Mo_join 32 = .ok (.iinc 3 1, 3) := by decide +kernel
theorem d_Mo_join_35 : decode b_Mo_join 35 = .ok (.goto (-31), 3) := by decide +kernel
theorem d_Mo_join_38 : decode b_Mo_join 38 = .ok (.iload_n 2, 1) := by decide +kernel
theorem d_Mo_join_39 : decode b_Mo_join 39 = .ok (.ifCond .eq 4, 3) := by decide +kernel
theorem d_Mo_join_42 : decode b_Mo_join 42 = .ok (.return_, 1) := by decide +kernel
theorem d_Mo_join_43 : decode b_Mo_join 43 = .ok (.aload_n 0, 1) := by decide +kernel
theorem d_Mo_join_44 : decode b_Mo_join 44 = .ok (.getfield 72, 3) := by decide +kernel
theorem d_Mo_join_47 : decode b_Mo_join 47 = .ok (.aload_n 0, 1) := by decide +kernel
theorem d_Mo_join_48 : decode b_Mo_join 48 = .ok (.getfield 123, 3) := by decide +kernel
theorem d_Mo_join_51 : decode b_Mo_join 51 = .ok (.iload_n 1, 1) := by decide +kernel
theorem d_Mo_join_52 : decode b_Mo_join 52 = .ok (.iastore, 1) := by decide +kernel
theorem d_Mo_join_53 : decode b_Mo_join 53 = .ok (.aload_n 0, 1) := by decide +kernel
theorem d_Mo_join_54 : decode b_Mo_join 54 = .ok (.dup, 1) := by decide +kernel
theorem d_Mo_join_55 : decode b_Mo_join 55 = .ok (.getfield 123, 3) := by decide +kernel
theorem d_Mo_join_58 : decode b_Mo_join 58 = .ok (.iconst 1, 1) := by decide +kernel
theorem d_Mo_join_59 : decode b_Mo_join 59 = .ok (.iadd, 1) := by decide +kernel
theorem d_Mo_join_60 : decode b_Mo_join 60 = .ok (.putfield 123, 3) := by decide +kernel
theorem d_Mo_join_63 : decode b_Mo_join 63 = .ok (.return_, 1) := by decide +kernel
def f_Mo_join_31 (F4 : (Int32 → Int32 → Int32 → St → St)) (x1 : Int32) (x3 : Int32) (s0 : Int32) (σ : St) : St := F4 x1 s0 (x3 + 1) σ
def k_Mo_join_31 (K4 : (Int32 → Int32 → Int32 → St → Prop)) (x1 : Int32) (x3 : Int32) (s0 : Int32) (σ : St) : Prop := K4 x1 s0 (x3 + 1) σ
def f_Mo_join_26 (F4 : (Int32 → Int32 → Int32 → St → St)) (x1 : Int32) (x3 : Int32) (σ : St) : St := f_Mo_join_31 F4 x1 x3 1 σ
def k_Mo_join_26 (K4 : (Int32 → Int32 → Int32 → St → Prop)) (x1 : Int32) (x3 : Int32) (σ : St) : Prop := k_Mo_join_31 K4 x1 x3 1 σ
def f_Mo_join_63 (σ : St) : St := σ
def k_Mo_join_63 (σ : St) : Prop := True
def f_Mo_join_53 (σ : St) : St := f_Mo_join_63 (sF σ 0 28 ((σ.1 0 28) + 1))
def k_Mo_join_53 (σ : St) : Prop := k_Mo_join_63 (sF σ 0 28 ((σ.1 0 28) + 1))
def f_Mo_join_4 : Nat → Int32 → Int32 → Int32 → St → St
  | 0, _, _, _, σ => σ
  | n + 1, x1, x2, x3, σ => if (σ.1 0 28) ≤ x3 then (if x2 = 0 then (f_Mo_join_53 (sA σ 20 (σ.1 0 28) x1)) else σ) else (if x2 = 0 then (if (σ.1 20 x3.toNatClampNeg) = x1 then (f_Mo_join_26 (f_Mo_join_4 n) x1 x3 σ) else (f_Mo_join_31 (f_Mo_join_4 n) x1 x3 0 σ)) else (f_Mo_join_26 (f_Mo_join_4 n) x1 x3 σ))
def k_Mo_join_4 : Nat → Int32 → Int32 → Int32 → St → Prop
  | 0, _, _, _, _ => False
  | n + 1, x1, x2, x3, σ => ((σ.1 0 28) ≤ x3 → ((x2 = 0 → (vp_in (σ.1 0 28) 100 ∧ (k_Mo_join_53 (sA σ 20 (σ.1 0 28) x1)))) ∧ (¬ x2 = 0 → True))) ∧ (¬ (σ.1 0 28) ≤ x3 → ((x2 = 0 → (vp_in x3 100 ∧ (((σ.1 20 x3.toNatClampNeg) = x1 → (k_Mo_join_26 (k_Mo_join_4 n) x1 x3 σ)) ∧ (¬ (σ.1 20 x3.toNatClampNeg) = x1 → (k_Mo_join_31 (k_Mo_join_4 n) x1 x3 0 σ))))) ∧ (¬ x2 = 0 → (k_Mo_join_26 (k_Mo_join_4 n) x1 x3 σ))))
def f_Mo_join (a1 : Int32) (σ : St) : St := f_Mo_join_4 1000 a1 0 0 σ
def k_Mo_join (a1 : Int32) (σ : St) : Prop := k_Mo_join_4 1000 a1 0 0 σ
abbrev w_Mo_join : List Cond := Cond.code y_Mo_join b_Mo_join 4 none :: gw
abbrev rm_Mo_join : Room := { frames := 0, cells := 0, slots := 0, locals := 0 }
set_option maxHeartbeats 4000000 in
set_option maxRecDepth 100000 in
theorem c_Mo_join (l : Launch) (D : va_G) (ty : Nat → ClassId) (h : Nat → Nat) (px : va_W) (sa : Nat → Nat) (σ : St) (sz : Nat) (a1 : Int32) (hk : k_Mo_join a1 σ) : Met l y_Mo_join w_Mo_join rm_Mo_join (va_Pc [.ref (h 0), .int a1] (fun U => U.heap.size = sz ∧ va_P D classes (Wm ty h σ px) U.heap ∧ va_K D classes (Ta ty) U ∧ NW U ∧ MK sa (va_A (Wm ty h σ px) sz) U U.heap ∧ va_D (fun _ => True) (Wm ty h σ px))) (va_Qv (fun u : St => u = f_Mo_join a1 σ) (fun u t => va_P D classes (Wm ty h u px) t.heap) (va_A (Wm ty h σ px) sz)) 0 0 (va_A (Wm ty h σ px) sz) := by
  refine Met.ofW (cc := b_Mo_join) (maxL := 4) (ret := none) (by decide) rfl ?_
  intro p e s m args below meth c s₁ B hml hv
  obtain ⟨ha, hsz, hP, hK, hN, hM, hD0⟩ := hv
  have hx := B.exec
  have hb := B.bytes
  have hr := B.returns
  have hg : ∀ w ∈ gw, w.before args s = true := fun w h9 => atoms_spec (ws := w_Mo_join) B.pre w (List.mem_cons_of_mem _ h9)
  have hown : s.vm.findClass "ClauseLedgerModel" = some m.cls := findClass_of_methodNamed B.named
  have hlocks := B.notSynchronized
  subst hsz
  have hD := hD0.self (sz := s.heap.size)
  generalize hAe : va_A (Wm ty h σ px) s.heap.size = A at hD hM ⊢
  have hA : ∀ q : Nat, s.heap.size ≤ q → A q := fun q h9 => by rw [← hAe]; exact Or.inr h9
  have hS : va_S A s.heap s.heap [] := va_S.rf
  have he : entryFrame m args 4 = entryFrame m ([.ref (h 0), .int a1] : List Value).toArray 4 := by rw [ha]
  rw [he, lg_entry_eq]
  have hl := lv_entry ([.ref (h 0), .int a1]) (n := 4) (Nat.le_of_ble_eq_true rfl)
  generalize (lg_sl ([.ref (h 0), .int a1]) ++ List.replicate (4 - (lg_sl ([.ref (h 0), .int a1])).length) Slot.unset).toArray = ls at hl ⊢
  have hl : lv_has ls 4 [(0, .ref (h 0)), (1, .int a1)] := hl
  generalize hv : f_Mo_join a1 σ = v
  replace hv := hv.symm
  have B63 : ∀ (H : Heap) (locs : List Loc) (ls : Array Slot) (σ : St), v = f_Mo_join_63 σ → k_Mo_join_63 σ → lv_has ls 4 [] → va_P D classes (Wm ty h σ px) H → va_D A (Wm ty h σ px) → va_S A s.heap H locs → W p l e (headSpec w_Mo_join rm_Mo_join).room s m args below meth c H locs 0 0 (MQ below (va_Qv (fun u : St => u = v) (fun u t => va_P D classes (Wm ty h u px) t.heap) A) args s 0 0 A) (F0 m 63 ls []) := by
    intro H locs ls σ hv hk hl hP hD hS
    unfold f_Mo_join_63 at hv
    unfold k_Mo_join_63 at hk
    exact W.vret hx hb hr (fun t ht hW => ⟨⟨_, rfl, hv.symm, by dsimp only; rw [ht]; exact hP⟩, hS.F ht⟩) hS.2.2 d_Mo_join_63
  have B53 : ∀ (H : Heap) (locs : List Loc) (ls : Array Slot) (σ : St), v = f_Mo_join_53 σ → k_Mo_join_53 σ → lv_has ls 4 [(0, .ref (h 0))] → va_P D classes (Wm ty h σ px) H → va_D A (Wm ty h σ px) → va_S A s.heap H locs → W p l e (headSpec w_Mo_join rm_Mo_join).room s m args below meth c H locs 0 0 (MQ below (va_Qv (fun u : St => u = v) (fun u t => va_P D classes (Wm ty h u px) t.heap) A) args s 0 0 A) (F0 m 53 ls []) := by
    intro H locs ls σ hv hk hl hP hD hS
    unfold f_Mo_join_53 at hv
    unfold k_Mo_join_53 at hk
    refine lv_aload_n hx hb d_Mo_join_53 rfl (lv_at hl 0 rfl) ?_
    refine lv_dup hx hb d_Mo_join_54 rfl ?_
    refine va_get (v := .int (σ.1 0 28)) (C := R_Mo) (T := T_Mo) (N := 51) hx hb hg in_Mo hown hK hP 0 rfl rfl 28 (by decide) (hg _ m_1287) (fun _ h9 => h9) rfl d_Mo_join_55 ?_
    refine lv_iconst (v := 1) hx hb d_Mo_join_58 (by decide) ?_
    refine lv_iadd hx hb d_Mo_join_59 ?_
    refine va_put (v := .int ((σ.1 0 28) + 1)) (ty := .int) (C := R_Mo) (T := T_Mo) (N := 51) hx hb hg in_Mo ty_Mo ok_Mo nm_Mo hown hK hP hD hS 0 rfl rfl 28 (by decide) (hg _ m_1287) (fun _ h9 => h9) rfl (by decide +kernel) rfl rfl (Nat.le_of_ble_eq_true rfl) d_Mo_join_60 (fun H locs hP hD hS => ?_)
    have hP : va_P D classes (Wm ty h (sF σ 0 28 ((σ.1 0 28) + 1)) px) H := hP
    have hD : va_D A (Wm ty h (sF σ 0 28 ((σ.1 0 28) + 1)) px) := hD
    exact B63 _ _ _  (sF σ 0 28 ((σ.1 0 28) + 1)) hv hk (lv_sub hl [] rfl) hP hD hS
  have B4 : ∀ (n4 : Nat) (H : Heap) (locs : List Loc) (ls : Array Slot) (x1 : Int32) (x2 : Int32) (x3 : Int32) (σ : St), v = f_Mo_join_4 n4 x1 x2 x3 σ → k_Mo_join_4 n4 x1 x2 x3 σ → lv_has ls 4 [(0, .ref (h 0)), (1, .int x1), (2, .int x2), (3, .int x3)] → va_P D classes (Wm ty h σ px) H → va_D A (Wm ty h σ px) → va_S A s.heap H locs → W p l e (headSpec w_Mo_join rm_Mo_join).room s m args below meth c H locs 0 0 (MQ below (va_Qv (fun u : St => u = v) (fun u t => va_P D classes (Wm ty h u px) t.heap) A) args s 0 0 A) (F0 m 4 ls []) := by
    intro n4
    induction n4 with
    | zero => intro H locs ls x1 x2 x3 σ hv hk hl hP hD hS; exact hk.elim
    | succ n4 ih4 =>
      have B31 : ∀ (H : Heap) (locs : List Loc) (ls : Array Slot) (x1 : Int32) (x3 : Int32) (s0 : Int32) (σ : St), v = f_Mo_join_31 (f_Mo_join_4 n4) x1 x3 s0 σ → k_Mo_join_31 (k_Mo_join_4 n4) x1 x3 s0 σ → lv_has ls 4 [(0, .ref (h 0)), (1, .int x1), (3, .int x3)] → va_P D classes (Wm ty h σ px) H → va_D A (Wm ty h σ px) → va_S A s.heap H locs → W p l e (headSpec w_Mo_join rm_Mo_join).room s m args below meth c H locs 0 0 (MQ below (va_Qv (fun u : St => u = v) (fun u t => va_P D classes (Wm ty h u px) t.heap) A) args s 0 0 A) (F0 m 31 ls [.int s0]) := by
        intro H locs ls x1 x3 s0 σ hv hk hl hP hD hS
        unfold f_Mo_join_31 at hv
        unfold k_Mo_join_31 at hk
        refine lv_istore_n (lv' := [(2, .int s0), (0, .ref (h 0)), (1, .int x1), (3, .int x3)]) hx hb d_Mo_join_31 rfl hl (by decide) rfl (fun ls hl => ?_)
        refine lv_iinc (k := 3) (v := x3 + 1) (lv' := [(3, .int (x3 + 1)), (2, .int s0), (0, .ref (h 0)), (1, .int x1)]) hx hb d_Mo_join_32 hl rfl (by first | rfl | simp [lit1, litm1]) (by decide) rfl (fun ls hl => ?_)
        refine lv_goto (tgt := 4) hx hb d_Mo_join_35 (by decide) ?_
        exact ih4 _ _ _ x1 s0 (x3 + 1) σ hv hk (lv_sub hl [2, 3, 1, 0] rfl) hP hD hS
      have B26 : ∀ (H : Heap) (locs : List Loc) (ls : Array Slot) (x1 : Int32) (x3 : Int32) (σ : St), v = f_Mo_join_26 (f_Mo_join_4 n4) x1 x3 σ → k_Mo_join_26 (k_Mo_join_4 n4) x1 x3 σ → lv_has ls 4 [(0, .ref (h 0)), (1, .int x1), (3, .int x3)] → va_P D classes (Wm ty h σ px) H → va_D A (Wm ty h σ px) → va_S A s.heap H locs → W p l e (headSpec w_Mo_join rm_Mo_join).room s m args below meth c H locs 0 0 (MQ below (va_Qv (fun u : St => u = v) (fun u t => va_P D classes (Wm ty h u px) t.heap) A) args s 0 0 A) (F0 m 26 ls []) := by
        intro H locs ls x1 x3 σ hv hk hl hP hD hS
        unfold f_Mo_join_26 at hv
        unfold k_Mo_join_26 at hk
        refine lv_iconst (v := 1) hx hb d_Mo_join_26 (by decide) ?_
        refine lv_goto (tgt := 31) hx hb d_Mo_join_27 (by decide) ?_
        exact B31 _ _ _ x1 x3 1 σ hv hk (lv_sub hl [0, 1, 2] rfl) hP hD hS
      intro H locs ls x1 x2 x3 σ hv hk hl hP hD hS
      rw [f_Mo_join_4] at hv
      rw [k_Mo_join_4] at hk
      refine lv_iload_n hx hb d_Mo_join_4 rfl (lv_at hl 3 rfl) ?_
      refine lv_aload_n hx hb d_Mo_join_5 rfl (lv_at hl 0 rfl) ?_
      refine va_get (v := .int (σ.1 0 28)) (C := R_Mo) (T := T_Mo) (N := 51) hx hb hg in_Mo hown hK hP 0 rfl rfl 28 (by decide) (hg _ m_1287) (fun _ h9 => h9) rfl d_Mo_join_6 ?_
      refine lv_icmp_ge (tgt := 38) hx hb d_Mo_join_9 (by decide) (fun hc => ?_) (fun hc => ?_)
      · have hv := hv.trans (if_pos hc)
        have hk := hk.1 hc
        refine lv_iload_n hx hb d_Mo_join_38 rfl (lv_at hl 2 rfl) ?_
        refine lv_if_eq (tgt := 43) hx hb d_Mo_join_39 (by decide) (fun hc => ?_) (fun hc => ?_)
        · have hv := hv.trans (if_pos hc)
          have hk := hk.1 hc
          refine lv_aload_n hx hb d_Mo_join_43 rfl (lv_at hl 0 rfl) ?_
          refine va_get (v := .ref (h 20)) (C := R_Mo) (T := T_Mo) (N := 51) hx hb hg in_Mo hown hK hP 0 rfl rfl 29 (by decide) (hg _ m_1288) (fun _ h9 => h9) rfl d_Mo_join_44 ?_
          refine lv_aload_n hx hb d_Mo_join_47 rfl (lv_at hl 0 rfl) ?_
          refine va_get (v := .int (σ.1 0 28)) (C := R_Mo) (T := T_Mo) (N := 51) hx hb hg in_Mo hown hK hP 0 rfl rfl 28 (by decide) (hg _ m_1287) (fun _ h9 => h9) rfl d_Mo_join_48 ?_
          refine lv_iload_n hx hb d_Mo_join_51 rfl (lv_at hl 1 rfl) ?_
          obtain ⟨hk0, hk⟩ := hk
          refine va_iast hx hb hK hP hD hS 20 0 rfl rfl hk0 d_Mo_join_52 (fun H locs hP hD hS => ?_)
          have hP : va_P D classes (Wm ty h (sA σ 20 (σ.1 0 28) x1) px) H := hP
          have hD : va_D A (Wm ty h (sA σ 20 (σ.1 0 28) x1) px) := hD
          exact B53 _ _ _  (sA σ 20 (σ.1 0 28) x1) hv hk (lv_sub hl [0] rfl) hP hD hS
        · have hv := hv.trans (if_neg hc)
          have hk := hk.2 hc
          exact W.vret hx hb hr (fun t ht hW => ⟨⟨_, rfl, hv.symm, by dsimp only; rw [ht]; exact hP⟩, hS.F ht⟩) hS.2.2 d_Mo_join_42
      · have hv := hv.trans (if_neg hc)
        have hk := hk.2 hc
        refine lv_iload_n hx hb d_Mo_join_12 rfl (lv_at hl 2 rfl) ?_
        refine lv_if_ne (tgt := 26) hx hb d_Mo_join_13 (by decide) (fun hc => ?_) (fun hc => ?_)
        · have hv := hv.trans (if_neg hc)
          have hk := hk.2 hc
          exact B26 _ _ _ x1 x3 σ hv hk (lv_sub hl [0, 1, 3] rfl) hP hD hS
        · have hv := hv.trans (if_pos hc)
          have hk := hk.1 hc
          refine lv_aload_n hx hb d_Mo_join_16 rfl (lv_at hl 0 rfl) ?_
          refine va_get (v := .ref (h 20)) (C := R_Mo) (T := T_Mo) (N := 51) hx hb hg in_Mo hown hK hP 0 rfl rfl 29 (by decide) (hg _ m_1288) (fun _ h9 => h9) rfl d_Mo_join_17 ?_
          refine lv_iload_n hx hb d_Mo_join_20 rfl (lv_at hl 3 rfl) ?_
          obtain ⟨hk0, hk⟩ := hk
          refine va_iald hx hb hK hP 20 0 rfl rfl hk0 d_Mo_join_21 ?_
          refine lv_iload_n hx hb d_Mo_join_22 rfl (lv_at hl 1 rfl) ?_
          refine lv_icmp_ne (tgt := 30) hx hb d_Mo_join_23 (by decide) (fun hc => ?_) (fun hc => ?_)
          · have hv := hv.trans (if_neg hc)
            have hk := hk.2 hc
            refine lv_iconst (v := 0) hx hb d_Mo_join_30 (by decide) ?_
            exact B31 _ _ _ x1 x3 0 σ hv hk (lv_sub hl [0, 1, 3] rfl) hP hD hS
          · have hv := hv.trans (if_pos hc)
            have hk := hk.1 hc
            exact B26 _ _ _ x1 x3 σ hv hk (lv_sub hl [0, 1, 3] rfl) hP hD hS
  unfold f_Mo_join at hv
  unfold k_Mo_join at hk
  refine lv_iconst (v := 0) hx hb d_Mo_join_0 (by decide) ?_
  refine lv_istore_n (lv' := [(2, .int 0), (0, .ref (h 0)), (1, .int a1)]) hx hb d_Mo_join_1 rfl hl (by decide) rfl (fun ls hl => ?_)
  refine lv_iconst (v := 0) hx hb d_Mo_join_2 (by decide) ?_
  refine lv_istore_n (lv' := [(3, .int 0), (2, .int 0), (0, .ref (h 0)), (1, .int a1)]) hx hb d_Mo_join_3 rfl hl (by decide) rfl (fun ls hl => ?_)
  exact B4 1000 _ _ _ a1 0 0 σ hv hk (lv_sub hl [2, 3, 1, 0] rfl) hP hD hS

