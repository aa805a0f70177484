-- ClauseLedger$Row.size()I
abbrev b_Ro_size : ByteArray := prog_6_method_2_code
def y_Ro_size : MethodName := ⟨"ClauseLedger$Row", "size", "()I"⟩
theorem hd_Ro_size : y_Ro_size.cls ≠ "java/lang/invoke/MethodHandle" ∧ y_Ro_size.cls ≠ "java/lang/invoke/VarHandle" ∧ (parseMethodDescriptor y_Ro_size.desc).map (fun d => d.parameters.length) = some 0 := by decide +kernel
theorem d_Ro_size_0 : decode b_Ro_size 0 = .ok (.aload_n 0, 1) := by decide +kernel
theorem d_Ro_size_1 : decode b_Ro_size 1 = .ok (.getfield 15, 3) := by decide +kernel
theorem d_Ro_size_4 : decode b_Ro_size 4 = .ok (.ireturn, 1) := by decide +kernel
def f_Ro_size (σ : St) : Int32 := σ.1 25 1
def k_Ro_size (σ : St) : Prop := True
abbrev w_Ro_size : List Cond := Cond.code y_Ro_size b_Ro_size 1 (some .int) :: gw
abbrev rm_Ro_size : Room := { frames := 0, cells := 0, slots := 0, locals := 0 }
set_option maxHeartbeats 4000000 in
set_option maxRecDepth 100000 in
theorem c_Ro_size (l : Launch) (D : va_G) (ty : Nat → ClassId) (h : Nat → Nat) (px : va_W) (σ : St) (hk : k_Ro_size σ) : Met l y_Ro_size w_Ro_size rm_Ro_size (va_Pc [.ref (h 25)] (fun U => va_P D classes (Wc ty h σ px) U.heap ∧ va_K D classes (Ta ty) U)) (k2_QcV (.int (f_Ro_size σ))) 0 0 (fun _ => False) := by
  refine Met.ofW (cc := b_Ro_size) (maxL := 1) (ret := (some .int)) (by decide) rfl ?_
  intro p e s m args below meth c s₁ B hml hv
  obtain ⟨ha, hP, hK⟩ := hv
  have hx := B.exec
  have hb := B.bytes
  have hr := B.returns
  have hg : ∀ w ∈ gw, w.before args s = true := fun w h9 => atoms_spec (ws := w_Ro_size) B.pre w (List.mem_cons_of_mem _ h9)
  have hown : s.vm.findClass "ClauseLedger$Row" = some m.cls := findClass_of_methodNamed B.named
  have hlocks := B.notSynchronized
  have he : entryFrame m args 1 = entryFrame m ([.ref (h 25)] : List Value).toArray 1 := by rw [ha]
  rw [he, lg_entry_eq]
  have hl := lv_entry ([.ref (h 25)]) (n := 1) (Nat.le_of_ble_eq_true rfl)
  generalize (lg_sl ([.ref (h 25)]) ++ List.replicate (1 - (lg_sl ([.ref (h 25)])).length) Slot.unset).toArray = ls at hl ⊢
  have hl : lv_has ls 1 [(0, .ref (h 25))] := hl
  generalize hv : f_Ro_size σ = v
  replace hv := hv.symm
  unfold f_Ro_size at hv
  unfold k_Ro_size at hk
  refine lv_aload_n hx hb d_Ro_size_0 rfl (lv_at hl 0 rfl) ?_
  refine va_get (v := .int (σ.1 25 1)) (C := R_Ro) (T := T_Ro) (N := 2) hx hb hg in_Ro hown hK hP 25 rfl rfl 1 (by decide) (hg _ m_233) (fun _ h9 => h9) rfl d_Ro_size_1 ?_
  exact W.iret hx hb hr (fun t ht hW => ⟨by rw [hv], ht⟩) (fun q h => nomatch h) d_Ro_size_4

-- ClauseLedger$Row.truth(I)I
abbrev b_Ro_truth : ByteArray := prog_6_method_3_code
def y_Ro_truth : MethodName := ⟨"ClauseLedger$Row", "truth", "(I)I"⟩
theorem hd_Ro_truth : y_Ro_truth.cls ≠ "java/lang/invoke/MethodHandle" ∧ y_Ro_truth.cls ≠ "java/lang/invoke/VarHandle" ∧ (parseMethodDescriptor y_Ro_truth.desc).map (fun d => d.parameters.length) = some 1 := by decide +kernel
theorem d_Ro_truth_0 : decode b_Ro_truth 0 = .ok (.iload_n 1, 1) := by decide +kernel
theorem d_Ro_truth_1 : decode b_Ro_truth 1 = .ok (.ifCond .lt 20, 3) := by decide +kernel
theorem d_Ro_truth_4 : decode b_Ro_truth 4 = .ok (.iload_n 1, 1) := by decide +kernel
theorem d_Ro_truth_5 : decode b_Ro_truth 5 = .ok (.aload_n 0, 1) := by decide +kernel
theorem d_Ro_truth_6 : decode b_Ro_truth 6 = .ok (.getfield 15, 3) := by decide +kernel
theorem d_Ro_truth_9 : decode b_Ro_truth 9 = .ok (.if_icmp .ge 12, 3) := by decide +kernel
theorem d_Ro_truth_12 : decode b_Ro_truth 12 = .ok (.aload_n 0, 1) := by decide +kernel
theorem d_Ro_truth_13 : decode b_Ro_truth 13 = .ok (.getfield 9, 3) := by decide +kernel
theorem d_Ro_truth_16 : decode b_Ro_truth 16 = .ok (.iload_n 1, 1) := by decide +kernel
theorem d_Ro_truth_17 : decode b_Ro_truth 17 = .ok (.iaload, 1) := by decide +kernel
theorem d_Ro_truth_18 : decode b_Ro_truth 18 = .ok (.goto 4, 3) := by decide +kernel
theorem d_Ro_truth_21 : decode b_Ro_truth 21 = .ok (.iconst (-1), 1) := by decide +kernel
theorem d_Ro_truth_22 : decode b_Ro_truth 22 = .ok (.ireturn, 1) := by decide +kernel
def f_Ro_truth_22 (s0 : Int32) (σ : St) : Int32 := s0
def k_Ro_truth_22 (s0 : Int32) (σ : St) : Prop := True
def f_Ro_truth_21 (σ : St) : Int32 := f_Ro_truth_22 (-1) σ
def k_Ro_truth_21 (σ : St) : Prop := k_Ro_truth_22 (-1) σ
def f_Ro_truth (a1 : Int32) (σ : St) : Int32 := if a1 < 0 then (f_Ro_truth_21 σ) else (if (σ.1 25 1) ≤ a1 then (f_Ro_truth_21 σ) else (f_Ro_truth_22 (σ.1 26 a1.toNatClampNeg) σ))
def k_Ro_truth (a1 : Int32) (σ : St) : Prop := (a1 < 0 → (k_Ro_truth_21 σ)) ∧ (¬ a1 < 0 → (((σ.1 25 1) ≤ a1 → (k_Ro_truth_21 σ)) ∧ (¬ (σ.1 25 1) ≤ a1 → (vp_in a1 68 ∧ (k_Ro_truth_22 (σ.1 26 a1.toNatClampNeg) σ)))))
abbrev w_Ro_truth : List Cond := Cond.code y_Ro_truth b_Ro_truth 2 (some .int) :: gw
abbrev rm_Ro_truth : Room := { frames := 0, cells := 0, slots := 0, locals := 0 }
set_option maxHeartbeats 4000000 in
set_option maxRecDepth 100000 in
theorem c_Ro_truth (l : Launch) (D : va_G) (ty : Nat → ClassId) (h : Nat → Nat) (px : va_W) (σ : St) (a1 : Int32) (hk : k_Ro_truth a1 σ) : Met l y_Ro_truth w_Ro_truth rm_Ro_truth (va_Pc [.ref (h 25), .int a1] (fun U => va_P D classes (Wc ty h σ px) U.heap ∧ va_K D classes (Ta ty) U)) (k2_QcV (.int (f_Ro_truth a1 σ))) 0 0 (fun _ => False) := by
  refine Met.ofW (cc := b_Ro_truth) (maxL := 2) (ret := (some .int)) (by decide) rfl ?_
  intro p e s m args below meth c s₁ B hml hv
  obtain ⟨ha, hP, hK⟩ := hv
  have hx := B.exec
  have hb := B.bytes
  have hr := B.returns
  have hg : ∀ w ∈ gw, w.before args s = true := fun w h9 => atoms_spec (ws := w_Ro_truth) B.pre w (List.mem_cons_of_mem _ h9)
  have hown : s.vm.findClass "ClauseLedger$Row" = some m.cls := findClass_of_methodNamed B.named
  have hlocks := B.notSynchronized
  have he : entryFrame m args 2 = entryFrame m ([.ref (h 25), .int a1] : List Value).toArray 2 := by rw [ha]
  rw [he, lg_entry_eq]
  have hl := lv_entry ([.ref (h 25), .int a1]) (n := 2) (Nat.le_of_ble_eq_true rfl)
  generalize (lg_sl ([.ref (h 25), .int a1]) ++ List.replicate (2 - (lg_sl ([.ref (h 25), .int a1])).length) Slot.unset).toArray = ls at hl ⊢
  have hl : lv_has ls 2 [(0, .ref (h 25)), (1, .int a1)] := hl
  generalize hv : f_Ro_truth a1 σ = v
  replace hv := hv.symm
  have B22 : ∀ (ls : Array Slot) (s0 : Int32), v = f_Ro_truth_22 s0 σ → k_Ro_truth_22 s0 σ → lv_has ls 2 [] → W p l e (headSpec w_Ro_truth rm_Ro_truth).room s m args below meth c s.heap [] 0 0 (MQ below (k2_QcV (.int v)) args s 0 0 (fun _ => False)) (F0 m 22 ls [.int s0]) := by
    intro ls s0 hv hk hl
    unfold f_Ro_truth_22 at hv
    unfold k_Ro_truth_22 at hk
    exact W.iret hx hb hr (fun t ht hW => ⟨by rw [hv], ht⟩) (fun q h => nomatch h) d_Ro_truth_22
  have B21 : ∀ (ls : Array Slot), v = f_Ro_truth_21 σ → k_Ro_truth_21 σ → lv_has ls 2 [] → W p l e (headSpec w_Ro_truth rm_Ro_truth).room s m args below meth c s.heap [] 0 0 (MQ below (k2_QcV (.int v)) args s 0 0 (fun _ => False)) (F0 m 21 ls []) := by
    intro ls hv hk hl
    unfold f_Ro_truth_21 at hv
    unfold k_Ro_truth_21 at hk
    refine lv_iconst (v := -1) hx hb d_Ro_truth_21 (by decide) ?_
    exact B22 _ (-1) hv hk (lv_sub hl [] rfl)
  unfold f_Ro_truth at hv
  unfold k_Ro_truth at hk
  refine lv_iload_n hx hb d_Ro_truth_0 rfl (lv_at hl 1 rfl) ?_
  refine lv_if_lt (tgt := 21) hx hb d_Ro_truth_1 (by decide) (fun hc => ?_) (fun hc => ?_)
  · have hv := hv.trans (if_pos hc)
    have hk := hk.1 hc
    exact B21 _  hv hk (lv_sub hl [] rfl)
  · have hv := hv.trans (if_neg hc)
    have hk := hk.2 hc
    refine lv_iload_n hx hb d_Ro_truth_4 rfl (lv_at hl 1 rfl) ?_
    refine lv_aload_n hx hb d_Ro_truth_5 rfl (lv_at hl 0 rfl) ?_
    refine va_get (v := .int (σ.1 25 1)) (C := R_Ro) (T := T_Ro) (N := 2) hx hb hg in_Ro hown hK hP 25 rfl rfl 1 (by decide) (hg _ m_233) (fun _ h9 => h9) rfl d_Ro_truth_6 ?_
    refine lv_icmp_ge (tgt := 21) hx hb d_Ro_truth_9 (by decide) (fun hc => ?_) (fun hc => ?_)
    · have hv := hv.trans (if_pos hc)
      have hk := hk.1 hc
      exact B21 _  hv hk (lv_sub hl [] rfl)
    · have hv := hv.trans (if_neg hc)
      have hk := hk.2 hc
      refine lv_aload_n hx hb d_Ro_truth_12 rfl (lv_at hl 0 rfl) ?_
      refine va_get (v := .ref (h 26)) (C := R_Ro) (T := T_Ro) (N := 2) hx hb hg in_Ro hown hK hP 25 rfl rfl 0 (by decide) (hg _ m_232) (fun _ h9 => h9) rfl d_Ro_truth_13 ?_
      refine lv_iload_n hx hb d_Ro_truth_16 rfl (lv_at hl 1 rfl) ?_
      obtain ⟨hk0, hk⟩ := hk
      refine va_iald hx hb hK hP 26 0 rfl rfl hk0 d_Ro_truth_17 ?_
      refine lv_goto (tgt := 22) hx hb d_Ro_truth_18 (by decide) ?_
      exact B22 _ (σ.1 26 a1.toNatClampNeg) hv hk (lv_sub hl [] rfl)

-- ClauseLedger$Row.wipe()V
abbrev b_Ro_wipe : ByteArray := prog_6_method_4_code
def y_Ro_wipe : MethodName := ⟨"ClauseLedger$Row", "wipe", "()V"⟩
theorem hd_Ro_wipe : y_Ro_wipe.cls ≠ "java/lang/invoke/MethodHandle" ∧ y_Ro_wipe.cls ≠ "java/lang/invoke/VarHandle" ∧ (parseMethodDescriptor y_Ro_wipe.desc).map (fun d => d.parameters.length) = some 0 := by decide +kernel
theorem d_Ro_wipe_0 : decode b_Ro_wipe 0 = .ok (.aload_n 0, 1) := by decide +kernel
theorem d_Ro_wipe_1 : decode b_Ro_wipe 1 = .ok (.iconst 0, 1) := by decide +kernel
theorem d_Ro_wipe_2 : decode b_Ro_wipe 2 = .ok (.putfield 15, 3) := by decide +kernel
theorem d_Ro_wipe_5 : decode b_Ro_wipe 5 = .ok (.return_, 1) := by decide +kernel
def f_Ro_wipe_5 (σ : St) : St := σ
def k_Ro_wipe_5 (σ : St) : Prop := True
def f_Ro_wipe (σ : St) : St := f_Ro_wipe_5 (sF σ 25 1 0)
def k_Ro_wipe (σ : St) : Prop := k_Ro_wipe_5 (sF σ 25 1 0)
abbrev w_Ro_wipe : List Cond := Cond.code y_Ro_wipe b_Ro_wipe 1 none :: gw
abbrev rm_Ro_wipe : Room := { frames := 0, cells := 0, slots := 0, locals := 0 }
set_option maxHeartbeats 4000000 in
set_option maxRecDepth 100000 in
theorem c_Ro_wipe (l : Launch) (D : va_G) (ty : Nat → ClassId) (h : Nat → Nat) (px : va_W) (σ : St) (sz : Nat) (hk : k_Ro_wipe σ) : Met l y_Ro_wipe w_Ro_wipe rm_Ro_wipe (va_Pc [.ref (h 25)] (fun U => U.heap.size = sz ∧ va_P D classes (Wc ty h σ px) U.heap ∧ va_K D classes (Ta ty) U ∧ va_D (fun _ => True) (Wc ty h σ px))) (va_Qv (fun u : St => u = f_Ro_wipe σ) (fun u t => va_P D classes (Wc ty h u px) t.heap) (va_A (Wc ty h σ px) sz)) 0 0 (va_A (Wc ty h σ px) sz) := by
  refine Met.ofW (cc := b_Ro_wipe) (maxL := 1) (ret := none) (by decide) rfl ?_
  intro p e s m args below meth c s₁ B hml hv
  obtain ⟨ha, hsz, hP, hK, hD0⟩ := hv
  have hx := B.exec
  have hb := B.bytes
  have hr := B.returns
  have hg : ∀ w ∈ gw, w.before args s = true := fun w h9 => atoms_spec (ws := w_Ro_wipe) B.pre w (List.mem_cons_of_mem _ h9)
  have hown : s.vm.findClass "ClauseLedger$Row" = some m.cls := findClass_of_methodNamed B.named
  have hlocks := B.notSynchronized
  subst hsz
  have hD := hD0.self (sz := s.heap.size)
  generalize hAe : va_A (Wc ty h σ px) s.heap.size = A at hD ⊢
  have hA : ∀ q : Nat, s.heap.size ≤ q → A q := fun q h9 => by rw [← hAe]; exact Or.inr h9
  have hS : va_S A s.heap s.heap [] := va_S.rf
  have he : entryFrame m args 1 = entryFrame m ([.ref (h 25)] : List Value).toArray 1 := by rw [ha]
  rw [he, lg_entry_eq]
  have hl := lv_entry ([.ref (h 25)]) (n := 1) (Nat.le_of_ble_eq_true rfl)
  generalize (lg_sl ([.ref (h 25)]) ++ List.replicate (1 - (lg_sl ([.ref (h 25)])).length) Slot.unset).toArray = ls at hl ⊢
  have hl : lv_has ls 1 [(0, .ref (h 25))] := hl
  generalize hv : f_Ro_wipe σ = v
  replace hv := hv.symm
  have B5 : ∀ (H : Heap) (locs : List Loc) (ls : Array Slot) (σ : St), v = f_Ro_wipe_5 σ → k_Ro_wipe_5 σ → lv_has ls 1 [] → va_P D classes (Wc ty h σ px) H → va_D A (Wc ty h σ px) → va_S A s.heap H locs → W p l e (headSpec w_Ro_wipe rm_Ro_wipe).room s m args below meth c H locs 0 0 (MQ below (va_Qv (fun u : St => u = v) (fun u t => va_P D classes (Wc ty h u px) t.heap) A) args s 0 0 A) (F0 m 5 ls []) := by
    intro H locs ls σ hv hk hl hP hD hS
    unfold f_Ro_wipe_5 at hv
    unfold k_Ro_wipe_5 at hk
    exact W.vret hx hb hr (fun t ht hW => ⟨⟨_, rfl, hv.symm, by dsimp only; rw [ht]; exact hP⟩, hS.F ht⟩) hS.2.2 d_Ro_wipe_5
  unfold f_Ro_wipe at hv
  unfold k_Ro_wipe at hk
  refine lv_aload_n hx hb d_Ro_wipe_0 rfl (lv_at hl 0 rfl) ?_
  refine lv_iconst (v := 0) hx hb d_Ro_wipe_1 (by decide) ?_
  refine va_put (v := .int 0) (ty := .int) (C := R_Ro) (T := T_Ro) (N := 2) hx hb hg in_Ro ty_Ro ok_Ro nm_Ro hown hK hP hD hS 25 rfl rfl 1 (by decide) (hg _ m_233) (fun _ h9 => h9) rfl (by decide +kernel) rfl rfl (Nat.le_of_ble_eq_true rfl) d_Ro_wipe_2 (fun H locs hP hD hS => ?_)
  have hP : va_P D classes (Wc ty h (sF σ 25 1 0) px) H := hP
  have hD : va_D A (Wc ty h (sF σ 25 1 0) px) := hD
  exact B5 _ _ _  (sF σ 25 1 0) hv hk (lv_sub hl [] rfl) hP hD hS

-- ClauseLedger$Row.join(I)V
abbrev b_Ro_join : ByteArray := prog_6_method_5_code
def y_Ro_join : MethodName := ⟨"ClauseLedger$Row", "join", "(I)V"⟩
theorem hd_Ro_join : y_Ro_join.cls ≠ "java/lang/invoke/MethodHandle" ∧ y_Ro_join.cls ≠ "java/lang/invoke/VarHandle" ∧ (parseMethodDescriptor y_Ro_join.desc).map (fun d => d.parameters.length) = some 1 := by decide +kernel
theorem d_Ro_join_0 : decode b_Ro_join 0 = .ok (.iload_n 1, 1) := by decide +kernel
theorem d_Ro_join_1 : decode b_Ro_join 1 = .ok (.iconst (-1), 1) := by decide +kernel
theorem d_Ro_join_2 : decode b_Ro_join 2 = .ok (.if_icmp .eq 15, 3) := by decide +kernel
theorem d_Ro_join_5 : decode b_Ro_join 5 = .ok (.aload_n 0, 1) := by decide +kernel
theorem d_Ro_join_6 : decode b_Ro_join 6 = .ok (.getfield 15, 3) := by decide +kernel
theorem d_Ro_join_9 : decode b_Ro_join 9 = .ok (.aload_n 0, 1) := by decide +kernel
theorem d_Ro_join_10 : decode b_Ro_join 10 = .ok (.getfield 9, 3) := by decide +kernel
theorem d_Ro_join_13 : decode b_Ro_join 13 = .ok (.arraylength, 1) := by decide +kernel
theorem d_Ro_join_14 : decode b_Ro_join 14 = .ok (.if_icmp .lt 4, 3) := by decide +kernel
theorem d_Ro_join_17 : decode b_Ro_join 17 = .ok (.return_, 1) := by decide +kernel
theorem d_Ro_join_18 : decode b_Ro_join 18 = .ok (.iconst 0, 1) := by decide +kernel
theorem d_Ro_join_19 : decode b_Ro_join 19 = .ok (.istore_n 2, 1) := by decide +kernel
theorem d_Ro_join_20 : decode b_Ro_join 20 = .ok (.iload_n 2, 1) := by decide +kernel
theorem d_Ro_join_21 : decode b_Ro_join 21 = .ok (.aload_n 0, 1) := by decide +kernel
theorem d_Ro_join_22 : decode b_Ro_join 22 = .ok (.getfield 15, 3) := by decide +kernel
theorem d_Ro_join_25 : decode b_Ro_join 25 = .ok (.if_icmp .ge 20, 3) := by decide +kernel
theorem d_Ro_join_28 : decode b_Ro_join 28 = .ok (.aload_n 0, 1) := by decide +kernel
theorem d_Ro_join_29 : decode b_Ro_join 29 = .ok (.getfield 9, 3) := by decide +kernel
theorem d_Ro_join_32 : decode b_Ro_join 32 = .ok (.iload_n 2, 1) := by decide +kernel
theorem d_Ro_join_33 : decode b_Ro_join 33 = .ok (.iaload, 1) := by decide +kernel
theorem d_Ro_join_34 : decode b_Ro_join 34 = .ok (.iload_n 1, 1) := by decide +kernel
theorem d_Ro_join_35 : decode b_Ro_join 35 = .ok (.if_icmp .ne 4, 3) := by decide +kernel
theorem d_Ro_join_38 : decode b_Ro_join 38 = .ok (.return_, 1) := by decide +kernel
theorem d_Ro_join_39 : decode b_Ro_join 39 = .ok (.iinc 2 1, 3) := by decide +kernel
theorem d_Ro_join_42 : decode b_Ro_join 42 = .ok (.goto (-22), 3) := by decide +kernel
theorem d_Ro_join_45 : decode b_Ro_join 45 = .ok (.aload_n 0, 1) := by decide +kernel
theorem d_Ro_join_46 : decode b_Ro_join 46 = .ok (.getfield 9, 3) := by decide +kernel
theorem d_Ro_join_49 : decode b_Ro_join 49 = .ok (.aload_n 0, 1) := by decide +kernel
theorem d_Ro_join_50 : decode b_Ro_join 50 = .ok (.getfield 15, 3) := by decide +kernel
theorem d_Ro_join_53 : decode b_Ro_join 53 = .ok (.iload_n 1, 1) := by decide +kernel
theorem d_Ro_join_54 : decode b_Ro_join 54 = .ok (.iastore, 1) := by decide +kernel
theorem d_Ro_join_55 : decode b_Ro_join 55 = .ok (.aload_n 0, 1) := by decide +kernel
theorem d_Ro_join_56 : decode b_Ro_join 56 = .ok (.dup, 1) := by decide +kernel
theorem d_Ro_join_57 : decode b_Ro_join 57 = .ok (.getfield 15, 3) := by decide +kernel
theorem d_Ro_join_60 : decode b_Ro_join 60 = .ok (.iconst 1, 1) := by decide +kernel
theorem d_Ro_join_61 : decode b_Ro_join 61 = .ok (.iadd, 1) := by decide +kernel
theorem d_Ro_join_62 : decode b_Ro_join 62 = .ok (.putfield 15, 3) := by decide +kernel
theorem d_Ro_join_65 : decode b_Ro_join 65 = .ok (.return_, 1) := by decide +kernel
def f_Ro_join_17 (σ : St) : St := σ
def k_Ro_join_17 (σ : St) : Prop := True
def f_Ro_join_65 (σ : St) : St := σ
def k_Ro_join_65 (σ : St) : Prop := True
def f_Ro_join_55 (σ : St) : St := f_Ro_join_65 (sF σ 25 1 ((σ.1 25 1) + 1))
def k_Ro_join_55 (σ : St) : Prop := k_Ro_join_65 (sF σ 25 1 ((σ.1 25 1) + 1))
def f_Ro_join_20 : Nat → Int32 → Int32 → St → St
  | 0, _, _, σ => σ
  | n + 1, x1, x2, σ => if (σ.1 25 1) ≤ x2 then (f_Ro_join_55 (sA σ 26 (σ.1 25 1) x1)) else (if (σ.1 26 x2.toNatClampNeg) = x1 then σ else ((f_Ro_join_20 n) x1 (x2 + 1) σ))
def k_Ro_join_20 : Nat → Int32 → Int32 → St → Prop
  | 0, _, _, _ => False
  | n + 1, x1, x2, σ => ((σ.1 25 1) ≤ x2 → (vp_in (σ.1 25 1) 68 ∧ (k_Ro_join_55 (sA σ 26 (σ.1 25 1) x1)))) ∧ (¬ (σ.1 25 1) ≤ x2 → (vp_in x2 68 ∧ (((σ.1 26 x2.toNatClampNeg) = x1 → True) ∧ (¬ (σ.1 26 x2.toNatClampNeg) = x1 → ((k_Ro_join_20 n) x1 (x2 + 1) σ)))))
def f_Ro_join (a1 : Int32) (σ : St) : St := if a1 = (-1) then (f_Ro_join_17 σ) else (if (σ.1 25 1) < 68 then (f_Ro_join_20 1000 a1 0 σ) else (f_Ro_join_17 σ))
def k_Ro_join (a1 : Int32) (σ : St) : Prop := (a1 = (-1) → (k_Ro_join_17 σ)) ∧ (¬ a1 = (-1) → (((σ.1 25 1) < 68 → (k_Ro_join_20 1000 a1 0 σ)) ∧ (¬ (σ.1 25 1) < 68 → (k_Ro_join_17 σ))))
abbrev w_Ro_join : List Cond := Cond.code y_Ro_join b_Ro_join 3 none :: gw
abbrev rm_Ro_join : Room := { frames := 0, cells := 0, slots := 0, locals := 0 }
set_option maxHeartbeats 4000000 in
set_option maxRecDepth 100000 in
theorem c_Ro_join (l : Launch) (D : va_G) (ty : Nat → ClassId) (h : Nat → Nat) (px : va_W) (σ : St) (sz : Nat) (a1 : Int32) (hk : k_Ro_join a1 σ) : Met l y_Ro_join w_Ro_join rm_Ro_join (va_Pc [.ref (h 25), .int a1] (fun U => U.heap.size = sz ∧ va_P D classes (Wc ty h σ px) U.heap ∧ va_K D classes (Ta ty) U ∧ va_D (fun _ => True) (Wc ty h σ px))) (va_Qv (fun u : St => u = f_Ro_join a1 σ) (fun u t => va_P D classes (Wc ty h u px) t.heap) (va_A (Wc ty h σ px) sz)) 0 0 (va_A (Wc ty h σ px) sz) := by
  refine Met.ofW (cc := b_Ro_join) (maxL := 3) (ret := none) (by decide) rfl ?_
  intro p e s m args below meth c s₁ B hml hv
  obtain ⟨ha, hsz, hP, hK, hD0⟩ := hv
  have hx := B.exec
  have hb := B.bytes
  have hr := B.returns
  have hg : ∀ w ∈ gw, w.before args s = true := fun w h9 => atoms_spec (ws := w_Ro_join) B.pre w (List.mem_cons_of_mem _ h9)
  have hown : s.vm.findClass "ClauseLedger$Row" = some m.cls := findClass_of_methodNamed B.named
  have hlocks := B.notSynchronized
  subst hsz
  have hD := hD0.self (sz := s.heap.size)
  generalize hAe : va_A (Wc ty h σ px) s.heap.size = A at hD ⊢
  have hA : ∀ q : Nat, s.heap.size ≤ q → A q := fun q h9 => by rw [← hAe]; exact Or.inr h9
  have hS : va_S A s.heap s.heap [] := va_S.rf
  have he : entryFrame m args 3 = entryFrame m ([.ref (h 25), .int a1] : List Value).toArray 3 := by rw [ha]
  rw [he, lg_entry_eq]
  have hl := lv_entry ([.ref (h 25), .int a1]) (n := 3) (Nat.le_of_ble_eq_true rfl)
  generalize (lg_sl ([.ref (h 25), .int a1]) ++ List.replicate (3 - (lg_sl ([.ref (h 25), .int a1])).length) Slot.unset).toArray = ls at hl ⊢
  have hl : lv_has ls 3 [(0, .ref (h 25)), (1, .int a1)] := hl
  generalize hv : f_Ro_join a1 σ = v
  replace hv := hv.symm
  have B17 : ∀ (H : Heap) (locs : List Loc) (ls : Array Slot) (σ : St), v = f_Ro_join_17 σ → k_Ro_join_17 σ → lv_has ls 3 [] → va_P D classes (Wc ty h σ px) H → va_D A (Wc ty h σ px) → va_S A s.heap H locs → W p l e (headSpec w_Ro_join rm_Ro_join).room s m args below meth c H locs 0 0 (MQ below (va_Qv (fun u : St => u = v) (fun u t => va_P D classes (Wc ty h u px) t.heap) A) args s 0 0 A) (F0 m 17 ls []) := by
    intro H locs ls σ hv hk hl hP hD hS
    unfold f_Ro_join_17 at hv
    unfold k_Ro_join_17 at hk
    exact W.vret hx hb hr (fun t ht hW => ⟨⟨_, rfl, hv.symm, by dsimp only; rw [ht]; exact hP⟩, hS.F ht⟩) hS.2.2 d_Ro_join_17
  have B65 : ∀ (H : Heap) (locs : List Loc) (ls : Array Slot) (σ : St), v = f_Ro_join_65 σ → k_Ro_join_65 σ → lv_has ls 3 [] → va_P D classes (Wc ty h σ px) H → va_D A (Wc ty h σ px) → va_S A s.heap H locs → W p l e (headSpec w_Ro_join rm_Ro_join).room s m args below meth c H locs 0 0 (MQ below (va_Qv (fun u : St => u = v) (fun u t => va_P D classes (Wc ty h u px) t.heap) A) args s 0 0 A) (F0 m 65 ls []) := by
    intro H locs ls σ hv hk hl hP hD hS
    unfold f_Ro_join_65 at hv
    unfold k_Ro_join_65 at hk
    exact W.vret hx hb hr (fun t ht hW => ⟨⟨_, rfl, hv.symm, by dsimp only; rw [ht]; exact hP⟩, hS.F ht⟩) hS.2.2 d_Ro_join_65
  have B55 : ∀ (H : Heap) (locs : List Loc) (ls : Array Slot) (σ : St), v = f_Ro_join_55 σ → k_Ro_join_55 σ → lv_has ls 3 [(0, .ref (h 25))] → va_P D classes (Wc ty h σ px) H → va_D A (Wc ty h σ px) → va_S A s.heap H locs → W p l e (headSpec w_Ro_join rm_Ro_join).room s m args below meth c H locs 0 0 (MQ below (va_Qv (fun u : St => u = v) (fun u t => va_P D classes (Wc ty h u px) t.heap) A) args s 0 0 A) (F0 m 55 ls []) := by
    intro H locs ls σ hv hk hl hP hD hS
    unfold f_Ro_join_55 at hv
    unfold k_Ro_join_55 at hk
    refine lv_aload_n hx hb d_Ro_join_55 rfl (lv_at hl 0 rfl) ?_
    refine lv_dup hx hb d_Ro_join_56 rfl ?_
    refine va_get (v := .int (σ.1 25 1)) (C := R_Ro) (T := T_Ro) (N := 2) hx hb hg in_Ro hown hK hP 25 rfl rfl 1 (by decide) (hg _ m_233) (fun _ h9 => h9) rfl d_Ro_join_57 ?_
    refine lv_iconst (v := 1) hx hb d_Ro_join_60 (by decide) ?_
    refine lv_iadd hx hb d_Ro_join_61 ?_
    refine va_put (v := .int ((σ.1 25 1) + 1)) (ty := .int) (C := R_Ro) (T := T_Ro) (N := 2) hx hb hg in_Ro ty_Ro ok_Ro nm_Ro hown hK hP hD hS 25 rfl rfl 1 (by decide) (hg _ m_233) (fun _ h9 => h9) rfl (by decide +kernel) rfl rfl (Nat.le_of_ble_eq_true rfl) d_Ro_join_62 (fun H locs hP hD hS => ?_)
    have hP : va_P D classes (Wc ty h (sF σ 25 1 ((σ.1 25 1) + 1)) px) H := hP
    have hD : va_D A (Wc ty h (sF σ 25 1 ((σ.1 25 1) + 1)) px) := hD
    exact B65 _ _ _  (sF σ 25 1 ((σ.1 25 1) + 1)) hv hk (lv_sub hl [] rfl) hP hD hS
  have B20 : ∀ (n20 : Nat) (H : Heap) (locs : List Loc) (ls : Array Slot) (x1 : Int32) (x2 : Int32) (σ : St), v = f_Ro_join_20 n20 x1 x2 σ → k_Ro_join_20 n20 x1 x2 σ → lv_has ls 3 [(0, .ref (h 25)), (1, .int x1), (2, .int x2)] → va_P D classes (Wc ty h σ px) H → va_D A (Wc ty h σ px) → va_S A s.heap H locs → W p l e (headSpec w_Ro_join rm_Ro_join).room s m args below meth c H locs 0 0 (MQ below (va_Qv (fun u : St => u = v) (fun u t => va_P D classes (Wc ty h u px) t.heap) A) args s 0 0 A) (F0 m 20 ls []) := by
    intro n20
    induction n20 with
    | zero => intro H locs ls x1 x2 σ hv hk hl hP hD hS; exact hk.elim
    | succ n20 ih20 =>
      intro H locs ls x1 x2 σ hv hk hl hP hD hS
      rw [f_Ro_join_20] at hv
      rw [k_Ro_join_20] at hk
      refine lv_iload_n hx hb d_Ro_join_20 rfl (lv_at hl 2 rfl) ?_
      refine lv_aload_n hx hb d_Ro_join_21 rfl (lv_at hl 0 rfl) ?_
      refine va_get (v := .int (σ.1 25 1)) (C := R_Ro) (T := T_Ro) (N := 2) hx hb hg in_Ro hown hK hP 25 rfl rfl 1 (by decide) (hg _ m_233) (fun _ h9 => h9) rfl d_Ro_join_22 ?_
      refine lv_icmp_ge (tgt := 45) hx hb d_Ro_join_25 (by decide) (fun hc => ?_) (fun hc => ?_)
      · have hv := hv.trans (if_pos hc)
        have hk := hk.1 hc
        refine lv_aload_n hx hb d_Ro_join_45 rfl (lv_at hl 0 rfl) ?_
        refine va_get (v := .ref (h 26)) (C := R_Ro) (T := T_Ro) (N := 2) hx hb hg in_Ro hown hK hP 25 rfl rfl 0 (by decide) (hg _ m_232) (fun _ h9 => h9) rfl d_Ro_join_46 ?_
        refine lv_aload_n hx hb d_Ro_join_49 rfl (lv_at hl 0 rfl) ?_
        refine va_get (v := .int (σ.1 25 1)) (C := R_Ro) (T := T_Ro) (N := 2) hx hb hg in_Ro hown hK hP 25 rfl rfl 1 (by decide) (hg _ m_233) (fun _ h9 => h9) rfl d_Ro_join_50 ?_
        refine lv_iload_n hx hb d_Ro_join_53 rfl (lv_at hl 1 rfl) ?_
        obtain ⟨hk0, hk⟩ := hk
        refine va_iast hx hb hK hP hD hS 26 0 rfl rfl hk0 d_Ro_join_54 (fun H locs hP hD hS => ?_)
        have hP : va_P D classes (Wc ty h (sA σ 26 (σ.1 25 1) x1) px) H := hP
        have hD : va_D A (Wc ty h (sA σ 26 (σ.1 25 1) x1) px) := hD
        exact B55 _ _ _  (sA σ 26 (σ.1 25 1) x1) hv hk (lv_sub hl [0] rfl) hP hD hS
      · have hv := hv.trans (if_neg hc)
        have hk := hk.2 hc
        refine lv_aload_n hx hb d_Ro_join_28 rfl (lv_at hl 0 rfl) ?_
        refine va_get (v := .ref (h 26)) (C := R_Ro) (T := T_Ro) (N := 2) hx hb hg in_Ro hown hK hP 25 rfl rfl 0 (by decide) (hg _ m_232) (fun _ h9 => h9) rfl d_Ro_join_29 ?_
        refine lv_iload_n hx hb d_Ro_join_32 rfl (lv_at hl 2 rfl) ?_
        obtain ⟨hk0, hk⟩ := hk
        refine va_iald hx hb hK hP 26 0 rfl rfl hk0 d_Ro_join_33 ?_
        refine lv_iload_n hx hb d_Ro_join_34 rfl (lv_at hl 1 rfl) ?_
        refine lv_icmp_ne (tgt := 39) hx hb d_Ro_join_35 (by decide) (fun hc => ?_) (fun hc => ?_)
        · have hv := hv.trans (if_neg hc)
          have hk := hk.2 hc
          refine lv_iinc (k := 2) (v := x2 + 1) (lv' := [(2, .int (x2 + 1)), (0, .ref (h 25)), (1, .int x1)]) hx hb d_Ro_join_39 hl rfl (by first | rfl | simp [lit1, litm1]) (by decide) rfl (fun ls hl => ?_)
          refine lv_goto (tgt := 20) hx hb d_Ro_join_42 (by decide) ?_
          exact ih20 _ _ _ x1 (x2 + 1) σ hv hk (lv_sub hl [1, 2, 0] rfl) hP hD hS
        · have hv := hv.trans (if_pos hc)
          have hk := hk.1 hc
          exact W.vret hx hb hr (fun t ht hW => ⟨⟨_, rfl, hv.symm, by dsimp only; rw [ht]; exact hP⟩, hS.F ht⟩) hS.2.2 d_Ro_join_38
  unfold f_Ro_join at hv
  unfold k_Ro_join at hk
  refine lv_iload_n hx hb d_Ro_join_0 rfl (lv_at hl 1 rfl) ?_
  refine lv_iconst (v := -1) hx hb d_Ro_join_1 (by decide) ?_
  refine lv_icmp_eq (tgt := 17) hx hb d_Ro_join_2 (by decide) (fun hc => ?_) (fun hc => ?_)
  · have hv := hv.trans (if_pos hc)
    have hk := hk.1 hc
    exact B17 _ _ _  σ hv hk (lv_sub hl [] rfl) hP hD hS
  · have hv := hv.trans (if_neg hc)
    have hk := hk.2 hc
    refine lv_aload_n hx hb d_Ro_join_5 rfl (lv_at hl 0 rfl) ?_
    refine va_get (v := .int (σ.1 25 1)) (C := R_Ro) (T := T_Ro) (N := 2) hx hb hg in_Ro hown hK hP 25 rfl rfl 1 (by decide) (hg _ m_233) (fun _ h9 => h9) rfl d_Ro_join_6 ?_
    refine lv_aload_n hx hb d_Ro_join_9 rfl (lv_at hl 0 rfl) ?_
    refine va_get (v := .ref (h 26)) (C := R_Ro) (T := T_Ro) (N := 2) hx hb hg in_Ro hown hK hP 25 rfl rfl 0 (by decide) (hg _ m_232) (fun _ h9 => h9) rfl d_Ro_join_10 ?_
    refine va_alen (v := 68) hx hb hK hP 26 0 rfl rfl rfl d_Ro_join_13 ?_
    refine lv_icmp_lt (tgt := 18) hx hb d_Ro_join_14 (by decide) (fun hc => ?_) (fun hc => ?_)
    · have hv := hv.trans (if_pos hc)
      have hk := hk.1 hc
      refine lv_iconst (v := 0) hx hb d_Ro_join_18 (by decide) ?_
      refine lv_istore_n (lv' := [(2, .int 0), (0, .ref (h 25)), (1, .int a1)]) hx hb d_Ro_join_19 rfl hl (by decide) rfl (fun ls hl => ?_)
      exact B20 1000 _ _ _ a1 0 σ hv hk (lv_sub hl [1, 2, 0] rfl) hP hD hS
    · have hv := hv.trans (if_neg hc)
      have hk := hk.2 hc
      exact B17 _ _ _  σ hv hk (lv_sub hl [] rfl) hP hD hS

