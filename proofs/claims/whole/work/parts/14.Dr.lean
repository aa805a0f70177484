-- ClauseLedger$Draft.size()I
abbrev b_Dr_size : ByteArray := prog_3_method_2_code
def y_Dr_size : MethodName := ⟨"ClauseLedger$Draft", "size", "()I"⟩
theorem hd_Dr_size : y_Dr_size.cls ≠ "java/lang/invoke/MethodHandle" ∧ y_Dr_size.cls ≠ "java/lang/invoke/VarHandle" ∧ (parseMethodDescriptor y_Dr_size.desc).map (fun d => d.parameters.length) = some 0 := by decide +kernel
theorem d_Dr_size_0 : decode b_Dr_size 0 = .ok (.aload_n 0, 1) := by decide +kernel
theorem d_Dr_size_1 : decode b_Dr_size 1 = .ok (.getfield 13, 3) := by decide +kernel
theorem d_Dr_size_4 : decode b_Dr_size 4 = .ok (.ireturn, 1) := by decide +kernel
def f_Dr_size (σ : St) : Int32 := σ.1 18 1
def k_Dr_size (σ : St) : Prop := True
abbrev w_Dr_size : List Cond := Cond.code y_Dr_size b_Dr_size 1 (some .int) :: gw
abbrev rm_Dr_size : Room := { frames := 0, cells := 0, slots := 0, locals := 0 }
set_option maxHeartbeats 4000000 in
set_option maxRecDepth 100000 in
theorem c_Dr_size (l : Launch) (D : va_G) (ty : Nat → ClassId) (h : Nat → Nat) (px : va_W) (σ : St) (hk : k_Dr_size σ) : Met l y_Dr_size w_Dr_size rm_Dr_size (va_Pc [.ref (h 18)] (fun U => va_P D classes (Wc ty h σ px) U.heap ∧ va_K D classes (Ta ty) U)) (k2_QcV (.int (f_Dr_size σ))) 0 0 (fun _ => False) := by
  refine Met.ofW (cc := b_Dr_size) (maxL := 1) (ret := (some .int)) (by decide) rfl ?_
  intro p e s m args below meth c s₁ B hml hv
  obtain ⟨ha, hP, hK⟩ := hv
  have hx := B.exec
  have hb := B.bytes
  have hr := B.returns
  have hg : ∀ w ∈ gw, w.before args s = true := fun w h9 => atoms_spec (ws := w_Dr_size) B.pre w (List.mem_cons_of_mem _ h9)
  have hown : s.vm.findClass "ClauseLedger$Draft" = some m.cls := findClass_of_methodNamed B.named
  have hlocks := B.notSynchronized
  have he : entryFrame m args 1 = entryFrame m ([.ref (h 18)] : List Value).toArray 1 := by rw [ha]
  rw [he, lg_entry_eq]
  have hl := lv_entry ([.ref (h 18)]) (n := 1) (Nat.le_of_ble_eq_true rfl)
  generalize (lg_sl ([.ref (h 18)]) ++ List.replicate (1 - (lg_sl ([.ref (h 18)])).length) Slot.unset).toArray = ls at hl ⊢
  have hl : lv_has ls 1 [(0, .ref (h 18))] := hl
  generalize hv : f_Dr_size σ = v
  replace hv := hv.symm
  unfold f_Dr_size at hv
  unfold k_Dr_size at hk
  refine lv_aload_n hx hb d_Dr_size_0 rfl (lv_at hl 0 rfl) ?_
  refine va_get (v := .int (σ.1 18 1)) (C := R_Dr) (T := T_Dr) (N := 2) hx hb hg in_Dr hown hK hP 18 rfl rfl 1 (by decide) (hg _ m_120) (fun _ h9 => h9) rfl d_Dr_size_1 ?_
  exact W.iret hx hb hr (fun t ht hW => ⟨by rw [hv], ht⟩) (fun q h => nomatch h) d_Dr_size_4

-- ClauseLedger$Draft.wipe()V
abbrev b_Dr_wipe : ByteArray := prog_3_method_3_code
def y_Dr_wipe : MethodName := ⟨"ClauseLedger$Draft", "wipe", "()V"⟩
theorem hd_Dr_wipe : y_Dr_wipe.cls ≠ "java/lang/invoke/MethodHandle" ∧ y_Dr_wipe.cls ≠ "java/lang/invoke/VarHandle" ∧ (parseMethodDescriptor y_Dr_wipe.desc).map (fun d => d.parameters.length) = some 0 := by decide +kernel
theorem d_Dr_wipe_0 : decode b_Dr_wipe 0 = .ok (.aload_n 0, 1) := by decide +kernel
theorem d_Dr_wipe_1 : decode b_Dr_wipe 1 = .ok (.iconst 0, 1) := by decide +kernel
theorem d_Dr_wipe_2 : decode b_Dr_wipe 2 = .ok (.putfield 13, 3) := by decide +kernel
theorem d_Dr_wipe_5 : decode b_Dr_wipe 5 = .ok (.return_, 1) := by decide +kernel
def f_Dr_wipe_5 (σ : St) : St := σ
def k_Dr_wipe_5 (σ : St) : Prop := True
def f_Dr_wipe (σ : St) : St := f_Dr_wipe_5 (sF σ 18 1 0)
def k_Dr_wipe (σ : St) : Prop := k_Dr_wipe_5 (sF σ 18 1 0)
abbrev w_Dr_wipe : List Cond := Cond.code y_Dr_wipe b_Dr_wipe 1 none :: gw
abbrev rm_Dr_wipe : Room := { frames := 0, cells := 0, slots := 0, locals := 0 }
set_option maxHeartbeats 4000000 in
set_option maxRecDepth 100000 in
theorem c_Dr_wipe (l : Launch) (D : va_G) (ty : Nat → ClassId) (h : Nat → Nat) (px : va_W) (σ : St) (sz : Nat) (hk : k_Dr_wipe σ) : Met l y_Dr_wipe w_Dr_wipe rm_Dr_wipe (va_Pc [.ref (h 18)] (fun U => U.heap.size = sz ∧ va_P D classes (Wc ty h σ px) U.heap ∧ va_K D classes (Ta ty) U ∧ va_D (fun _ => True) (Wc ty h σ px))) (va_Qv (fun u : St => u = f_Dr_wipe σ) (fun u t => va_P D classes (Wc ty h u px) t.heap) (va_A (Wc ty h σ px) sz)) 0 0 (va_A (Wc ty h σ px) sz) := by
  refine Met.ofW (cc := b_Dr_wipe) (maxL := 1) (ret := none) (by decide) rfl ?_
  intro p e s m args below meth c s₁ B hml hv
  obtain ⟨ha, hsz, hP, hK, hD0⟩ := hv
  have hx := B.exec
  have hb := B.bytes
  have hr := B.returns
  have hg : ∀ w ∈ gw, w.before args s = true := fun w h9 => atoms_spec (ws := w_Dr_wipe) B.pre w (List.mem_cons_of_mem _ h9)
  have hown : s.vm.findClass "ClauseLedger$Draft" = some m.cls := findClass_of_methodNamed B.named
  have hlocks := B.notSynchronized
  subst hsz
  have hD := hD0.self (sz := s.heap.size)
  generalize hAe : va_A (Wc ty h σ px) s.heap.size = A at hD ⊢
  have hA : ∀ q : Nat, s.heap.size ≤ q → A q := fun q h9 => by rw [← hAe]; exact Or.inr h9
  have hS : va_S A s.heap s.heap [] := va_S.rf
  have he : entryFrame m args 1 = entryFrame m ([.ref (h 18)] : List Value).toArray 1 := by rw [ha]
  rw [he, lg_entry_eq]
  have hl := lv_entry ([.ref (h 18)]) (n := 1) (Nat.le_of_ble_eq_true rfl)
  generalize (lg_sl ([.ref (h 18)]) ++ List.replicate (1 - (lg_sl ([.ref (h 18)])).length) Slot.unset).toArray = ls at hl ⊢
  have hl : lv_has ls 1 [(0, .ref (h 18))] := hl
  generalize hv : f_Dr_wipe σ = v
  replace hv := hv.symm
  have B5 : ∀ (H : Heap) (locs : List Loc) (ls : Array Slot) (σ : St), v = f_Dr_wipe_5 σ → k_Dr_wipe_5 σ → lv_has ls 1 [] → va_P D classes (Wc ty h σ px) H → va_D A (Wc ty h σ px) → va_S A s.heap H locs → W p l e (headSpec w_Dr_wipe rm_Dr_wipe).room s m args below meth c H locs 0 0 (MQ below (va_Qv (fun u : St => u = v) (fun u t => va_P D classes (Wc ty h u px) t.heap) A) args s 0 0 A) (F0 m 5 ls []) := by
    intro H locs ls σ hv hk hl hP hD hS
    unfold f_Dr_wipe_5 at hv
    unfold k_Dr_wipe_5 at hk
    exact W.vret hx hb hr (fun t ht hW => ⟨⟨_, rfl, hv.symm, by dsimp only; rw [ht]; exact hP⟩, hS.F ht⟩) hS.2.2 d_Dr_wipe_5
  unfold f_Dr_wipe at hv
  unfold k_Dr_wipe at hk
  refine lv_aload_n hx hb d_Dr_wipe_0 rfl (lv_at hl 0 rfl) ?_
  refine lv_iconst (v := 0) hx hb d_Dr_wipe_1 (by decide) ?_
  refine va_put (v := .int 0) (ty := .int) (C := R_Dr) (T := T_Dr) (N := 2) hx hb hg in_Dr ty_Dr ok_Dr nm_Dr hown hK hP hD hS 18 rfl rfl 1 (by decide) (hg _ m_120) (fun _ h9 => h9) rfl (by decide +kernel) rfl rfl (Nat.le_of_ble_eq_true rfl) d_Dr_wipe_2 (fun H locs hP hD hS => ?_)
  have hP : va_P D classes (Wc ty h (sF σ 18 1 0) px) H := hP
  have hD : va_D A (Wc ty h (sF σ 18 1 0) px) := hD
  exact B5 _ _ _  (sF σ 18 1 0) hv hk (lv_sub hl [] rfl) hP hD hS

-- ClauseLedger$Draft.letter(I)C
abbrev b_Dr_letter : ByteArray := prog_3_method_4_code
def y_Dr_letter : MethodName := ⟨"ClauseLedger$Draft", "letter", "(I)C"⟩
theorem hd_Dr_letter : y_Dr_letter.cls ≠ "java/lang/invoke/MethodHandle" ∧ y_Dr_letter.cls ≠ "java/lang/invoke/VarHandle" ∧ (parseMethodDescriptor y_Dr_letter.desc).map (fun d => d.parameters.length) = some 1 := by decide +kernel
theorem d_Dr_letter_0 : decode b_Dr_letter 0 = .ok (.iload_n 1, 1) := by decide +kernel
theorem d_Dr_letter_1 : decode b_Dr_letter 1 = .ok (.ifCond .lt 20, 3) := by decide +kernel
theorem d_Dr_letter_4 : decode b_Dr_letter 4 = .ok (.iload_n 1, 1) := by decide +kernel
theorem d_Dr_letter_5 : decode b_Dr_letter 5 = .ok (.aload_n 0, 1) := by decide +kernel
theorem d_Dr_letter_6 : decode b_Dr_letter 6 = .ok (.getfield 13, 3) := by decide +kernel
theorem d_Dr_letter_9 : decode b_Dr_letter 9 = .ok (.if_icmp .ge 12, 3) := by decide +kernel
theorem d_Dr_letter_12 : decode b_Dr_letter 12 = .ok (.aload_n 0, 1) := by decide +kernel
theorem d_Dr_letter_13 : decode b_Dr_letter 13 = .ok (.getfield 9, 3) := by decide +kernel
theorem d_Dr_letter_16 : decode b_Dr_letter 16 = .ok (.iload_n 1, 1) := by decide +kernel
theorem d_Dr_letter_17 : decode b_Dr_letter 17 = .ok (.caload, 1) := by decide +kernel
theorem d_Dr_letter_18 : decode b_Dr_letter 18 = .ok (.goto 4, 3) := by decide +kernel
theorem d_Dr_letter_21 : decode b_Dr_letter 21 = .ok (.iconst 0, 1) := by decide +kernel
theorem d_Dr_letter_22 : decode b_Dr_letter 22 = .ok (.ireturn, 1) := by decide +kernel
def f_Dr_letter_22 (s0 : Int32) (σ : St) : Int32 := s0
def k_Dr_letter_22 (s0 : Int32) (σ : St) : Prop := (narrow .char (.int s0) = .int s0) ∧ True
def f_Dr_letter_21 (σ : St) : Int32 := f_Dr_letter_22 0 σ
def k_Dr_letter_21 (σ : St) : Prop := k_Dr_letter_22 0 σ
def f_Dr_letter (a1 : Int32) (σ : St) : Int32 := if a1 < 0 then (f_Dr_letter_21 σ) else (if (σ.1 18 1) ≤ a1 then (f_Dr_letter_21 σ) else (f_Dr_letter_22 (σ.1 19 a1.toNatClampNeg) σ))
def k_Dr_letter (a1 : Int32) (σ : St) : Prop := (a1 < 0 → (k_Dr_letter_21 σ)) ∧ (¬ a1 < 0 → (((σ.1 18 1) ≤ a1 → (k_Dr_letter_21 σ)) ∧ (¬ (σ.1 18 1) ≤ a1 → (vp_in a1 120 ∧ (k_Dr_letter_22 (σ.1 19 a1.toNatClampNeg) σ)))))
abbrev w_Dr_letter : List Cond := Cond.code y_Dr_letter b_Dr_letter 2 (some .char) :: gw
abbrev rm_Dr_letter : Room := { frames := 0, cells := 0, slots := 0, locals := 0 }
set_option maxHeartbeats 4000000 in
set_option maxRecDepth 100000 in
theorem c_Dr_letter (l : Launch) (D : va_G) (ty : Nat → ClassId) (h : Nat → Nat) (px : va_W) (σ : St) (a1 : Int32) (hk : k_Dr_letter a1 σ) : Met l y_Dr_letter w_Dr_letter rm_Dr_letter (va_Pc [.ref (h 18), .int a1] (fun U => va_P D classes (Wc ty h σ px) U.heap ∧ va_K D classes (Ta ty) U)) (k2_QcV (.int (f_Dr_letter a1 σ))) 0 0 (fun _ => False) := by
  refine Met.ofW (cc := b_Dr_letter) (maxL := 2) (ret := (some .char)) (by decide) rfl ?_
  intro p e s m args below meth c s₁ B hml hv
  obtain ⟨ha, hP, hK⟩ := hv
  have hx := B.exec
  have hb := B.bytes
  have hr := B.returns
  have hg : ∀ w ∈ gw, w.before args s = true := fun w h9 => atoms_spec (ws := w_Dr_letter) B.pre w (List.mem_cons_of_mem _ h9)
  have hown : s.vm.findClass "ClauseLedger$Draft" = some m.cls := findClass_of_methodNamed B.named
  have hlocks := B.notSynchronized
  have he : entryFrame m args 2 = entryFrame m ([.ref (h 18), .int a1] : List Value).toArray 2 := by rw [ha]
  rw [he, lg_entry_eq]
  have hl := lv_entry ([.ref (h 18), .int a1]) (n := 2) (Nat.le_of_ble_eq_true rfl)
  generalize (lg_sl ([.ref (h 18), .int a1]) ++ List.replicate (2 - (lg_sl ([.ref (h 18), .int a1])).length) Slot.unset).toArray = ls at hl ⊢
  have hl : lv_has ls 2 [(0, .ref (h 18)), (1, .int a1)] := hl
  generalize hv : f_Dr_letter a1 σ = v
  replace hv := hv.symm
  have B22 : ∀ (ls : Array Slot) (s0 : Int32), v = f_Dr_letter_22 s0 σ → k_Dr_letter_22 s0 σ → lv_has ls 2 [] → W p l e (headSpec w_Dr_letter rm_Dr_letter).room s m args below meth c s.heap [] 0 0 (MQ below (k2_QcV (.int v)) args s 0 0 (fun _ => False)) (F0 m 22 ls [.int s0]) := by
    intro ls s0 hv hk hl
    unfold f_Dr_letter_22 at hv
    unfold k_Dr_letter_22 at hk
    obtain ⟨hk0, hk⟩ := hk
    exact W.zret hx hb hr hk0 (fun t ht hW => ⟨by rw [hv], ht⟩) (fun q h => nomatch h) d_Dr_letter_22
  have B21 : ∀ (ls : Array Slot), v = f_Dr_letter_21 σ → k_Dr_letter_21 σ → lv_has ls 2 [] → W p l e (headSpec w_Dr_letter rm_Dr_letter).room s m args below meth c s.heap [] 0 0 (MQ below (k2_QcV (.int v)) args s 0 0 (fun _ => False)) (F0 m 21 ls []) := by
    intro ls hv hk hl
    unfold f_Dr_letter_21 at hv
    unfold k_Dr_letter_21 at hk
    refine lv_iconst (v := 0) hx hb d_Dr_letter_21 (by decide) ?_
    exact B22 _ 0 hv hk (lv_sub hl [] rfl)
  unfold f_Dr_letter at hv
  unfold k_Dr_letter at hk
  refine lv_iload_n hx hb d_Dr_letter_0 rfl (lv_at hl 1 rfl) ?_
  refine lv_if_lt (tgt := 21) hx hb d_Dr_letter_1 (by decide) (fun hc => ?_) (fun hc => ?_)
  · have hv := hv.trans (if_pos hc)
    have hk := hk.1 hc
    exact B21 _  hv hk (lv_sub hl [] rfl)
  · have hv := hv.trans (if_neg hc)
    have hk := hk.2 hc
    refine lv_iload_n hx hb d_Dr_letter_4 rfl (lv_at hl 1 rfl) ?_
    refine lv_aload_n hx hb d_Dr_letter_5 rfl (lv_at hl 0 rfl) ?_
    refine va_get (v := .int (σ.1 18 1)) (C := R_Dr) (T := T_Dr) (N := 2) hx hb hg in_Dr hown hK hP 18 rfl rfl 1 (by decide) (hg _ m_120) (fun _ h9 => h9) rfl d_Dr_letter_6 ?_
    refine lv_icmp_ge (tgt := 21) hx hb d_Dr_letter_9 (by decide) (fun hc => ?_) (fun hc => ?_)
    · have hv := hv.trans (if_pos hc)
      have hk := hk.1 hc
      exact B21 _  hv hk (lv_sub hl [] rfl)
    · have hv := hv.trans (if_neg hc)
      have hk := hk.2 hc
      refine lv_aload_n hx hb d_Dr_letter_12 rfl (lv_at hl 0 rfl) ?_
      refine va_get (v := .ref (h 19)) (C := R_Dr) (T := T_Dr) (N := 2) hx hb hg in_Dr hown hK hP 18 rfl rfl 0 (by decide) (hg _ m_119) (fun _ h9 => h9) rfl d_Dr_letter_13 ?_
      refine lv_iload_n hx hb d_Dr_letter_16 rfl (lv_at hl 1 rfl) ?_
      obtain ⟨hk0, hk⟩ := hk
      refine va_cald hx hb hK hP 19 2 rfl rfl hk0 d_Dr_letter_17 ?_
      refine lv_goto (tgt := 22) hx hb d_Dr_letter_18 (by decide) ?_
      exact B22 _ (σ.1 19 a1.toNatClampNeg) hv hk (lv_sub hl [] rfl)

-- ClauseLedger$Draft.byteOf(JI)I
abbrev b_Dr_byteOf : ByteArray := prog_3_method_6_code
def y_Dr_byteOf : MethodName := ⟨"ClauseLedger$Draft", "byteOf", "(JI)I"⟩
theorem hd_Dr_byteOf : y_Dr_byteOf.cls ≠ "java/lang/invoke/MethodHandle" ∧ y_Dr_byteOf.cls ≠ "java/lang/invoke/VarHandle" ∧ (parseMethodDescriptor y_Dr_byteOf.desc).map (fun d => d.parameters.length) = some 2 := by decide +kernel
theorem d_Dr_byteOf_0 : decode b_Dr_byteOf 0 = .ok (.lload_n 0, 1) := by decide +kernel
theorem d_Dr_byteOf_1 : decode b_Dr_byteOf 1 = .ok (.bipush 8, 2) := by decide +kernel
theorem d_Dr_byteOf_3 : decode b_Dr_byteOf 3 = .ok (.iload_n 2, 1) := by decide +kernel
theorem d_Dr_byteOf_4 : decode b_Dr_byteOf 4 = .ok (.imul, 1) := by decide +kernel
theorem d_Dr_byteOf_5 : decode b_Dr_byteOf 5 = .ok (.lushr, 1) := by decide +kernel
theorem d_Dr_byteOf_6 : decode b_Dr_byteOf 6 = .ok (.l2i, 1) := by decide +kernel
theorem d_Dr_byteOf_7 : decode b_Dr_byteOf 7 = .ok (.sipush 255, 3) := by decide +kernel
theorem d_Dr_byteOf_10 : decode b_Dr_byteOf 10 = .ok (.iand, 1) := by decide +kernel
theorem d_Dr_byteOf_11 : decode b_Dr_byteOf 11 = .ok (.ireturn, 1) := by decide +kernel
def f_Dr_byteOf (a0 : Int64) (a2 : Int32) (σ : St) : Int32 := (((a0.toUInt64 >>> ((8 * a2).toInt64.toUInt64 &&& Int64.toUInt64 63)).toInt64).toInt32) &&& 255
def k_Dr_byteOf (a0 : Int64) (a2 : Int32) (σ : St) : Prop := True
abbrev w_Dr_byteOf : List Cond := Cond.code y_Dr_byteOf b_Dr_byteOf 3 (some .int) :: gw
abbrev rm_Dr_byteOf : Room := { frames := 0, cells := 0, slots := 0, locals := 0 }
set_option maxHeartbeats 4000000 in
set_option maxRecDepth 100000 in
theorem c_Dr_byteOf (l : Launch) (D : va_G) (ty : Nat → ClassId) (h : Nat → Nat) (px : va_W) (σ : St) (a0 : Int64) (a2 : Int32) (hk : k_Dr_byteOf a0 a2 σ) : Met l y_Dr_byteOf w_Dr_byteOf rm_Dr_byteOf (va_Pc [.long a0, .int a2] (fun U => va_P D classes (Wc ty h σ px) U.heap ∧ va_K D classes (Ta ty) U)) (k2_QcV (.int (f_Dr_byteOf a0 a2 σ))) 0 0 (fun _ => False) := by
  refine Met.ofW (cc := b_Dr_byteOf) (maxL := 3) (ret := (some .int)) (by decide) rfl ?_
  intro p e s m args below meth c s₁ B hml hv
  obtain ⟨ha, hP, hK⟩ := hv
  have hx := B.exec
  have hb := B.bytes
  have hr := B.returns
  have hg : ∀ w ∈ gw, w.before args s = true := fun w h9 => atoms_spec (ws := w_Dr_byteOf) B.pre w (List.mem_cons_of_mem _ h9)
  have hown : s.vm.findClass "ClauseLedger$Draft" = some m.cls := findClass_of_methodNamed B.named
  have hlocks := B.notSynchronized
  have he : entryFrame m args 3 = entryFrame m ([.long a0, .int a2] : List Value).toArray 3 := by rw [ha]
  rw [he, lg_entry_eq]
  have hl := lv_entry ([.long a0, .int a2]) (n := 3) (Nat.le_of_ble_eq_true rfl)
  generalize (lg_sl ([.long a0, .int a2]) ++ List.replicate (3 - (lg_sl ([.long a0, .int a2])).length) Slot.unset).toArray = ls at hl ⊢
  have hl : lv_has ls 3 [(0, .long a0), (2, .int a2)] := hl
  generalize hv : f_Dr_byteOf a0 a2 σ = v
  replace hv := hv.symm
  unfold f_Dr_byteOf at hv
  unfold k_Dr_byteOf at hk
  refine lv_lload_n hx hb d_Dr_byteOf_0 rfl (lv_at hl 0 rfl) ?_
  refine lv_bipush (v := 8) hx hb d_Dr_byteOf_1 (by decide) ?_
  refine lv_iload_n hx hb d_Dr_byteOf_3 rfl (lv_at hl 1 rfl) ?_
  refine lv_imul hx hb d_Dr_byteOf_4 ?_
  refine lv_lushr hx hb d_Dr_byteOf_5 rfl ?_
  refine lv_l2i hx hb d_Dr_byteOf_6 rfl ?_
  refine lv_sipush (v := 255) hx hb d_Dr_byteOf_7 (by decide) ?_
  refine lv_iand hx hb d_Dr_byteOf_10 ?_
  exact W.iret hx hb hr (fun t ht hW => ⟨by rw [hv], ht⟩) (fun q h => nomatch h) d_Dr_byteOf_11

-- ClauseLedger$Draft.append(J)Z
abbrev b_Dr_append : ByteArray := prog_3_method_5_code
def y_Dr_append : MethodName := ⟨"ClauseLedger$Draft", "append", "(J)Z"⟩
theorem hd_Dr_append : y_Dr_append.cls ≠ "java/lang/invoke/MethodHandle" ∧ y_Dr_append.cls ≠ "java/lang/invoke/VarHandle" ∧ (parseMethodDescriptor y_Dr_append.desc).map (fun d => d.parameters.length) = some 1 := by decide +kernel
theorem d_Dr_append_0 : decode b_Dr_append 0 = .ok (.iconst 0, 1) := by decide +kernel
theorem d_Dr_append_1 : decode b_Dr_append 1 = .ok (.istore_n 3, 1) := by decide +kernel
theorem d_Dr_append_2 : decode b_Dr_append 2 = .ok (.iconst 0, 1) := by decide +kernel
theorem d_Dr_append_3 : decode b_Dr_append 3 = .ok (.istore 4, 2) := by decide +kernel
theorem d_Dr_append_5 : decode b_Dr_append 5 = .ok (.iload 4, 2) := by decide +kernel
theorem d_Dr_append_7 : decode b_Dr_append 7 = .ok (.bipush 8, 2) := by decide +kernel
theorem d_Dr_append_9 : decode b_Dr_append 9 = .ok (.if_icmp .ge 45, 3) := by decide +kernel
theorem d_Dr_append_12 : decode b_Dr_append 12 = .ok (.lload_n 1, 1) := by decide +kernel
theorem d_Dr_append_13 : decode b_Dr_append 13 = .ok (.iload 4, 2) := by decide +kernel
theorem d_Dr_append_15 : decode b_Dr_append 15 = .ok (.invokestatic 17, 3) := by decide +kernel
theorem d_Dr_append_18 : decode b_Dr_append 18 = .ok (.ifCond .eq 36, 3) := by decide +kernel
theorem d_Dr_append_21 : decode b_Dr_append 21 = .ok (.lload_n 1, 1) := by decide +kernel
theorem d_Dr_append_22 : decode b_Dr_append 22 = .ok (.iload 4, 2) := by decide +kernel
theorem d_Dr_append_24 : decode b_Dr_append 24 = .ok (.invokestatic 17, 3) := by decide +kernel
theorem d_Dr_append_27 : decode b_Dr_append 27 = .ok (.bipush 32, 2) := by decide +kernel
theorem d_Dr_append_29 : decode b_Dr_append 29 = .ok (.if_icmp .lt 14, 3) := by decide +kernel
theorem d_Dr_append_32 : decode b_Dr_append 32 = .ok (.lload_n 1, 1) := by decide +kernel
theorem d_Dr_append_33 : decode b_Dr_append 33 = .ok (.iload 4, 2) := by decide +kernel
theorem d_Dr_append_35 : decode b_Dr_append 35 = .ok (.invokestatic 17, 3) := by decide +kernel
theorem d_Dr_append_38 : decode b_Dr_append 38 = .ok (.bipush 126, 2) := by decide +kernel
theorem d_Dr_append_40 : decode b_Dr_append 40 = .ok (.if_icmp .le 5, 3) := by decide +kernel
theorem d_Dr_append_43 : decode b_Dr_append 43 = .ok (.iconst 0, 1) := by decide +kernel
theorem d_Dr_append_44 : decode b_Dr_append 44 = .ok (.ireturn, 1) := by decide +kernel
theorem d_Dr_append_45 : decode b_Dr_append 45 = .ok (.iinc 3 1, 3) := by decide +kernel
theorem d_Dr_append_48 : decode b_Dr_append 48 = .ok (.iinc 4 1, 3) := by decide +kernel
theorem d_Dr_append_51 : decode b_Dr_append 51 = .ok (.goto (-46), 3) := by decide +kernel
theorem d_Dr_append_54 : decode b_Dr_append 54 = .ok (.iload_n 3, 1) := by decide +kernel
theorem d_Dr_append_55 : decode b_Dr_append 55 = .ok (.ifCond .eq 14, 3) := by decide +kernel
theorem d_Dr_append_58 : decode b_Dr_append 58 = .ok (.aload_n 0, 1) := by decide +kernel
theorem d_Dr_append_59 : decode b_Dr_append 59 = .ok (.getfield 13, 3) := by decide +kernel
theorem d_Dr_append_62 : decode b_Dr_append 62 = .ok (.iload_n 3, 1) := by decide +kernel
theorem d_Dr_append_63 : decode b_Dr_append 63 = .ok (.iadd, 1) := by decide +kernel
theorem d_Dr_append_64 : decode b_Dr_append 64 = .ok (.bipush 120, 2) := by decide +kernel
theorem d_Dr_append_66 : decode b_Dr_append 66 = .ok (.if_icmp .le 5, 3) := by decide +kernel
theorem d_Dr_append_69 : decode b_Dr_append 69 = .ok (.iconst 0, 1) := by decide +kernel
theorem d_Dr_append_70 : decode b_Dr_append 70 = .ok (.ireturn, 1) := by decide +kernel
theorem d_Dr_append_71 : decode b_Dr_append 71 = .ok (.iconst 0, 1) := by decide +kernel
theorem d_Dr_append_72 : decode b_Dr_append 72 = .ok (.istore 4, 2) := by decide +kernel
theorem d_Dr_append_74 : decode b_Dr_append 74 = .ok (.iload 4, 2) := by decide +kernel
theorem d_Dr_append_76 : decode b_Dr_append 76 = .ok (.iload_n 3, 1) := by decide +kernel
theorem d_Dr_append_77 : decode b_Dr_append 77 = .ok (.if_icmp .ge 28, 3) := by decide +kernel
theorem d_Dr_append_80 : decode b_Dr_append 80 = .ok (.aload_n 0, 1) := by decide +kernel
theorem d_Dr_append_81 : decode b_Dr_append 81 = .ok (.getfield 9, 3) := by decide +kernel
theorem d_Dr_append_84 : decode b_Dr_append 84 = .ok (.aload_n 0, 1) := by decide +kernel
theorem d_Dr_append_85 : decode b_Dr_append 85 = .ok (.getfield 13, 3) := by decide +kernel
theorem d_Dr_append_88 : decode b_Dr_append 88 = .ok (.iload 4, 2) := by decide +kernel
theorem d_Dr_append_90 : decode b_Dr_append 90 = .ok (.iadd, 1) := by decide +kernel
theorem d_Dr_append_91 : decode b_Dr_append 91 = .ok (.lload_n 1, 1) := by decide +kernel
theorem d_Dr_append_92 : decode b_Dr_append 92 = .ok (.iload 4, 2) := by decide +kernel
theorem d_Dr_append_94 : decode b_Dr_append 94 = .ok (.invokestatic 17, 3) := by decide +kernel
theorem d_Dr_append_97 : decode b_Dr_append 97 = .ok (.i2c, 1) := by decide +kernel
theorem d_Dr_append_98 : decode b_Dr_append 98 = .ok (.castore, 1) := by decide +kernel
theorem d_Dr_append_99 : decode b_Dr_append 99 = .ok (.iinc 4 1, 3) := by decide +kernel
theorem d_Dr_append_102 : decode b_Dr_append 102 = .ok (.goto (-28), 3) := by decide +kernel
theorem d_Dr_append_105 : decode b_Dr_append 105 = .ok (.aload_n 0, 1) := by decide +kernel
theorem d_Dr_append_106 : decode b_Dr_append 106 = .ok (.dup, 1) := by decide +kernel
theorem d_Dr_append_107 : decode b_Dr_append 107 = .ok (.getfield 13, 3) := by decide +kernel
theorem d_Dr_append_110 : decode b_Dr_append 110 = .ok (.iload_n 3, 1) := by decide +kernel
theorem d_Dr_append_111 : decode b_Dr_append 111 = .ok (.iadd, 1) := by decide +kernel
theorem d_Dr_append_112 : decode b_Dr_append 112 = .ok (.putfield 13, 3) := by decide +kernel
theorem d_Dr_append_115 : decode b_Dr_append 115 = .ok (.iconst 1, 1) := by decide +kernel
theorem d_Dr_append_116 : decode b_Dr_append 116 = .ok (.ireturn, 1) := by decide +kernel
def f_Dr_append_43 (σ : St) : Int32 × St := (0, σ)
def k_Dr_append_43 (σ : St) : Prop := True
def f_Dr_append_69 (σ : St) : Int32 × St := (0, σ)
def k_Dr_append_69 (σ : St) : Prop := True
def f_Dr_append_99 (F74 : (Int64 → Int32 → Int32 → St → Int32 × St)) (x1 : Int64) (x3 : Int32) (x4 : Int32) (σ : St) : Int32 × St := F74 x1 x3 (x4 + 1) σ
def k_Dr_append_99 (K74 : (Int64 → Int32 → Int32 → St → Prop)) (x1 : Int64) (x3 : Int32) (x4 : Int32) (σ : St) : Prop := K74 x1 x3 (x4 + 1) σ
def f_Dr_append_115 (σ : St) : Int32 × St := (1, σ)
def k_Dr_append_115 (σ : St) : Prop := True
def f_Dr_append_74 : Nat → Int64 → Int32 → Int32 → St → Int32 × St
  | 0, _, _, _, σ => (0, σ)
  | n + 1, x1, x3, x4, σ => if x3 ≤ x4 then (f_Dr_append_115 (sF σ 18 1 ((σ.1 18 1) + x3))) else (f_Dr_append_99 (f_Dr_append_74 n) x1 x3 x4 (sA σ 19 ((σ.1 18 1) + x4) (vp_nar .char (((f_Dr_byteOf x1 x4 σ).toUInt32 % 65536).toInt32))))
def k_Dr_append_74 : Nat → Int64 → Int32 → Int32 → St → Prop
  | 0, _, _, _, _ => False
  | n + 1, x1, x3, x4, σ => (x3 ≤ x4 → (k_Dr_append_115 (sF σ 18 1 ((σ.1 18 1) + x3)))) ∧ (¬ x3 ≤ x4 → ((k_Dr_byteOf x1 x4 σ) ∧ (vp_in ((σ.1 18 1) + x4) 120 ∧ (k_Dr_append_99 (k_Dr_append_74 n) x1 x3 x4 (sA σ 19 ((σ.1 18 1) + x4) (vp_nar .char (((f_Dr_byteOf x1 x4 σ).toUInt32 % 65536).toInt32)))))))
def f_Dr_append_54 (x1 : Int64) (x3 : Int32) (σ : St) : Int32 × St := if x3 = 0 then (f_Dr_append_69 σ) else (if ((σ.1 18 1) + x3) ≤ 120 then (f_Dr_append_74 1000 x1 x3 0 σ) else (f_Dr_append_69 σ))
def k_Dr_append_54 (x1 : Int64) (x3 : Int32) (σ : St) : Prop := (x3 = 0 → (k_Dr_append_69 σ)) ∧ (¬ x3 = 0 → ((((σ.1 18 1) + x3) ≤ 120 → (k_Dr_append_74 1000 x1 x3 0 σ)) ∧ (¬ ((σ.1 18 1) + x3) ≤ 120 → (k_Dr_append_69 σ))))
def f_Dr_append_5 : Nat → Int64 → Int32 → Int32 → St → Int32 × St
  | 0, _, _, _, σ => (0, σ)
  | n + 1, x1, x3, x4, σ => if 8 ≤ x4 then (f_Dr_append_54 x1 x3 σ) else (if (f_Dr_byteOf x1 x4 σ) = 0 then (f_Dr_append_54 x1 x3 σ) else (if (f_Dr_byteOf x1 x4 σ) < 32 then (f_Dr_append_43 σ) else (if (f_Dr_byteOf x1 x4 σ) ≤ 126 then ((f_Dr_append_5 n) x1 (x3 + 1) (x4 + 1) σ) else (f_Dr_append_43 σ))))
def k_Dr_append_5 : Nat → Int64 → Int32 → Int32 → St → Prop
  | 0, _, _, _, _ => False
  | n + 1, x1, x3, x4, σ => (8 ≤ x4 → (k_Dr_append_54 x1 x3 σ)) ∧ (¬ 8 ≤ x4 → ((k_Dr_byteOf x1 x4 σ) ∧ (((f_Dr_byteOf x1 x4 σ) = 0 → (k_Dr_append_54 x1 x3 σ)) ∧ (¬ (f_Dr_byteOf x1 x4 σ) = 0 → ((k_Dr_byteOf x1 x4 σ) ∧ (((f_Dr_byteOf x1 x4 σ) < 32 → (k_Dr_append_43 σ)) ∧ (¬ (f_Dr_byteOf x1 x4 σ) < 32 → ((k_Dr_byteOf x1 x4 σ) ∧ (((f_Dr_byteOf x1 x4 σ) ≤ 126 → ((k_Dr_append_5 n) x1 (x3 + 1) (x4 + 1) σ)) ∧ (¬ (f_Dr_byteOf x1 x4 σ) ≤ 126 → (k_Dr_append_43 σ)))))))))))
def f_Dr_append (a1 : Int64) (σ : St) : Int32 × St := f_Dr_append_5 1000 a1 0 0 σ
def k_Dr_append (a1 : Int64) (σ : St) : Prop := k_Dr_append_5 1000 a1 0 0 σ
abbrev w_Dr_append : List Cond := Cond.code y_Dr_append b_Dr_append 5 (some .boolean) :: gw
abbrev rm_Dr_append : Room := { frames := 1, cells := 0, slots := 0, locals := 22 }
set_option maxHeartbeats 4000000 in
set_option maxRecDepth 100000 in
theorem c_Dr_append (l : Launch) (D : va_G) (ty : Nat → ClassId) (h : Nat → Nat) (px : va_W) (σ : St) (sz : Nat) (a1 : Int64) (hk : k_Dr_append a1 σ) : Met l y_Dr_append w_Dr_append rm_Dr_append (va_Pc [.ref (h 18), .long a1] (fun U => U.heap.size = sz ∧ va_P D classes (Wc ty h σ px) U.heap ∧ va_K D classes (Ta ty) U ∧ va_D (fun _ => True) (Wc ty h σ px))) (va_Qi (fun r (u : St) => (r, u) = f_Dr_append a1 σ) (fun u t => va_P D classes (Wc ty h u px) t.heap) (va_A (Wc ty h σ px) sz)) 0 0 (va_A (Wc ty h σ px) sz) := by
  refine Met.ofW (cc := b_Dr_append) (maxL := 5) (ret := (some .boolean)) (by decide) rfl ?_
  intro p e s m args below meth c s₁ B hml hv
  obtain ⟨ha, hsz, hP, hK, hD0⟩ := hv
  have hx := B.exec
  have hb := B.bytes
  have hr := B.returns
  have hg : ∀ w ∈ gw, w.before args s = true := fun w h9 => atoms_spec (ws := w_Dr_append) B.pre w (List.mem_cons_of_mem _ h9)
  have hown : s.vm.findClass "ClauseLedger$Draft" = some m.cls := findClass_of_methodNamed B.named
  have hlocks := B.notSynchronized
  subst hsz
  have hD := hD0.self (sz := s.heap.size)
  generalize hAe : va_A (Wc ty h σ px) s.heap.size = A at hD ⊢
  have hA : ∀ q : Nat, s.heap.size ≤ q → A q := fun q h9 => by rw [← hAe]; exact Or.inr h9
  have hS : va_S A s.heap s.heap [] := va_S.rf
  have he : entryFrame m args 5 = entryFrame m ([.ref (h 18), .long a1] : List Value).toArray 5 := by rw [ha]
  rw [he, lg_entry_eq]
  have hl := lv_entry ([.ref (h 18), .long a1]) (n := 5) (Nat.le_of_ble_eq_true rfl)
  generalize (lg_sl ([.ref (h 18), .long a1]) ++ List.replicate (5 - (lg_sl ([.ref (h 18), .long a1])).length) Slot.unset).toArray = ls at hl ⊢
  have hl : lv_has ls 5 [(0, .ref (h 18)), (1, .long a1)] := hl
  generalize hv : f_Dr_append a1 σ = v
  replace hv := hv.symm
  have B43 : ∀ (H : Heap) (locs : List Loc) (ls : Array Slot) (σ : St), v = f_Dr_append_43 σ → k_Dr_append_43 σ → lv_has ls 5 [] → va_P D classes (Wc ty h σ px) H → va_D A (Wc ty h σ px) → va_S A s.heap H locs → W p l e (headSpec w_Dr_append rm_Dr_append).room s m args below meth c H locs 0 0 (MQ below (va_Qi (fun r (u : St) => (r, u) = v) (fun u t => va_P D classes (Wc ty h u px) t.heap) A) args s 0 0 A) (F0 m 43 ls []) := by
    intro H locs ls σ hv hk hl hP hD hS
    unfold f_Dr_append_43 at hv
    unfold k_Dr_append_43 at hk
    refine lv_iconst (v := 0) hx hb d_Dr_append_43 (by decide) ?_
    exact W.zret hx hb hr rfl (fun t ht hW => ⟨⟨_, _, rfl, hv.symm, by dsimp only; rw [ht]; exact hP⟩, hS.F ht⟩) hS.2.2 d_Dr_append_44
  have B69 : ∀ (H : Heap) (locs : List Loc) (ls : Array Slot) (σ : St), v = f_Dr_append_69 σ → k_Dr_append_69 σ → lv_has ls 5 [] → va_P D classes (Wc ty h σ px) H → va_D A (Wc ty h σ px) → va_S A s.heap H locs → W p l e (headSpec w_Dr_append rm_Dr_append).room s m args below meth c H locs 0 0 (MQ below (va_Qi (fun r (u : St) => (r, u) = v) (fun u t => va_P D classes (Wc ty h u px) t.heap) A) args s 0 0 A) (F0 m 69 ls []) := by
    intro H locs ls σ hv hk hl hP hD hS
    unfold f_Dr_append_69 at hv
    unfold k_Dr_append_69 at hk
    refine lv_iconst (v := 0) hx hb d_Dr_append_69 (by decide) ?_
    exact W.zret hx hb hr rfl (fun t ht hW => ⟨⟨_, _, rfl, hv.symm, by dsimp only; rw [ht]; exact hP⟩, hS.F ht⟩) hS.2.2 d_Dr_append_70
  have B115 : ∀ (H : Heap) (locs : List Loc) (ls : Array Slot) (σ : St), v = f_Dr_append_115 σ → k_Dr_append_115 σ → lv_has ls 5 [] → va_P D classes (Wc ty h σ px) H → va_D A (Wc ty h σ px) → va_S A s.heap H locs → W p l e (headSpec w_Dr_append rm_Dr_append).room s m args below meth c H locs 0 0 (MQ below (va_Qi (fun r (u : St) => (r, u) = v) (fun u t => va_P D classes (Wc ty h u px) t.heap) A) args s 0 0 A) (F0 m 115 ls []) := by
    intro H locs ls σ hv hk hl hP hD hS
    unfold f_Dr_append_115 at hv
    unfold k_Dr_append_115 at hk
    refine lv_iconst (v := 1) hx hb d_Dr_append_115 (by decide) ?_
    exact W.zret hx hb hr rfl (fun t ht hW => ⟨⟨_, _, rfl, hv.symm, by dsimp only; rw [ht]; exact hP⟩, hS.F ht⟩) hS.2.2 d_Dr_append_116
  have B74 : ∀ (n74 : Nat) (H : Heap) (locs : List Loc) (ls : Array Slot) (x1 : Int64) (x3 : Int32) (x4 : Int32) (σ : St), v = f_Dr_append_74 n74 x1 x3 x4 σ → k_Dr_append_74 n74 x1 x3 x4 σ → lv_has ls 5 [(0, .ref (h 18)), (1, .long x1), (3, .int x3), (4, .int x4)] → va_P D classes (Wc ty h σ px) H → va_D A (Wc ty h σ px) → va_S A s.heap H locs → W p l e (headSpec w_Dr_append rm_Dr_append).room s m args below meth c H locs 0 0 (MQ below (va_Qi (fun r (u : St) => (r, u) = v) (fun u t => va_P D classes (Wc ty h u px) t.heap) A) args s 0 0 A) (F0 m 74 ls []) := by
    intro n74
    induction n74 with
    | zero => intro H locs ls x1 x3 x4 σ hv hk hl hP hD hS; exact hk.elim
    | succ n74 ih74 =>
      have B99 : ∀ (H : Heap) (locs : List Loc) (ls : Array Slot) (x1 : Int64) (x3 : Int32) (x4 : Int32) (σ : St), v = f_Dr_append_99 (f_Dr_append_74 n74) x1 x3 x4 σ → k_Dr_append_99 (k_Dr_append_74 n74) x1 x3 x4 σ → lv_has ls 5 [(0, .ref (h 18)), (1, .long x1), (3, .int x3), (4, .int x4)] → va_P D classes (Wc ty h σ px) H → va_D A (Wc ty h σ px) → va_S A s.heap H locs → W p l e (headSpec w_Dr_append rm_Dr_append).room s m args below meth c H locs 0 0 (MQ below (va_Qi (fun r (u : St) => (r, u) = v) (fun u t => va_P D classes (Wc ty h u px) t.heap) A) args s 0 0 A) (F0 m 99 ls []) := by
        intro H locs ls x1 x3 x4 σ hv hk hl hP hD hS
        unfold f_Dr_append_99 at hv
        unfold k_Dr_append_99 at hk
        refine lv_iinc (k := 3) (v := x4 + 1) (lv' := [(4, .int (x4 + 1)), (0, .ref (h 18)), (1, .long x1), (3, .int x3)]) hx hb d_Dr_append_99 hl rfl (by first | rfl | simp [lit1, litm1]) (by decide) rfl (fun ls hl => ?_)
        refine lv_goto (tgt := 74) hx hb d_Dr_append_102 (by decide) ?_
        exact ih74 _ _ _ x1 x3 (x4 + 1) σ hv hk (lv_sub hl [1, 2, 3, 0] rfl) hP hD hS
      intro H locs ls x1 x3 x4 σ hv hk hl hP hD hS
      rw [f_Dr_append_74] at hv
      rw [k_Dr_append_74] at hk
      refine lv_iload hx hb d_Dr_append_74 (lv_at hl 3 rfl) ?_
      refine lv_iload_n hx hb d_Dr_append_76 rfl (lv_at hl 2 rfl) ?_
      refine lv_icmp_ge (tgt := 105) hx hb d_Dr_append_77 (by decide) (fun hc => ?_) (fun hc => ?_)
      · have hv := hv.trans (if_pos hc)
        have hk := hk.1 hc
        refine lv_aload_n hx hb d_Dr_append_105 rfl (lv_at hl 0 rfl) ?_
        refine lv_dup hx hb d_Dr_append_106 rfl ?_
        refine va_get (v := .int (σ.1 18 1)) (C := R_Dr) (T := T_Dr) (N := 2) hx hb hg in_Dr hown hK hP 18 rfl rfl 1 (by decide) (hg _ m_120) (fun _ h9 => h9) rfl d_Dr_append_107 ?_
        refine lv_iload_n hx hb d_Dr_append_110 rfl (lv_at hl 2 rfl) ?_
        refine lv_iadd hx hb d_Dr_append_111 ?_
        refine va_put (v := .int ((σ.1 18 1) + x3)) (ty := .int) (C := R_Dr) (T := T_Dr) (N := 2) hx hb hg in_Dr ty_Dr ok_Dr nm_Dr hown hK hP hD hS 18 rfl rfl 1 (by decide) (hg _ m_120) (fun _ h9 => h9) rfl (by decide +kernel) rfl rfl (Nat.le_of_ble_eq_true rfl) d_Dr_append_112 (fun H locs hP hD hS => ?_)
        have hP : va_P D classes (Wc ty h (sF σ 18 1 ((σ.1 18 1) + x3)) px) H := hP
        have hD : va_D A (Wc ty h (sF σ 18 1 ((σ.1 18 1) + x3)) px) := hD
        exact B115 _ _ _  (sF σ 18 1 ((σ.1 18 1) + x3)) hv hk (lv_sub hl [] rfl) hP hD hS
      · have hv := hv.trans (if_neg hc)
        have hk := hk.2 hc
        refine lv_aload_n hx hb d_Dr_append_80 rfl (lv_at hl 0 rfl) ?_
        refine va_get (v := .ref (h 19)) (C := R_Dr) (T := T_Dr) (N := 2) hx hb hg in_Dr hown hK hP 18 rfl rfl 0 (by decide) (hg _ m_119) (fun _ h9 => h9) rfl d_Dr_append_81 ?_
        refine lv_aload_n hx hb d_Dr_append_84 rfl (lv_at hl 0 rfl) ?_
        refine va_get (v := .int (σ.1 18 1)) (C := R_Dr) (T := T_Dr) (N := 2) hx hb hg in_Dr hown hK hP 18 rfl rfl 1 (by decide) (hg _ m_120) (fun _ h9 => h9) rfl d_Dr_append_85 ?_
        refine lv_iload hx hb d_Dr_append_88 (lv_at hl 3 rfl) ?_
        refine lv_iadd hx hb d_Dr_append_90 ?_
        refine lv_lload_n hx hb d_Dr_append_91 rfl (lv_at hl 1 rfl) ?_
        refine lv_iload hx hb d_Dr_append_92 (lv_at hl 3 rfl) ?_
        obtain ⟨hk0, hk⟩ := hk
        refine zz_callV (va_runS (As := [.long x1, .int x4]) (rest := [.int ((σ.1 18 1) + x4), .ref (h 19)]) ⟨hx, hb, hml, hown, hg⟩ (c_Dr_byteOf l D ty h px σ x1 x4 hk0) ⟨callB_of 2 hg (gw_C m_368) rfl rfl rfl (hg _ m_4) (hg _ m_366) hd_Dr_byteOf ⟨Nat.le_of_ble_eq_true rfl, Nat.le_of_ble_eq_true rfl⟩, hg _ m_367⟩ (zz_preS hK hP) rfl rfl hl.1 rfl (lv_room (Nat.le_of_ble_eq_true rfl)) d_Dr_append_94 ⟨Nat.le_refl _, Nat.le_refl _⟩) ?_
        refine lv_i2c hx hb d_Dr_append_97 rfl ?_
        obtain ⟨hk0, hk⟩ := hk
        refine va_cast hx hb hK hP hD hS 19 2 rfl rfl hk0 d_Dr_append_98 (fun H locs hP hD hS => ?_)
        have hP : va_P D classes (Wc ty h (sA σ 19 ((σ.1 18 1) + x4) (vp_nar .char (((f_Dr_byteOf x1 x4 σ).toUInt32 % 65536).toInt32))) px) H := hP
        have hD : va_D A (Wc ty h (sA σ 19 ((σ.1 18 1) + x4) (vp_nar .char (((f_Dr_byteOf x1 x4 σ).toUInt32 % 65536).toInt32))) px) := hD
        exact B99 _ _ _ x1 x3 x4 (sA σ 19 ((σ.1 18 1) + x4) (vp_nar .char (((f_Dr_byteOf x1 x4 σ).toUInt32 % 65536).toInt32))) hv hk (lv_sub hl [0, 1, 2, 3] rfl) hP hD hS
  have B54 : ∀ (H : Heap) (locs : List Loc) (ls : Array Slot) (x1 : Int64) (x3 : Int32) (σ : St), v = f_Dr_append_54 x1 x3 σ → k_Dr_append_54 x1 x3 σ → lv_has ls 5 [(0, .ref (h 18)), (1, .long x1), (3, .int x3)] → va_P D classes (Wc ty h σ px) H → va_D A (Wc ty h σ px) → va_S A s.heap H locs → W p l e (headSpec w_Dr_append rm_Dr_append).room s m args below meth c H locs 0 0 (MQ below (va_Qi (fun r (u : St) => (r, u) = v) (fun u t => va_P D classes (Wc ty h u px) t.heap) A) args s 0 0 A) (F0 m 54 ls []) := by
    intro H locs ls x1 x3 σ hv hk hl hP hD hS
    unfold f_Dr_append_54 at hv
    unfold k_Dr_append_54 at hk
    refine lv_iload_n hx hb d_Dr_append_54 rfl (lv_at hl 2 rfl) ?_
    refine lv_if_eq (tgt := 69) hx hb d_Dr_append_55 (by decide) (fun hc => ?_) (fun hc => ?_)
    · have hv := hv.trans (if_pos hc)
      have hk := hk.1 hc
      exact B69 _ _ _  σ hv hk (lv_sub hl [] rfl) hP hD hS
    · have hv := hv.trans (if_neg hc)
      have hk := hk.2 hc
      refine lv_aload_n hx hb d_Dr_append_58 rfl (lv_at hl 0 rfl) ?_
      refine va_get (v := .int (σ.1 18 1)) (C := R_Dr) (T := T_Dr) (N := 2) hx hb hg in_Dr hown hK hP 18 rfl rfl 1 (by decide) (hg _ m_120) (fun _ h9 => h9) rfl d_Dr_append_59 ?_
      refine lv_iload_n hx hb d_Dr_append_62 rfl (lv_at hl 2 rfl) ?_
      refine lv_iadd hx hb d_Dr_append_63 ?_
      refine lv_bipush (v := 120) hx hb d_Dr_append_64 (by decide) ?_
      refine lv_icmp_le (tgt := 71) hx hb d_Dr_append_66 (by decide) (fun hc => ?_) (fun hc => ?_)
      · have hv := hv.trans (if_pos hc)
        have hk := hk.1 hc
        refine lv_iconst (v := 0) hx hb d_Dr_append_71 (by decide) ?_
        refine lv_istore (lv' := [(4, .int 0), (0, .ref (h 18)), (1, .long x1), (3, .int x3)]) hx hb d_Dr_append_72 hl (by decide) rfl (fun ls hl => ?_)
        exact B74 1000 _ _ _ x1 x3 0 σ hv hk (lv_sub hl [1, 2, 3, 0] rfl) hP hD hS
      · have hv := hv.trans (if_neg hc)
        have hk := hk.2 hc
        exact B69 _ _ _  σ hv hk (lv_sub hl [] rfl) hP hD hS
  have B5 : ∀ (n5 : Nat) (H : Heap) (locs : List Loc) (ls : Array Slot) (x1 : Int64) (x3 : Int32) (x4 : Int32) (σ : St), v = f_Dr_append_5 n5 x1 x3 x4 σ → k_Dr_append_5 n5 x1 x3 x4 σ → lv_has ls 5 [(0, .ref (h 18)), (1, .long x1), (3, .int x3), (4, .int x4)] → va_P D classes (Wc ty h σ px) H → va_D A (Wc ty h σ px) → va_S A s.heap H locs → W p l e (headSpec w_Dr_append rm_Dr_append).room s m args below meth c H locs 0 0 (MQ below (va_Qi (fun r (u : St) => (r, u) = v) (fun u t => va_P D classes (Wc ty h u px) t.heap) A) args s 0 0 A) (F0 m 5 ls []) := by
    intro n5
    induction n5 with
    | zero => intro H locs ls x1 x3 x4 σ hv hk hl hP hD hS; exact hk.elim
    | succ n5 ih5 =>
      intro H locs ls x1 x3 x4 σ hv hk hl hP hD hS
      rw [f_Dr_append_5] at hv
      rw [k_Dr_append_5] at hk
      refine lv_iload hx hb d_Dr_append_5 (lv_at hl 3 rfl) ?_
      refine lv_bipush (v := 8) hx hb d_Dr_append_7 (by decide) ?_
      refine lv_icmp_ge (tgt := 54) hx hb d_Dr_append_9 (by decide) (fun hc => ?_) (fun hc => ?_)
      · have hv := hv.trans (if_pos hc)
        have hk := hk.1 hc
        exact B54 _ _ _ x1 x3 σ hv hk (lv_sub hl [0, 1, 2] rfl) hP hD hS
      · have hv := hv.trans (if_neg hc)
        have hk := hk.2 hc
        refine lv_lload_n hx hb d_Dr_append_12 rfl (lv_at hl 1 rfl) ?_
        refine lv_iload hx hb d_Dr_append_13 (lv_at hl 3 rfl) ?_
        obtain ⟨hk0, hk⟩ := hk
        refine zz_callV (va_runS (As := [.long x1, .int x4]) (rest := []) ⟨hx, hb, hml, hown, hg⟩ (c_Dr_byteOf l D ty h px σ x1 x4 hk0) ⟨callB_of 2 hg (gw_C m_368) rfl rfl rfl (hg _ m_4) (hg _ m_366) hd_Dr_byteOf ⟨Nat.le_of_ble_eq_true rfl, Nat.le_of_ble_eq_true rfl⟩, hg _ m_367⟩ (zz_preS hK hP) rfl rfl hl.1 rfl (lv_room (Nat.le_of_ble_eq_true rfl)) d_Dr_append_15 ⟨Nat.le_refl _, Nat.le_refl _⟩) ?_
        refine lv_if_eq (tgt := 54) hx hb d_Dr_append_18 (by decide) (fun hc => ?_) (fun hc => ?_)
        · have hv := hv.trans (if_pos hc)
          have hk := hk.1 hc
          exact B54 _ _ _ x1 x3 σ hv hk (lv_sub hl [0, 1, 2] rfl) hP hD hS
        · have hv := hv.trans (if_neg hc)
          have hk := hk.2 hc
          refine lv_lload_n hx hb d_Dr_append_21 rfl (lv_at hl 1 rfl) ?_
          refine lv_iload hx hb d_Dr_append_22 (lv_at hl 3 rfl) ?_
          obtain ⟨hk0, hk⟩ := hk
          refine zz_callV (va_runS (As := [.long x1, .int x4]) (rest := []) ⟨hx, hb, hml, hown, hg⟩ (c_Dr_byteOf l D ty h px σ x1 x4 hk0) ⟨callB_of 2 hg (gw_C m_368) rfl rfl rfl (hg _ m_4) (hg _ m_366) hd_Dr_byteOf ⟨Nat.le_of_ble_eq_true rfl, Nat.le_of_ble_eq_true rfl⟩, hg _ m_367⟩ (zz_preS hK hP) rfl rfl hl.1 rfl (lv_room (Nat.le_of_ble_eq_true rfl)) d_Dr_append_24 ⟨Nat.le_refl _, Nat.le_refl _⟩) ?_
          refine lv_bipush (v := 32) hx hb d_Dr_append_27 (by decide) ?_
          refine lv_icmp_lt (tgt := 43) hx hb d_Dr_append_29 (by decide) (fun hc => ?_) (fun hc => ?_)
          · have hv := hv.trans (if_pos hc)
            have hk := hk.1 hc
            exact B43 _ _ _  σ hv hk (lv_sub hl [] rfl) hP hD hS
          · have hv := hv.trans (if_neg hc)
            have hk := hk.2 hc
            refine lv_lload_n hx hb d_Dr_append_32 rfl (lv_at hl 1 rfl) ?_
            refine lv_iload hx hb d_Dr_append_33 (lv_at hl 3 rfl) ?_
            obtain ⟨hk0, hk⟩ := hk
            refine zz_callV (va_runS (As := [.long x1, .int x4]) (rest := []) ⟨hx, hb, hml, hown, hg⟩ (c_Dr_byteOf l D ty h px σ x1 x4 hk0) ⟨callB_of 2 hg (gw_C m_368) rfl rfl rfl (hg _ m_4) (hg _ m_366) hd_Dr_byteOf ⟨Nat.le_of_ble_eq_true rfl, Nat.le_of_ble_eq_true rfl⟩, hg _ m_367⟩ (zz_preS hK hP) rfl rfl hl.1 rfl (lv_room (Nat.le_of_ble_eq_true rfl)) d_Dr_append_35 ⟨Nat.le_refl _, Nat.le_refl _⟩) ?_
            refine lv_bipush (v := 126) hx hb d_Dr_append_38 (by decide) ?_
            refine lv_icmp_le (tgt := 45) hx hb d_Dr_append_40 (by decide) (fun hc => ?_) (fun hc => ?_)
            · have hv := hv.trans (if_pos hc)
              have hk := hk.1 hc
              refine lv_iinc (k := 2) (v := x3 + 1) (lv' := [(3, .int (x3 + 1)), (0, .ref (h 18)), (1, .long x1), (4, .int x4)]) hx hb d_Dr_append_45 hl rfl (by first | rfl | simp [lit1, litm1]) (by decide) rfl (fun ls hl => ?_)
              refine lv_iinc (k := 3) (v := x4 + 1) (lv' := [(4, .int (x4 + 1)), (3, .int (x3 + 1)), (0, .ref (h 18)), (1, .long x1)]) hx hb d_Dr_append_48 hl rfl (by first | rfl | simp [lit1, litm1]) (by decide) rfl (fun ls hl => ?_)
              refine lv_goto (tgt := 5) hx hb d_Dr_append_51 (by decide) ?_
              exact ih5 _ _ _ x1 (x3 + 1) (x4 + 1) σ hv hk (lv_sub hl [2, 3, 1, 0] rfl) hP hD hS
            · have hv := hv.trans (if_neg hc)
              have hk := hk.2 hc
              exact B43 _ _ _  σ hv hk (lv_sub hl [] rfl) hP hD hS
  unfold f_Dr_append at hv
  unfold k_Dr_append at hk
  refine lv_iconst (v := 0) hx hb d_Dr_append_0 (by decide) ?_
  refine lv_istore_n (lv' := [(3, .int 0), (0, .ref (h 18)), (1, .long a1)]) hx hb d_Dr_append_1 rfl hl (by decide) rfl (fun ls hl => ?_)
  refine lv_iconst (v := 0) hx hb d_Dr_append_2 (by decide) ?_
  refine lv_istore (lv' := [(4, .int 0), (3, .int 0), (0, .ref (h 18)), (1, .long a1)]) hx hb d_Dr_append_3 hl (by decide) rfl (fun ls hl => ?_)
  exact B5 1000 _ _ _ a1 0 0 σ hv hk (lv_sub hl [2, 3, 1, 0] rfl) hP hD hS

