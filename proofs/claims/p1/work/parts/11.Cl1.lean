-- ClauseLedger$Draft.size()I
abbrev b_Dr_size : ByteArray := prog_3_method_2_code
def y_Dr_size : MethodName := ⟨"ClauseLedger$Draft", "size", "()I"⟩
theorem hd_Dr_size : y_Dr_size.cls ≠ "java/lang/invoke/MethodHandle" ∧ y_Dr_size.cls ≠ "java/lang/invoke/VarHandle" ∧ (parseMethodDescriptor y_Dr_size.desc).map (fun d => d.parameters.length) = some 0 := by decide +kernel
theorem d_Dr_size_0 : decode b_Dr_size 0 = .ok (.aload_n 0, 1) := by decide +kernel
theorem d_Dr_size_1 : decode b_Dr_size 1 = .ok (.getfield 13, 3) := by decide +kernel
theorem d_Dr_size_4 : decode b_Dr_size 4 = .ok (.ireturn, 1) := by decide +kernel
def f_Dr_size (σ : St) : Int32 := σ.1 18 1
def k_Dr_size (σ : St) : Prop := True
abbrev w_Dr_size : List Cond := Cond.code y_Dr_size b_Dr_size 1 (some .int) :: gw
abbrev rm_Dr_size : Room := { frames := 0, cells := 0, slots := 0, locals := 0 }
set_option maxHeartbeats 4000000 in
set_option maxRecDepth 100000 in
theorem c_Dr_size (l : Launch) (D : va_G) (ty : Nat → ClassId) (h : Nat → Nat) (px : va_W) (sa : Nat → Nat) (σ : St) (hk : k_Dr_size σ) : Met l y_Dr_size w_Dr_size rm_Dr_size (va_Pc [.ref (h 18)] (fun U => va_P D classes (Wc ty h σ px) U.heap ∧ va_K D classes (Ta ty) U ∧ NW U ∧ MK sa (fun _ => False) U U.heap)) (k2_QcV (.int (f_Dr_size σ))) 0 0 (fun _ => False) := by
  refine Met.ofW (cc := b_Dr_size) (maxL := 1) (ret := (some .int)) (by decide) rfl ?_
  intro p e s m args below meth c s₁ B hml hv
  obtain ⟨ha, hP, hK, hN, hM⟩ := hv
  have hx := B.exec
  have hb := B.bytes
  have hr := B.returns
  have hg : ∀ w ∈ gw, w.before args s = true := fun w h9 => atoms_spec (ws := w_Dr_size) B.pre w (List.mem_cons_of_mem _ h9)
  have hown : s.vm.findClass "ClauseLedger$Draft" = some m.cls := findClass_of_methodNamed B.named
  have hlocks := B.notSynchronized
  have he : entryFrame m args 1 = entryFrame m ([.ref (h 18)] : List Value).toArray 1 := by rw [ha]
  rw [he, lg_entry_eq]
  have hl := lv_entry ([.ref (h 18)]) (n := 1) (Nat.le_of_ble_eq_true rfl)
  generalize (lg_sl ([.ref (h 18)]) ++ List.replicate (1 - (lg_sl ([.ref (h 18)])).length) Slot.unset).toArray = ls at hl ⊢
  have hl : lv_has ls 1 [(0, .ref (h 18))] := hl
  generalize hv : f_Dr_size σ = v
  replace hv := hv.symm
  unfold f_Dr_size at hv
  unfold k_Dr_size at hk
  refine lv_aload_n hx hb d_Dr_size_0 rfl (lv_at hl 0 rfl) ?_
  refine va_get (v := .int (σ.1 18 1)) (C := R_Dr) (T := T_Dr) (N := 2) hx hb hg in_Dr hown hK hP 18 rfl rfl 1 (by decide) (hg _ m_120) (fun _ h9 => h9) rfl d_Dr_size_1 ?_
  exact W.iret hx hb hr (fun t ht hW => ⟨by rw [hv], ht⟩) (fun q h => nomatch h) d_Dr_size_4

-- ClauseLedger$Draft.letter(I)C
abbrev b_Dr_letter : ByteArray := prog_3_method_4_code
def y_Dr_letter : MethodName := ⟨"ClauseLedger$Draft", "letter", "(I)C"⟩
theorem hd_Dr_letter : y_Dr_letter.cls ≠ "java/lang/invoke/MethodHandle" ∧ y_Dr_letter.cls ≠ "java/lang/invoke/VarHandle" ∧ (parseMethodDescriptor y_Dr_letter.desc).map (fun d => d.parameters.length) = some 1 := by decide +kernel
theorem d_Dr_letter_0 : decode b_Dr_letter 0 = .ok (.iload_n 1, 1) := by decide +kernel
theorem d_Dr_letter_1 : decode b_Dr_letter 1 = .ok (.ifCond .lt 20, 3) := by decide +kernel
theorem d_Dr_letter_4 : decode b_Dr_letter 4 = .ok (.iload_n 1, 1) := by decide +kernel
theorem d_Dr_letter_5 : decode b_Dr_letter 5 = .ok (.aload_n 0, 1) := by decide +kernel
theorem d_Dr_letter_6 : decode b_Dr_letter 6 = .ok (.getfield 13, 3) := by decide +kernel
theorem d_Dr_letter_9 : decode b_Dr_letter 9 = .ok (.if_icmp .ge 12, 3) := by decide +kernel
theorem d_Dr_letter_12 : decode b_Dr_letter 12 = .ok (.aload_n 0, 1) := by decide +kernel
theorem d_Dr_letter_13 : decode b_Dr_letter 13 = .ok (.getfield 9, 3) := by decide +kernel
theorem d_Dr_letter_16 : decode b_Dr_letter 16 = .ok (.iload_n 1, 1) := by decide +kernel
theorem d_Dr_letter_17 : decode b_Dr_letter 17 = .ok (.caload, 1) := by decide +kernel
theorem d_Dr_letter_18 : decode b_Dr_letter 18 = .ok (.goto 4, 3) := by decide +kernel
theorem d_Dr_letter_21 : decode b_Dr_letter 21 = .ok (.iconst 0, 1) := by decide +kernel
theorem d_Dr_letter_22 : decode b_Dr_letter 22 = .ok (.ireturn, 1) := by decide +kernel
def f_Dr_letter_22 (s0 : Int32) (σ : St) : Int32 := s0
def k_Dr_letter_22 (s0 : Int32) (σ : St) : Prop := (narrow .char (.int s0) = .int s0) ∧ True
def f_Dr_letter_21 (σ : St) : Int32 := f_Dr_letter_22 0 σ
def k_Dr_letter_21 (σ : St) : Prop := k_Dr_letter_22 0 σ
def f_Dr_letter (a1 : Int32) (σ : St) : Int32 := if a1 < 0 then (f_Dr_letter_21 σ) else (if (σ.1 18 1) ≤ a1 then (f_Dr_letter_21 σ) else (f_Dr_letter_22 (σ.1 19 a1.toNatClampNeg) σ))
def k_Dr_letter (a1 : Int32) (σ : St) : Prop := (a1 < 0 → (k_Dr_letter_21 σ)) ∧ (¬ a1 < 0 → (((σ.1 18 1) ≤ a1 → (k_Dr_letter_21 σ)) ∧ (¬ (σ.1 18 1) ≤ a1 → (vp_in a1 120 ∧ (k_Dr_letter_22 (σ.1 19 a1.toNatClampNeg) σ)))))
abbrev w_Dr_letter : List Cond := Cond.code y_Dr_letter b_Dr_letter 2 (some .char) :: gw
abbrev rm_Dr_letter : Room := { frames := 0, cells := 0, slots := 0, locals := 0 }
set_option maxHeartbeats 4000000 in
set_option maxRecDepth 100000 in
theorem c_Dr_letter (l : Launch) (D : va_G) (ty : Nat → ClassId) (h : Nat → Nat) (px : va_W) (sa : Nat → Nat) (σ : St) (a1 : Int32) (hk : k_Dr_letter a1 σ) : Met l y_Dr_letter w_Dr_letter rm_Dr_letter (va_Pc [.ref (h 18), .int a1] (fun U => va_P D classes (Wc ty h σ px) U.heap ∧ va_K D classes (Ta ty) U ∧ NW U ∧ MK sa (fun _ => False) U U.heap)) (k2_QcV (.int (f_Dr_letter a1 σ))) 0 0 (fun _ => False) := by
  refine Met.ofW (cc := b_Dr_letter) (maxL := 2) (ret := (some .char)) (by decide) rfl ?_
  intro p e s m args below meth c s₁ B hml hv
  obtain ⟨ha, hP, hK, hN, hM⟩ := hv
  have hx := B.exec
  have hb := B.bytes
  have hr := B.returns
  have hg : ∀ w ∈ gw, w.before args s = true := fun w h9 => atoms_spec (ws := w_Dr_letter) B.pre w (List.mem_cons_of_mem _ h9)
  have hown : s.vm.findClass "ClauseLedger$Draft" = some m.cls := findClass_of_methodNamed B.named
  have hlocks := B.notSynchronized
  have he : entryFrame m args 2 = entryFrame m ([.ref (h 18), .int a1] : List Value).toArray 2 := by rw [ha]
  rw [he, lg_entry_eq]
  have hl := lv_entry ([.ref (h 18), .int a1]) (n := 2) (Nat.le_of_ble_eq_true rfl)
  generalize (lg_sl ([.ref (h 18), .int a1]) ++ List.replicate (2 - (lg_sl ([.ref (h 18), .int a1])).length) Slot.unset).toArray = ls at hl ⊢
  have hl : lv_has ls 2 [(0, .ref (h 18)), (1, .int a1)] := hl
  generalize hv : f_Dr_letter a1 σ = v
  replace hv := hv.symm
  have B22 : ∀ (ls : Array Slot) (s0 : Int32), v = f_Dr_letter_22 s0 σ → k_Dr_letter_22 s0 σ → lv_has ls 2 [] → W p l e (headSpec w_Dr_letter rm_Dr_letter).room s m args below meth c s.heap [] 0 0 (MQ below (k2_QcV (.int v)) args s 0 0 (fun _ => False)) (F0 m 22 ls [.int s0]) := by
    intro ls s0 hv hk hl
    unfold f_Dr_letter_22 at hv
    unfold k_Dr_letter_22 at hk
    obtain ⟨hk0, hk⟩ := hk
    exact W.zret hx hb hr hk0 (fun t ht hW => ⟨by rw [hv], ht⟩) (fun q h => nomatch h) d_Dr_letter_22
  have B21 : ∀ (ls : Array Slot), v = f_Dr_letter_21 σ → k_Dr_letter_21 σ → lv_has ls 2 [] → W p l e (headSpec w_Dr_letter rm_Dr_letter).room s m args below meth c s.heap [] 0 0 (MQ below (k2_QcV (.int v)) args s 0 0 (fun _ => False)) (F0 m 21 ls []) := by
    intro ls hv hk hl
    unfold f_Dr_letter_21 at hv
    unfold k_Dr_letter_21 at hk
    refine lv_iconst (v := 0) hx hb d_Dr_letter_21 (by decide) ?_
    exact B22 _ 0 hv hk (lv_sub hl [] rfl)
  unfold f_Dr_letter at hv
  unfold k_Dr_letter at hk
  refine lv_iload_n hx hb d_Dr_letter_0 rfl (lv_at hl 1 rfl) ?_
  refine lv_if_lt (tgt := 21) hx hb d_Dr_letter_1 (by decide) (fun hc => ?_) (fun hc => ?_)
  · have hv := hv.trans (if_pos hc)
    have hk := hk.1 hc
    exact B21 _  hv hk (lv_sub hl [] rfl)
  · have hv := hv.trans (if_neg hc)
    have hk := hk.2 hc
    refine lv_iload_n hx hb d_Dr_letter_4 rfl (lv_at hl 1 rfl) ?_
    refine lv_aload_n hx hb d_Dr_letter_5 rfl (lv_at hl 0 rfl) ?_
    refine va_get (v := .int (σ.1 18 1)) (C := R_Dr) (T := T_Dr) (N := 2) hx hb hg in_Dr hown hK hP 18 rfl rfl 1 (by decide) (hg _ m_120) (fun _ h9 => h9) rfl d_Dr_letter_6 ?_
    refine lv_icmp_ge (tgt := 21) hx hb d_Dr_letter_9 (by decide) (fun hc => ?_) (fun hc => ?_)
    · have hv := hv.trans (if_pos hc)
      have hk := hk.1 hc
      exact B21 _  hv hk (lv_sub hl [] rfl)
    · have hv := hv.trans (if_neg hc)
      have hk := hk.2 hc
      refine lv_aload_n hx hb d_Dr_letter_12 rfl (lv_at hl 0 rfl) ?_
      refine va_get (v := .ref (h 19)) (C := R_Dr) (T := T_Dr) (N := 2) hx hb hg in_Dr hown hK hP 18 rfl rfl 0 (by decide) (hg _ m_119) (fun _ h9 => h9) rfl d_Dr_letter_13 ?_
      refine lv_iload_n hx hb d_Dr_letter_16 rfl (lv_at hl 1 rfl) ?_
      obtain ⟨hk0, hk⟩ := hk
      refine va_cald hx hb hK hP 19 2 rfl rfl hk0 d_Dr_letter_17 ?_
      refine lv_goto (tgt := 22) hx hb d_Dr_letter_18 (by decide) ?_
      exact B22 _ (σ.1 19 a1.toNatClampNeg) hv hk (lv_sub hl [] rfl)

-- ClauseLedger$Reader.take(C)Z
abbrev b_Rd_take : ByteArray := prog_5_method_15_code
def y_Rd_take : MethodName := ⟨"ClauseLedger$Reader", "take", "(C)Z"⟩
theorem hd_Rd_take : y_Rd_take.cls ≠ "java/lang/invoke/MethodHandle" ∧ y_Rd_take.cls ≠ "java/lang/invoke/VarHandle" ∧ (parseMethodDescriptor y_Rd_take.desc).map (fun d => d.parameters.length) = some 1 := by decide +kernel
theorem d_Rd_take_0 : decode b_Rd_take 0 = .ok (.aload_n 0, 1) := by decide +kernel
theorem d_Rd_take_1 : decode b_Rd_take 1 = .ok (.getfield 15, 3) := by decide +kernel
theorem d_Rd_take_4 : decode b_Rd_take 4 = .ok (.aload_n 0, 1) := by decide +kernel
theorem d_Rd_take_5 : decode b_Rd_take 5 = .ok (.getfield 9, 3) := by decide +kernel
theorem d_Rd_take_8 : decode b_Rd_take 8 = .ok (.invokevirtual 37, 3) := by decide +kernel
theorem d_Rd_take_11 : decode b_Rd_take 11 = .ok (.iload_n 1, 1) := by decide +kernel
theorem d_Rd_take_12 : decode b_Rd_take 12 = .ok (.if_icmp .eq 5, 3) := by decide +kernel
theorem d_Rd_take_15 : decode b_Rd_take 15 = .ok (.iconst 0, 1) := by decide +kernel
theorem d_Rd_take_16 : decode b_Rd_take 16 = .ok (.ireturn, 1) := by decide +kernel
theorem d_Rd_take_17 : decode b_Rd_take 17 = .ok (.aload_n 0, 1) := by decide +kernel
theorem d_Rd_take_18 : decode b_Rd_take 18 = .ok (.dup, 1) := by decide +kernel
theorem d_Rd_take_19 : decode b_Rd_take 19 = .ok (.getfield 9, 3) := by decide +kernel
theorem d_Rd_take_22 : decode b_Rd_take 22 = .ok (.iconst 1, 1) := by decide +kernel
theorem d_Rd_take_23 : decode b_Rd_take 23 = .ok (.iadd, 1) := by decide +kernel
theorem d_Rd_take_24 : decode b_Rd_take 24 = .ok (.putfield 9, 3) := by decide +kernel
theorem d_Rd_take_27 : decode b_Rd_take 27 = .ok (.iconst 1, 1) := by decide +kernel
theorem d_Rd_take_28 : decode b_Rd_take 28 = .ok (.ireturn, 1) := by decide +kernel
def f_Rd_take_27 (σ : St) : Int32 × St := (1, σ)
def k_Rd_take_27 (σ : St) : Prop := True
def f_Rd_take (a1 : Int32) (σ : St) : Int32 × St := if (f_Dr_letter (σ.1 20 3) σ) = a1 then (f_Rd_take_27 (sF σ 20 3 ((σ.1 20 3) + 1))) else (0, σ)
def k_Rd_take (a1 : Int32) (σ : St) : Prop := (k_Dr_letter (σ.1 20 3) σ) ∧ (((f_Dr_letter (σ.1 20 3) σ) = a1 → (k_Rd_take_27 (sF σ 20 3 ((σ.1 20 3) + 1)))) ∧ (¬ (f_Dr_letter (σ.1 20 3) σ) = a1 → True))
abbrev w_Rd_take : List Cond := Cond.code y_Rd_take b_Rd_take 2 (some .boolean) :: gw
abbrev rm_Rd_take : Room := { frames := 1, cells := 0, slots := 0, locals := 21 }
set_option maxHeartbeats 4000000 in
set_option maxRecDepth 100000 in
theorem c_Rd_take (l : Launch) (D : va_G) (ty : Nat → ClassId) (h : Nat → Nat) (px : va_W) (sa : Nat → Nat) (σ : St) (sz : Nat) (a1 : Int32) (hk : k_Rd_take a1 σ) : Met l y_Rd_take w_Rd_take rm_Rd_take (va_Pc [.ref (h 20), .int a1] (fun U => U.heap.size = sz ∧ va_P D classes (Wc ty h σ px) U.heap ∧ va_K D classes (Ta ty) U ∧ NW U ∧ MK sa (va_A (Wc ty h σ px) sz) U U.heap ∧ va_D (fun _ => True) (Wc ty h σ px))) (va_Qi (fun r (u : St) => (r, u) = f_Rd_take a1 σ) (fun u t => va_P D classes (Wc ty h u px) t.heap) (va_A (Wc ty h σ px) sz)) 0 0 (va_A (Wc ty h σ px) sz) := by
  refine Met.ofW (cc := b_Rd_take) (maxL := 2) (ret := (some .boolean)) (by decide) rfl ?_
  intro p e s m args below meth c s₁ B hml hv
  obtain ⟨ha, hsz, hP, hK, hN, hM, hD0⟩ := hv
  have hx := B.exec
  have hb := B.bytes
  have hr := B.returns
  have hg : ∀ w ∈ gw, w.before args s = true := fun w h9 => atoms_spec (ws := w_Rd_take) B.pre w (List.mem_cons_of_mem _ h9)
  have hown : s.vm.findClass "ClauseLedger$Reader" = some m.cls := findClass_of_methodNamed B.named
  have hlocks := B.notSynchronized
  subst hsz
  have hD := hD0.self (sz := s.heap.size)
  generalize hAe : va_A (Wc ty h σ px) s.heap.size = A at hD hM ⊢
  have hA : ∀ q : Nat, s.heap.size ≤ q → A q := fun q h9 => by rw [← hAe]; exact Or.inr h9
  have hS : va_S A s.heap s.heap [] := va_S.rf
  have he : entryFrame m args 2 = entryFrame m ([.ref (h 20), .int a1] : List Value).toArray 2 := by rw [ha]
  rw [he, lg_entry_eq]
  have hl := lv_entry ([.ref (h 20), .int a1]) (n := 2) (Nat.le_of_ble_eq_true rfl)
  generalize (lg_sl ([.ref (h 20), .int a1]) ++ List.replicate (2 - (lg_sl ([.ref (h 20), .int a1])).length) Slot.unset).toArray = ls at hl ⊢
  have hl : lv_has ls 2 [(0, .ref (h 20)), (1, .int a1)] := hl
  generalize hv : f_Rd_take a1 σ = v
  replace hv := hv.symm
  have B27 : ∀ (H : Heap) (locs : List Loc) (ls : Array Slot) (σ : St), v = f_Rd_take_27 σ → k_Rd_take_27 σ → lv_has ls 2 [] → va_P D classes (Wc ty h σ px) H → va_D A (Wc ty h σ px) → va_S A s.heap H locs → W p l e (headSpec w_Rd_take rm_Rd_take).room s m args below meth c H locs 0 0 (MQ below (va_Qi (fun r (u : St) => (r, u) = v) (fun u t => va_P D classes (Wc ty h u px) t.heap) A) args s 0 0 A) (F0 m 27 ls []) := by
    intro H locs ls σ hv hk hl hP hD hS
    unfold f_Rd_take_27 at hv
    unfold k_Rd_take_27 at hk
    refine lv_iconst (v := 1) hx hb d_Rd_take_27 (by decide) ?_
    exact W.zret hx hb hr rfl (fun t ht hW => ⟨⟨_, _, rfl, hv.symm, by dsimp only; rw [ht]; exact hP⟩, hS.F ht⟩) hS.2.2 d_Rd_take_28
  unfold f_Rd_take at hv
  unfold k_Rd_take at hk
  refine lv_aload_n hx hb d_Rd_take_0 rfl (lv_at hl 0 rfl) ?_
  refine va_get (v := .ref (h 18)) (C := R_Rd) (T := T_Rd) (N := 4) hx hb hg in_Rd hown hK hP 20 rfl rfl 0 (by decide) (hg _ m_133) (fun _ h9 => h9) rfl d_Rd_take_1 ?_
  refine lv_aload_n hx hb d_Rd_take_4 rfl (lv_at hl 0 rfl) ?_
  refine va_get (v := .int (σ.1 20 3)) (C := R_Rd) (T := T_Rd) (N := 4) hx hb hg in_Rd hown hK hP 20 rfl rfl 3 (by decide) (hg _ m_136) (fun _ h9 => h9) rfl d_Rd_take_5 ?_
  obtain ⟨hk0, hk⟩ := hk
  refine zz_callV (va_runV (As := [.int (σ.1 20 3)]) (rest := []) ⟨hx, hb, hml, hown, hg⟩ (c_Dr_letter l D ty h px sa σ (σ.1 20 3) hk0) ⟨callB_of 1 hg (gw_C m_583) rfl rfl rfl (hg _ m_4) (hg _ m_580) hd_Dr_letter ⟨Nat.le_of_ble_eq_true rfl, Nat.le_of_ble_eq_true rfl⟩, hg _ m_581, hg _ m_582⟩ (zz_preV (hM.at hS) hN hK hP 18 rfl rfl) rfl rfl hl.1 rfl (lv_room (Nat.le_of_ble_eq_true rfl)) d_Rd_take_8 ⟨Nat.le_of_ble_eq_true rfl, Nat.le_of_ble_eq_true rfl⟩) ?_
  refine lv_iload_n hx hb d_Rd_take_11 rfl (lv_at hl 1 rfl) ?_
  refine lv_icmp_eq (tgt := 17) hx hb d_Rd_take_12 (by decide) (fun hc => ?_) (fun hc => ?_)
  · have hv := hv.trans (if_pos hc)
    have hk := hk.1 hc
    refine lv_aload_n hx hb d_Rd_take_17 rfl (lv_at hl 0 rfl) ?_
    refine lv_dup hx hb d_Rd_take_18 rfl ?_
    refine va_get (v := .int (σ.1 20 3)) (C := R_Rd) (T := T_Rd) (N := 4) hx hb hg in_Rd hown hK hP 20 rfl rfl 3 (by decide) (hg _ m_136) (fun _ h9 => h9) rfl d_Rd_take_19 ?_
    refine lv_iconst (v := 1) hx hb d_Rd_take_22 (by decide) ?_
    refine lv_iadd hx hb d_Rd_take_23 ?_
    refine va_put (v := .int ((σ.1 20 3) + 1)) (ty := .int) (C := R_Rd) (T := T_Rd) (N := 4) hx hb hg in_Rd ty_Rd ok_Rd nm_Rd hown hK hP hD hS 20 rfl rfl 3 (by decide) (hg _ m_136) (fun _ h9 => h9) rfl (by decide +kernel) rfl rfl (Nat.le_of_ble_eq_true rfl) d_Rd_take_24 (fun H locs hP hD hS => ?_)
    have hP : va_P D classes (Wc ty h (sF σ 20 3 ((σ.1 20 3) + 1)) px) H := hP
    have hD : va_D A (Wc ty h (sF σ 20 3 ((σ.1 20 3) + 1)) px) := hD
    exact B27 _ _ _  (sF σ 20 3 ((σ.1 20 3) + 1)) hv hk (lv_sub hl [] rfl) hP hD hS
  · have hv := hv.trans (if_neg hc)
    have hk := hk.2 hc
    refine lv_iconst (v := 0) hx hb d_Rd_take_15 (by decide) ?_
    exact W.zret hx hb hr rfl (fun t ht hW => ⟨⟨_, _, rfl, hv.symm, by dsimp only; rw [ht]; exact hP⟩, hS.F ht⟩) hS.2.2 d_Rd_take_16

-- ClauseLedger$Signature.isSymbol(I)Z
abbrev b_Sg_isSymbol : ByteArray := prog_8_method_5_code
def y_Sg_isSymbol : MethodName := ⟨"ClauseLedger$Signature", "isSymbol", "(I)Z"⟩
theorem hd_Sg_isSymbol : y_Sg_isSymbol.cls ≠ "java/lang/invoke/MethodHandle" ∧ y_Sg_isSymbol.cls ≠ "java/lang/invoke/VarHandle" ∧ (parseMethodDescriptor y_Sg_isSymbol.desc).map (fun d => d.parameters.length) = some 1 := by decide +kernel
theorem d_Sg_isSymbol_0 : decode b_Sg_isSymbol 0 = .ok (.iload_n 1, 1) := by decide +kernel
theorem d_Sg_isSymbol_1 : decode b_Sg_isSymbol 1 = .ok (.ifCond .lt 15, 3) := by decide +kernel
theorem d_Sg_isSymbol_4 : decode b_Sg_isSymbol 4 = .ok (.iload_n 1, 1) := by decide +kernel
theorem d_Sg_isSymbol_5 : decode b_Sg_isSymbol 5 = .ok (.aload_n 0, 1) := by decide +kernel
theorem d_Sg_isSymbol_6 : decode b_Sg_isSymbol 6 = .ok (.getfield 28, 3) := by decide +kernel
theorem d_Sg_isSymbol_9 : decode b_Sg_isSymbol 9 = .ok (.if_icmp .ge 7, 3) := by decide +kernel
theorem d_Sg_isSymbol_12 : decode b_Sg_isSymbol 12 = .ok (.iconst 1, 1) := by decide +kernel
theorem d_Sg_isSymbol_13 : decode b_Sg_isSymbol 13 = .ok (.goto 4, 3) := by decide +kernel
theorem d_Sg_isSymbol_16 : decode b_Sg_isSymbol 16 = .ok (.iconst 0, 1) := by decide +kernel
theorem d_Sg_isSymbol_17 : decode b_Sg_isSymbol 17 = .ok (.ireturn, 1) := by decide +kernel
def f_Sg_isSymbol_17 (s0 : Int32) (σ : St) : Int32 := s0
def k_Sg_isSymbol_17 (s0 : Int32) (σ : St) : Prop := (narrow .boolean (.int s0) = .int s0) ∧ True
def f_Sg_isSymbol_16 (σ : St) : Int32 := f_Sg_isSymbol_17 0 σ
def k_Sg_isSymbol_16 (σ : St) : Prop := k_Sg_isSymbol_17 0 σ
def f_Sg_isSymbol (a1 : Int32) (σ : St) : Int32 := if a1 < 0 then (f_Sg_isSymbol_16 σ) else (if (σ.1 1 5) ≤ a1 then (f_Sg_isSymbol_16 σ) else (f_Sg_isSymbol_17 1 σ))
def k_Sg_isSymbol (a1 : Int32) (σ : St) : Prop := (a1 < 0 → (k_Sg_isSymbol_16 σ)) ∧ (¬ a1 < 0 → (((σ.1 1 5) ≤ a1 → (k_Sg_isSymbol_16 σ)) ∧ (¬ (σ.1 1 5) ≤ a1 → (k_Sg_isSymbol_17 1 σ))))
abbrev w_Sg_isSymbol : List Cond := Cond.code y_Sg_isSymbol b_Sg_isSymbol 2 (some .boolean) :: gw
abbrev rm_Sg_isSymbol : Room := { frames := 0, cells := 0, slots := 0, locals := 0 }
set_option maxHeartbeats 4000000 in
set_option maxRecDepth 100000 in
theorem c_Sg_isSymbol (l : Launch) (D : va_G) (ty : Nat → ClassId) (h : Nat → Nat) (px : va_W) (sa : Nat → Nat) (σ : St) (a1 : Int32) (hk : k_Sg_isSymbol a1 σ) : Met l y_Sg_isSymbol w_Sg_isSymbol rm_Sg_isSymbol (va_Pc [.ref (h 1), .int a1] (fun U => va_P D classes (Wc ty h σ px) U.heap ∧ va_K D classes (Ta ty) U ∧ NW U ∧ MK sa (fun _ => False) U U.heap)) (k2_QcV (.int (f_Sg_isSymbol a1 σ))) 0 0 (fun _ => False) := by
  refine Met.ofW (cc := b_Sg_isSymbol) (maxL := 2) (ret := (some .boolean)) (by decide) rfl ?_
  intro p e s m args below meth c s₁ B hml hv
  obtain ⟨ha, hP, hK, hN, hM⟩ := hv
  have hx := B.exec
  have hb := B.bytes
  have hr := B.returns
  have hg : ∀ w ∈ gw, w.before args s = true := fun w h9 => atoms_spec (ws := w_Sg_isSymbol) B.pre w (List.mem_cons_of_mem _ h9)
  have hown : s.vm.findClass "ClauseLedger$Signature" = some m.cls := findClass_of_methodNamed B.named
  have hlocks := B.notSynchronized
  have he : entryFrame m args 2 = entryFrame m ([.ref (h 1), .int a1] : List Value).toArray 2 := by rw [ha]
  rw [he, lg_entry_eq]
  have hl := lv_entry ([.ref (h 1), .int a1]) (n := 2) (Nat.le_of_ble_eq_true rfl)
  generalize (lg_sl ([.ref (h 1), .int a1]) ++ List.replicate (2 - (lg_sl ([.ref (h 1), .int a1])).length) Slot.unset).toArray = ls at hl ⊢
  have hl : lv_has ls 2 [(0, .ref (h 1)), (1, .int a1)] := hl
  generalize hv : f_Sg_isSymbol a1 σ = v
  replace hv := hv.symm
  have B17 : ∀ (ls : Array Slot) (s0 : Int32), v = f_Sg_isSymbol_17 s0 σ → k_Sg_isSymbol_17 s0 σ → lv_has ls 2 [] → W p l e (headSpec w_Sg_isSymbol rm_Sg_isSymbol).room s m args below meth c s.heap [] 0 0 (MQ below (k2_QcV (.int v)) args s 0 0 (fun _ => False)) (F0 m 17 ls [.int s0]) := by
    intro ls s0 hv hk hl
    unfold f_Sg_isSymbol_17 at hv
    unfold k_Sg_isSymbol_17 at hk
    obtain ⟨hk0, hk⟩ := hk
    exact W.zret hx hb hr hk0 (fun t ht hW => ⟨by rw [hv], ht⟩) (fun q h => nomatch h) d_Sg_isSymbol_17
  have B16 : ∀ (ls : Array Slot), v = f_Sg_isSymbol_16 σ → k_Sg_isSymbol_16 σ → lv_has ls 2 [] → W p l e (headSpec w_Sg_isSymbol rm_Sg_isSymbol).room s m args below meth c s.heap [] 0 0 (MQ below (k2_QcV (.int v)) args s 0 0 (fun _ => False)) (F0 m 16 ls []) := by
    intro ls hv hk hl
    unfold f_Sg_isSymbol_16 at hv
    unfold k_Sg_isSymbol_16 at hk
    refine lv_iconst (v := 0) hx hb d_Sg_isSymbol_16 (by decide) ?_
    exact B17 _ 0 hv hk (lv_sub hl [] rfl)
  unfold f_Sg_isSymbol at hv
  unfold k_Sg_isSymbol at hk
  refine lv_iload_n hx hb d_Sg_isSymbol_0 rfl (lv_at hl 1 rfl) ?_
  refine lv_if_lt (tgt := 16) hx hb d_Sg_isSymbol_1 (by decide) (fun hc => ?_) (fun hc => ?_)
  · have hv := hv.trans (if_pos hc)
    have hk := hk.1 hc
    exact B16 _  hv hk (lv_sub hl [] rfl)
  · have hv := hv.trans (if_neg hc)
    have hk := hk.2 hc
    refine lv_iload_n hx hb d_Sg_isSymbol_4 rfl (lv_at hl 1 rfl) ?_
    refine lv_aload_n hx hb d_Sg_isSymbol_5 rfl (lv_at hl 0 rfl) ?_
    refine va_get (v := .int (σ.1 1 5)) (C := R_Sg) (T := T_Sg) (N := 6) hx hb hg in_Sg hown hK hP 1 rfl rfl 5 (by decide) (hg _ m_48) (fun _ h9 => h9) rfl d_Sg_isSymbol_6 ?_
    refine lv_icmp_ge (tgt := 16) hx hb d_Sg_isSymbol_9 (by decide) (fun hc => ?_) (fun hc => ?_)
    · have hv := hv.trans (if_pos hc)
      have hk := hk.1 hc
      exact B16 _  hv hk (lv_sub hl [] rfl)
    · have hv := hv.trans (if_neg hc)
      have hk := hk.2 hc
      refine lv_iconst (v := 1) hx hb d_Sg_isSymbol_12 (by decide) ?_
      refine lv_goto (tgt := 17) hx hb d_Sg_isSymbol_13 (by decide) ?_
      exact B17 _ 1 hv hk (lv_sub hl [] rfl)

-- ClauseLedger$Signature.firstOfSymbol(I)I
abbrev b_Sg_firstOfSymbol : ByteArray := prog_8_method_8_code
def y_Sg_firstOfSymbol : MethodName := ⟨"ClauseLedger$Signature", "firstOfSymbol", "(I)I"⟩
theorem hd_Sg_firstOfSymbol : y_Sg_firstOfSymbol.cls ≠ "java/lang/invoke/MethodHandle" ∧ y_Sg_firstOfSymbol.cls ≠ "java/lang/invoke/VarHandle" ∧ (parseMethodDescriptor y_Sg_firstOfSymbol.desc).map (fun d => d.parameters.length) = some 1 := by decide +kernel
theorem d_Sg_firstOfSymbol_0 : decode b_Sg_firstOfSymbol 0 = .ok (.aload_n 0, 1) := by decide +kernel
theorem d_Sg_firstOfSymbol_1 : decode b_Sg_firstOfSymbol 1 = .ok (.iload_n 1, 1) := by decide +kernel
theorem d_Sg_firstOfSymbol_2 : decode b_Sg_firstOfSymbol 2 = .ok (.invokevirtual 41, 3) := by decide +kernel
theorem d_Sg_firstOfSymbol_5 : decode b_Sg_firstOfSymbol 5 = .ok (.ifCond .eq 12, 3) := by decide +kernel
theorem d_Sg_firstOfSymbol_8 : decode b_Sg_firstOfSymbol 8 = .ok (.aload_n 0, 1) := by decide +kernel
theorem d_Sg_firstOfSymbol_9 : decode b_Sg_firstOfSymbol 9 = .ok (.getfield 15, 3) := by decide +kernel
theorem d_Sg_firstOfSymbol_12 : decode b_Sg_firstOfSymbol 12 = .ok (.iload_n 1, 1) := by decide +kernel
theorem d_Sg_firstOfSymbol_13 : decode b_Sg_firstOfSymbol 13 = .ok (.iaload, 1) := by decide +kernel
theorem d_Sg_firstOfSymbol_14 : decode b_Sg_firstOfSymbol 14 = .ok (.goto 4, 3) := by decide +kernel
theorem d_Sg_firstOfSymbol_17 : decode b_Sg_firstOfSymbol 17 = .ok (.iconst (-1), 1) := by decide +kernel
theorem d_Sg_firstOfSymbol_18 : decode b_Sg_firstOfSymbol 18 = .ok (.ireturn, 1) := by decide +kernel
def f_Sg_firstOfSymbol_18 (s0 : Int32) (σ : St) : Int32 := s0
def k_Sg_firstOfSymbol_18 (s0 : Int32) (σ : St) : Prop := True
def f_Sg_firstOfSymbol (a1 : Int32) (σ : St) : Int32 := if (f_Sg_isSymbol a1 σ) = 0 then (f_Sg_firstOfSymbol_18 (-1) σ) else (f_Sg_firstOfSymbol_18 (σ.1 3 a1.toNatClampNeg) σ)
def k_Sg_firstOfSymbol (a1 : Int32) (σ : St) : Prop := (k_Sg_isSymbol a1 σ) ∧ (((f_Sg_isSymbol a1 σ) = 0 → (k_Sg_firstOfSymbol_18 (-1) σ)) ∧ (¬ (f_Sg_isSymbol a1 σ) = 0 → (vp_in a1 12 ∧ (k_Sg_firstOfSymbol_18 (σ.1 3 a1.toNatClampNeg) σ))))
abbrev w_Sg_firstOfSymbol : List Cond := Cond.code y_Sg_firstOfSymbol b_Sg_firstOfSymbol 2 (some .int) :: gw
abbrev rm_Sg_firstOfSymbol : Room := { frames := 1, cells := 0, slots := 0, locals := 21 }
set_option maxHeartbeats 4000000 in
set_option maxRecDepth 100000 in
theorem c_Sg_firstOfSymbol (l : Launch) (D : va_G) (ty : Nat → ClassId) (h : Nat → Nat) (px : va_W) (sa : Nat → Nat) (σ : St) (a1 : Int32) (hk : k_Sg_firstOfSymbol a1 σ) : Met l y_Sg_firstOfSymbol w_Sg_firstOfSymbol rm_Sg_firstOfSymbol (va_Pc [.ref (h 1), .int a1] (fun U => va_P D classes (Wc ty h σ px) U.heap ∧ va_K D classes (Ta ty) U ∧ NW U ∧ MK sa (fun _ => False) U U.heap)) (k2_QcV (.int (f_Sg_firstOfSymbol a1 σ))) 0 0 (fun _ => False) := by
  refine Met.ofW (cc := b_Sg_firstOfSymbol) (maxL := 2) (ret := (some .int)) (by decide) rfl ?_
  intro p e s m args below meth c s₁ B hml hv
  obtain ⟨ha, hP, hK, hN, hM⟩ := hv
  have hx := B.exec
  have hb := B.bytes
  have hr := B.returns
  have hg : ∀ w ∈ gw, w.before args s = true := fun w h9 => atoms_spec (ws := w_Sg_firstOfSymbol) B.pre w (List.mem_cons_of_mem _ h9)
  have hown : s.vm.findClass "ClauseLedger$Signature" = some m.cls := findClass_of_methodNamed B.named
  have hlocks := B.notSynchronized
  have he : entryFrame m args 2 = entryFrame m ([.ref (h 1), .int a1] : List Value).toArray 2 := by rw [ha]
  rw [he, lg_entry_eq]
  have hl := lv_entry ([.ref (h 1), .int a1]) (n := 2) (Nat.le_of_ble_eq_true rfl)
  generalize (lg_sl ([.ref (h 1), .int a1]) ++ List.replicate (2 - (lg_sl ([.ref (h 1), .int a1])).length) Slot.unset).toArray = ls at hl ⊢
  have hl : lv_has ls 2 [(0, .ref (h 1)), (1, .int a1)] := hl
  generalize hv : f_Sg_firstOfSymbol a1 σ = v
  replace hv := hv.symm
  have B18 : ∀ (ls : Array Slot) (s0 : Int32), v = f_Sg_firstOfSymbol_18 s0 σ → k_Sg_firstOfSymbol_18 s0 σ → lv_has ls 2 [] → W p l e (headSpec w_Sg_firstOfSymbol rm_Sg_firstOfSymbol).room s m args below meth c s.heap [] 0 0 (MQ below (k2_QcV (.int v)) args s 0 0 (fun _ => False)) (F0 m 18 ls [.int s0]) := by
    intro ls s0 hv hk hl
    unfold f_Sg_firstOfSymbol_18 at hv
    unfold k_Sg_firstOfSymbol_18 at hk
    exact W.iret hx hb hr (fun t ht hW => ⟨by rw [hv], ht⟩) (fun q h => nomatch h) d_Sg_firstOfSymbol_18
  unfold f_Sg_firstOfSymbol at hv
  unfold k_Sg_firstOfSymbol at hk
  refine lv_aload_n hx hb d_Sg_firstOfSymbol_0 rfl (lv_at hl 0 rfl) ?_
  refine lv_iload_n hx hb d_Sg_firstOfSymbol_1 rfl (lv_at hl 1 rfl) ?_
  obtain ⟨hk0, hk⟩ := hk
  refine zz_callV (va_runV (As := [.int a1]) (rest := []) ⟨hx, hb, hml, hown, hg⟩ (c_Sg_isSymbol l D ty h px sa σ a1 hk0) ⟨callB_of 1 hg (gw_C m_599) rfl rfl rfl (hg _ m_2) (hg _ m_596) hd_Sg_isSymbol ⟨Nat.le_of_ble_eq_true rfl, Nat.le_of_ble_eq_true rfl⟩, hg _ m_597, hg _ m_598⟩ (zz_preV hM hN hK hP 1 rfl rfl) rfl rfl hl.1 rfl (lv_room (Nat.le_of_ble_eq_true rfl)) d_Sg_firstOfSymbol_2 ⟨Nat.le_of_ble_eq_true rfl, Nat.le_of_ble_eq_true rfl⟩) ?_
  refine lv_if_eq (tgt := 17) hx hb d_Sg_firstOfSymbol_5 (by decide) (fun hc => ?_) (fun hc => ?_)
  · have hv := hv.trans (if_pos hc)
    have hk := hk.1 hc
    refine lv_iconst (v := -1) hx hb d_Sg_firstOfSymbol_17 (by decide) ?_
    exact B18 _ (-1) hv hk (lv_sub hl [] rfl)
  · have hv := hv.trans (if_neg hc)
    have hk := hk.2 hc
    refine lv_aload_n hx hb d_Sg_firstOfSymbol_8 rfl (lv_at hl 0 rfl) ?_
    refine va_get (v := .ref (h 3)) (C := R_Sg) (T := T_Sg) (N := 6) hx hb hg in_Sg hown hK hP 1 rfl rfl 1 (by decide) (hg _ m_44) (fun _ h9 => h9) rfl d_Sg_firstOfSymbol_9 ?_
    refine lv_iload_n hx hb d_Sg_firstOfSymbol_12 rfl (lv_at hl 1 rfl) ?_
    obtain ⟨hk0, hk⟩ := hk
    refine va_iald hx hb hK hP 3 0 rfl rfl hk0 d_Sg_firstOfSymbol_13 ?_
    refine lv_goto (tgt := 18) hx hb d_Sg_firstOfSymbol_14 (by decide) ?_
    exact B18 _ (σ.1 3 a1.toNatClampNeg) hv hk (lv_sub hl [] rfl)

-- ClauseLedger$Signature.secondOfSymbol(I)I
abbrev b_Sg_secondOfSymbol : ByteArray := prog_8_method_9_code
def y_Sg_secondOfSymbol : MethodName := ⟨"ClauseLedger$Signature", "secondOfSymbol", "(I)I"⟩
theorem hd_Sg_secondOfSymbol : y_Sg_secondOfSymbol.cls ≠ "java/lang/invoke/MethodHandle" ∧ y_Sg_secondOfSymbol.cls ≠ "java/lang/invoke/VarHandle" ∧ (parseMethodDescriptor y_Sg_secondOfSymbol.desc).map (fun d => d.parameters.length) = some 1 := by decide +kernel
theorem d_Sg_secondOfSymbol_0 : decode b_Sg_secondOfSymbol 0 = .ok (.aload_n 0, 1) := by decide +kernel
theorem d_Sg_secondOfSymbol_1 : decode b_Sg_secondOfSymbol 1 = .ok (.iload_n 1, 1) := by decide +kernel
theorem d_Sg_secondOfSymbol_2 : decode b_Sg_secondOfSymbol 2 = .ok (.invokevirtual 41, 3) := by decide +kernel
theorem d_Sg_secondOfSymbol_5 : decode b_Sg_secondOfSymbol 5 = .ok (.ifCond .eq 12, 3) := by decide +kernel
theorem d_Sg_secondOfSymbol_8 : decode b_Sg_secondOfSymbol 8 = .ok (.aload_n 0, 1) := by decide +kernel
theorem d_Sg_secondOfSymbol_9 : decode b_Sg_secondOfSymbol 9 = .ok (.getfield 18, 3) := by decide +kernel
theorem d_Sg_secondOfSymbol_12 : decode b_Sg_secondOfSymbol 12 = .ok (.iload_n 1, 1) := by decide +kernel
theorem d_Sg_secondOfSymbol_13 : decode b_Sg_secondOfSymbol 13 = .ok (.iaload, 1) := by decide +kernel
theorem d_Sg_secondOfSymbol_14 : decode b_Sg_secondOfSymbol 14 = .ok (.goto 4, 3) := by decide +kernel
theorem d_Sg_secondOfSymbol_17 : decode b_Sg_secondOfSymbol 17 = .ok (.iconst (-1), 1) := by decide +kernel
theorem d_Sg_secondOfSymbol_18 : decode b_Sg_secondOfSymbol 18 = .ok (.ireturn, 1) := by decide +kernel
def f_Sg_secondOfSymbol_18 (s0 : Int32) (σ : St) : Int32 := s0
def k_Sg_secondOfSymbol_18 (s0 : Int32) (σ : St) : Prop := True
def f_Sg_secondOfSymbol (a1 : Int32) (σ : St) : Int32 := if (f_Sg_isSymbol a1 σ) = 0 then (f_Sg_secondOfSymbol_18 (-1) σ) else (f_Sg_secondOfSymbol_18 (σ.1 4 a1.toNatClampNeg) σ)
def k_Sg_secondOfSymbol (a1 : Int32) (σ : St) : Prop := (k_Sg_isSymbol a1 σ) ∧ (((f_Sg_isSymbol a1 σ) = 0 → (k_Sg_secondOfSymbol_18 (-1) σ)) ∧ (¬ (f_Sg_isSymbol a1 σ) = 0 → (vp_in a1 12 ∧ (k_Sg_secondOfSymbol_18 (σ.1 4 a1.toNatClampNeg) σ))))
abbrev w_Sg_secondOfSymbol : List Cond := Cond.code y_Sg_secondOfSymbol b_Sg_secondOfSymbol 2 (some .int) :: gw
abbrev rm_Sg_secondOfSymbol : Room := { frames := 1, cells := 0, slots := 0, locals := 21 }
set_option maxHeartbeats 4000000 in
set_option maxRecDepth 100000 in
theorem c_Sg_secondOfSymbol (l : Launch) (D : va_G) (ty : Nat → ClassId) (h : Nat → Nat) (px : va_W) (sa : Nat → Nat) (σ : St) (a1 : Int32) (hk : k_Sg_secondOfSymbol a1 σ) : Met l y_Sg_secondOfSymbol w_Sg_secondOfSymbol rm_Sg_secondOfSymbol (va_Pc [.ref (h 1), .int a1] (fun U => va_P D classes (Wc ty h σ px) U.heap ∧ va_K D classes (Ta ty) U ∧ NW U ∧ MK sa (fun _ => False) U U.heap)) (k2_QcV (.int (f_Sg_secondOfSymbol a1 σ))) 0 0 (fun _ => False) := by
  refine Met.ofW (cc := b_Sg_secondOfSymbol) (maxL := 2) (ret := (some .int)) (by decide) rfl ?_
  intro p e s m args below meth c s₁ B hml hv
  obtain ⟨ha, hP, hK, hN, hM⟩ := hv
  have hx := B.exec
  have hb := B.bytes
  have hr := B.returns
  have hg : ∀ w ∈ gw, w.before args s = true := fun w h9 => atoms_spec (ws := w_Sg_secondOfSymbol) B.pre w (List.mem_cons_of_mem _ h9)
  have hown : s.vm.findClass "ClauseLedger$Signature" = some m.cls := findClass_of_methodNamed B.named
  have hlocks := B.notSynchronized
  have he : entryFrame m args 2 = entryFrame m ([.ref (h 1), .int a1] : List Value).toArray 2 := by rw [ha]
  rw [he, lg_entry_eq]
  have hl := lv_entry ([.ref (h 1), .int a1]) (n := 2) (Nat.le_of_ble_eq_true rfl)
  generalize (lg_sl ([.ref (h 1), .int a1]) ++ List.replicate (2 - (lg_sl ([.ref (h 1), .int a1])).length) Slot.unset).toArray = ls at hl ⊢
  have hl : lv_has ls 2 [(0, .ref (h 1)), (1, .int a1)] := hl
  generalize hv : f_Sg_secondOfSymbol a1 σ = v
  replace hv := hv.symm
  have B18 : ∀ (ls : Array Slot) (s0 : Int32), v = f_Sg_secondOfSymbol_18 s0 σ → k_Sg_secondOfSymbol_18 s0 σ → lv_has ls 2 [] → W p l e (headSpec w_Sg_secondOfSymbol rm_Sg_secondOfSymbol).room s m args below meth c s.heap [] 0 0 (MQ below (k2_QcV (.int v)) args s 0 0 (fun _ => False)) (F0 m 18 ls [.int s0]) := by
    intro ls s0 hv hk hl
    unfold f_Sg_secondOfSymbol_18 at hv
    unfold k_Sg_secondOfSymbol_18 at hk
    exact W.iret hx hb hr (fun t ht hW => ⟨by rw [hv], ht⟩) (fun q h => nomatch h) d_Sg_secondOfSymbol_18
  unfold f_Sg_secondOfSymbol at hv
  unfold k_Sg_secondOfSymbol at hk
  refine lv_aload_n hx hb d_Sg_secondOfSymbol_0 rfl (lv_at hl 0 rfl) ?_
  refine lv_iload_n hx hb d_Sg_secondOfSymbol_1 rfl (lv_at hl 1 rfl) ?_
  obtain ⟨hk0, hk⟩ := hk
  refine zz_callV (va_runV (As := [.int a1]) (rest := []) ⟨hx, hb, hml, hown, hg⟩ (c_Sg_isSymbol l D ty h px sa σ a1 hk0) ⟨callB_of 1 hg (gw_C m_599) rfl rfl rfl (hg _ m_2) (hg _ m_596) hd_Sg_isSymbol ⟨Nat.le_of_ble_eq_true rfl, Nat.le_of_ble_eq_true rfl⟩, hg _ m_597, hg _ m_598⟩ (zz_preV hM hN hK hP 1 rfl rfl) rfl rfl hl.1 rfl (lv_room (Nat.le_of_ble_eq_true rfl)) d_Sg_secondOfSymbol_2 ⟨Nat.le_of_ble_eq_true rfl, Nat.le_of_ble_eq_true rfl⟩) ?_
  refine lv_if_eq (tgt := 17) hx hb d_Sg_secondOfSymbol_5 (by decide) (fun hc => ?_) (fun hc => ?_)
  · have hv := hv.trans (if_pos hc)
    have hk := hk.1 hc
    refine lv_iconst (v := -1) hx hb d_Sg_secondOfSymbol_17 (by decide) ?_
    exact B18 _ (-1) hv hk (lv_sub hl [] rfl)
  · have hv := hv.trans (if_neg hc)
    have hk := hk.2 hc
    refine lv_aload_n hx hb d_Sg_secondOfSymbol_8 rfl (lv_at hl 0 rfl) ?_
    refine va_get (v := .ref (h 4)) (C := R_Sg) (T := T_Sg) (N := 6) hx hb hg in_Sg hown hK hP 1 rfl rfl 2 (by decide) (hg _ m_45) (fun _ h9 => h9) rfl d_Sg_secondOfSymbol_9 ?_
    refine lv_iload_n hx hb d_Sg_secondOfSymbol_12 rfl (lv_at hl 1 rfl) ?_
    obtain ⟨hk0, hk⟩ := hk
    refine va_iald hx hb hK hP 4 0 rfl rfl hk0 d_Sg_secondOfSymbol_13 ?_
    refine lv_goto (tgt := 18) hx hb d_Sg_secondOfSymbol_14 (by decide) ?_
    exact B18 _ (σ.1 4 a1.toNatClampNeg) hv hk (lv_sub hl [] rfl)

-- ClauseLedger$Terms.has(I)Z
abbrev b_Te_has : ByteArray := prog_11_method_3_code
def y_Te_has : MethodName := ⟨"ClauseLedger$Terms", "has", "(I)Z"⟩
theorem hd_Te_has : y_Te_has.cls ≠ "java/lang/invoke/MethodHandle" ∧ y_Te_has.cls ≠ "java/lang/invoke/VarHandle" ∧ (parseMethodDescriptor y_Te_has.desc).map (fun d => d.parameters.length) = some 1 := by decide +kernel
theorem d_Te_has_0 : decode b_Te_has 0 = .ok (.iload_n 1, 1) := by decide +kernel
theorem d_Te_has_1 : decode b_Te_has 1 = .ok (.ifCond .lt 15, 3) := by decide +kernel
theorem d_Te_has_4 : decode b_Te_has 4 = .ok (.iload_n 1, 1) := by decide +kernel
theorem d_Te_has_5 : decode b_Te_has 5 = .ok (.aload_n 0, 1) := by decide +kernel
theorem d_Te_has_6 : decode b_Te_has 6 = .ok (.getfield 46, 3) := by decide +kernel
theorem d_Te_has_9 : decode b_Te_has 9 = .ok (.if_icmp .ge 7, 3) := by decide +kernel
theorem d_Te_has_12 : decode b_Te_has 12 = .ok (.iconst 1, 1) := by decide +kernel
theorem d_Te_has_13 : decode b_Te_has 13 = .ok (.goto 4, 3) := by decide +kernel
theorem d_Te_has_16 : decode b_Te_has 16 = .ok (.iconst 0, 1) := by decide +kernel
theorem d_Te_has_17 : decode b_Te_has 17 = .ok (.ireturn, 1) := by decide +kernel
def f_Te_has_17 (s0 : Int32) (σ : St) : Int32 := s0
def k_Te_has_17 (s0 : Int32) (σ : St) : Prop := (narrow .boolean (.int s0) = .int s0) ∧ True
def f_Te_has_16 (σ : St) : Int32 := f_Te_has_17 0 σ
def k_Te_has_16 (σ : St) : Prop := k_Te_has_17 0 σ
def f_Te_has (a1 : Int32) (σ : St) : Int32 := if a1 < 0 then (f_Te_has_16 σ) else (if (σ.1 6 11) ≤ a1 then (f_Te_has_16 σ) else (f_Te_has_17 1 σ))
def k_Te_has (a1 : Int32) (σ : St) : Prop := (a1 < 0 → (k_Te_has_16 σ)) ∧ (¬ a1 < 0 → (((σ.1 6 11) ≤ a1 → (k_Te_has_16 σ)) ∧ (¬ (σ.1 6 11) ≤ a1 → (k_Te_has_17 1 σ))))
abbrev w_Te_has : List Cond := Cond.code y_Te_has b_Te_has 2 (some .boolean) :: gw
abbrev rm_Te_has : Room := { frames := 0, cells := 0, slots := 0, locals := 0 }
set_option maxHeartbeats 4000000 in
set_option maxRecDepth 100000 in
theorem c_Te_has (l : Launch) (D : va_G) (ty : Nat → ClassId) (h : Nat → Nat) (px : va_W) (sa : Nat → Nat) (σ : St) (a1 : Int32) (hk : k_Te_has a1 σ) : Met l y_Te_has w_Te_has rm_Te_has (va_Pc [.ref (h 6), .int a1] (fun U => va_P D classes (Wc ty h σ px) U.heap ∧ va_K D classes (Ta ty) U ∧ NW U ∧ MK sa (fun _ => False) U U.heap)) (k2_QcV (.int (f_Te_has a1 σ))) 0 0 (fun _ => False) := by
  refine Met.ofW (cc := b_Te_has) (maxL := 2) (ret := (some .boolean)) (by decide) rfl ?_
  intro p e s m args below meth c s₁ B hml hv
  obtain ⟨ha, hP, hK, hN, hM⟩ := hv
  have hx := B.exec
  have hb := B.bytes
  have hr := B.returns
  have hg : ∀ w ∈ gw, w.before args s = true := fun w h9 => atoms_spec (ws := w_Te_has) B.pre w (List.mem_cons_of_mem _ h9)
  have hown : s.vm.findClass "ClauseLedger$Terms" = some m.cls := findClass_of_methodNamed B.named
  have hlocks := B.notSynchronized
  have he : entryFrame m args 2 = entryFrame m ([.ref (h 6), .int a1] : List Value).toArray 2 := by rw [ha]
  rw [he, lg_entry_eq]
  have hl := lv_entry ([.ref (h 6), .int a1]) (n := 2) (Nat.le_of_ble_eq_true rfl)
  generalize (lg_sl ([.ref (h 6), .int a1]) ++ List.replicate (2 - (lg_sl ([.ref (h 6), .int a1])).length) Slot.unset).toArray = ls at hl ⊢
  have hl : lv_has ls 2 [(0, .ref (h 6)), (1, .int a1)] := hl
  generalize hv : f_Te_has a1 σ = v
  replace hv := hv.symm
  have B17 : ∀ (ls : Array Slot) (s0 : Int32), v = f_Te_has_17 s0 σ → k_Te_has_17 s0 σ → lv_has ls 2 [] → W p l e (headSpec w_Te_has rm_Te_has).room s m args below meth c s.heap [] 0 0 (MQ below (k2_QcV (.int v)) args s 0 0 (fun _ => False)) (F0 m 17 ls [.int s0]) := by
    intro ls s0 hv hk hl
    unfold f_Te_has_17 at hv
    unfold k_Te_has_17 at hk
    obtain ⟨hk0, hk⟩ := hk
    exact W.zret hx hb hr hk0 (fun t ht hW => ⟨by rw [hv], ht⟩) (fun q h => nomatch h) d_Te_has_17
  have B16 : ∀ (ls : Array Slot), v = f_Te_has_16 σ → k_Te_has_16 σ → lv_has ls 2 [] → W p l e (headSpec w_Te_has rm_Te_has).room s m args below meth c s.heap [] 0 0 (MQ below (k2_QcV (.int v)) args s 0 0 (fun _ => False)) (F0 m 16 ls []) := by
    intro ls hv hk hl
    unfold f_Te_has_16 at hv
    unfold k_Te_has_16 at hk
    refine lv_iconst (v := 0) hx hb d_Te_has_16 (by decide) ?_
    exact B17 _ 0 hv hk (lv_sub hl [] rfl)
  unfold f_Te_has at hv
  unfold k_Te_has at hk
  refine lv_iload_n hx hb d_Te_has_0 rfl (lv_at hl 1 rfl) ?_
  refine lv_if_lt (tgt := 16) hx hb d_Te_has_1 (by decide) (fun hc => ?_) (fun hc => ?_)
  · have hv := hv.trans (if_pos hc)
    have hk := hk.1 hc
    exact B16 _  hv hk (lv_sub hl [] rfl)
  · have hv := hv.trans (if_neg hc)
    have hk := hk.2 hc
    refine lv_iload_n hx hb d_Te_has_4 rfl (lv_at hl 1 rfl) ?_
    refine lv_aload_n hx hb d_Te_has_5 rfl (lv_at hl 0 rfl) ?_
    refine va_get (v := .int (σ.1 6 11)) (C := R_Te) (T := T_Te) (N := 14) hx hb hg in_Te hown hK hP 6 rfl rfl 11 (by decide) (hg _ m_80) (fun _ h9 => h9) rfl d_Te_has_6 ?_
    refine lv_icmp_ge (tgt := 16) hx hb d_Te_has_9 (by decide) (fun hc => ?_) (fun hc => ?_)
    · have hv := hv.trans (if_pos hc)
      have hk := hk.1 hc
      exact B16 _  hv hk (lv_sub hl [] rfl)
    · have hv := hv.trans (if_neg hc)
      have hk := hk.2 hc
      refine lv_iconst (v := 1) hx hb d_Te_has_12 (by decide) ?_
      refine lv_goto (tgt := 17) hx hb d_Te_has_13 (by decide) ?_
      exact B17 _ 1 hv hk (lv_sub hl [] rfl)

-- ClauseLedger$Terms.sortOf(I)I
abbrev b_Te_sortOf : ByteArray := prog_11_method_5_code
def y_Te_sortOf : MethodName := ⟨"ClauseLedger$Terms", "sortOf", "(I)I"⟩
theorem hd_Te_sortOf : y_Te_sortOf.cls ≠ "java/lang/invoke/MethodHandle" ∧ y_Te_sortOf.cls ≠ "java/lang/invoke/VarHandle" ∧ (parseMethodDescriptor y_Te_sortOf.desc).map (fun d => d.parameters.length) = some 1 := by decide +kernel
theorem d_Te_sortOf_0 : decode b_Te_sortOf 0 = .ok (.aload_n 0, 1) := by decide +kernel
theorem d_Te_sortOf_1 : decode b_Te_sortOf 1 = .ok (.iload_n 1, 1) := by decide +kernel
theorem d_Te_sortOf_2 : decode b_Te_sortOf 2 = .ok (.invokevirtual 57, 3) := by decide +kernel
theorem d_Te_sortOf_5 : decode b_Te_sortOf 5 = .ok (.ifCond .eq 12, 3) := by decide +kernel
theorem d_Te_sortOf_8 : decode b_Te_sortOf 8 = .ok (.aload_n 0, 1) := by decide +kernel
theorem d_Te_sortOf_9 : decode b_Te_sortOf 9 = .ok (.getfield 15, 3) := by decide +kernel
theorem d_Te_sortOf_12 : decode b_Te_sortOf 12 = .ok (.iload_n 1, 1) := by decide +kernel
theorem d_Te_sortOf_13 : decode b_Te_sortOf 13 = .ok (.iaload, 1) := by decide +kernel
theorem d_Te_sortOf_14 : decode b_Te_sortOf 14 = .ok (.goto 4, 3) := by decide +kernel
theorem d_Te_sortOf_17 : decode b_Te_sortOf 17 = .ok (.iconst (-1), 1) := by decide +kernel
theorem d_Te_sortOf_18 : decode b_Te_sortOf 18 = .ok (.ireturn, 1) := by decide +kernel
def f_Te_sortOf_18 (s0 : Int32) (σ : St) : Int32 := s0
def k_Te_sortOf_18 (s0 : Int32) (σ : St) : Prop := True
def f_Te_sortOf (a1 : Int32) (σ : St) : Int32 := if (f_Te_has a1 σ) = 0 then (f_Te_sortOf_18 (-1) σ) else (f_Te_sortOf_18 (σ.1 8 a1.toNatClampNeg) σ)
def k_Te_sortOf (a1 : Int32) (σ : St) : Prop := (k_Te_has a1 σ) ∧ (((f_Te_has a1 σ) = 0 → (k_Te_sortOf_18 (-1) σ)) ∧ (¬ (f_Te_has a1 σ) = 0 → (vp_in a1 208 ∧ (k_Te_sortOf_18 (σ.1 8 a1.toNatClampNeg) σ))))
abbrev w_Te_sortOf : List Cond := Cond.code y_Te_sortOf b_Te_sortOf 2 (some .int) :: gw
abbrev rm_Te_sortOf : Room := { frames := 1, cells := 0, slots := 0, locals := 21 }
set_option maxHeartbeats 4000000 in
set_option maxRecDepth 100000 in
theorem c_Te_sortOf (l : Launch) (D : va_G) (ty : Nat → ClassId) (h : Nat → Nat) (px : va_W) (sa : Nat → Nat) (σ : St) (a1 : Int32) (hk : k_Te_sortOf a1 σ) : Met l y_Te_sortOf w_Te_sortOf rm_Te_sortOf (va_Pc [.ref (h 6), .int a1] (fun U => va_P D classes (Wc ty h σ px) U.heap ∧ va_K D classes (Ta ty) U ∧ NW U ∧ MK sa (fun _ => False) U U.heap)) (k2_QcV (.int (f_Te_sortOf a1 σ))) 0 0 (fun _ => False) := by
  refine Met.ofW (cc := b_Te_sortOf) (maxL := 2) (ret := (some .int)) (by decide) rfl ?_
  intro p e s m args below meth c s₁ B hml hv
  obtain ⟨ha, hP, hK, hN, hM⟩ := hv
  have hx := B.exec
  have hb := B.bytes
  have hr := B.returns
  have hg : ∀ w ∈ gw, w.before args s = true := fun w h9 => atoms_spec (ws := w_Te_sortOf) B.pre w (List.mem_cons_of_mem _ h9)
  have hown : s.vm.findClass "ClauseLedger$Terms" = some m.cls := findClass_of_methodNamed B.named
  have hlocks := B.notSynchronized
  have he : entryFrame m args 2 = entryFrame m ([.ref (h 6), .int a1] : List Value).toArray 2 := by rw [ha]
  rw [he, lg_entry_eq]
  have hl := lv_entry ([.ref (h 6), .int a1]) (n := 2) (Nat.le_of_ble_eq_true rfl)
  generalize (lg_sl ([.ref (h 6), .int a1]) ++ List.replicate (2 - (lg_sl ([.ref (h 6), .int a1])).length) Slot.unset).toArray = ls at hl ⊢
  have hl : lv_has ls 2 [(0, .ref (h 6)), (1, .int a1)] := hl
  generalize hv : f_Te_sortOf a1 σ = v
  replace hv := hv.symm
  have B18 : ∀ (ls : Array Slot) (s0 : Int32), v = f_Te_sortOf_18 s0 σ → k_Te_sortOf_18 s0 σ → lv_has ls 2 [] → W p l e (headSpec w_Te_sortOf rm_Te_sortOf).room s m args below meth c s.heap [] 0 0 (MQ below (k2_QcV (.int v)) args s 0 0 (fun _ => False)) (F0 m 18 ls [.int s0]) := by
    intro ls s0 hv hk hl
    unfold f_Te_sortOf_18 at hv
    unfold k_Te_sortOf_18 at hk
    exact W.iret hx hb hr (fun t ht hW => ⟨by rw [hv], ht⟩) (fun q h => nomatch h) d_Te_sortOf_18
  unfold f_Te_sortOf at hv
  unfold k_Te_sortOf at hk
  refine lv_aload_n hx hb d_Te_sortOf_0 rfl (lv_at hl 0 rfl) ?_
  refine lv_iload_n hx hb d_Te_sortOf_1 rfl (lv_at hl 1 rfl) ?_
  obtain ⟨hk0, hk⟩ := hk
  refine zz_callV (va_runV (As := [.int a1]) (rest := []) ⟨hx, hb, hml, hown, hg⟩ (c_Te_has l D ty h px sa σ a1 hk0) ⟨callB_of 1 hg (gw_C m_430) rfl rfl rfl (hg _ m_3) (hg _ m_435) hd_Te_has ⟨Nat.le_of_ble_eq_true rfl, Nat.le_of_ble_eq_true rfl⟩, hg _ m_428, hg _ m_429⟩ (zz_preV hM hN hK hP 6 rfl rfl) rfl rfl hl.1 rfl (lv_room (Nat.le_of_ble_eq_true rfl)) d_Te_sortOf_2 ⟨Nat.le_of_ble_eq_true rfl, Nat.le_of_ble_eq_true rfl⟩) ?_
  refine lv_if_eq (tgt := 17) hx hb d_Te_sortOf_5 (by decide) (fun hc => ?_) (fun hc => ?_)
  · have hv := hv.trans (if_pos hc)
    have hk := hk.1 hc
    refine lv_iconst (v := -1) hx hb d_Te_sortOf_17 (by decide) ?_
    exact B18 _ (-1) hv hk (lv_sub hl [] rfl)
  · have hv := hv.trans (if_neg hc)
    have hk := hk.2 hc
    refine lv_aload_n hx hb d_Te_sortOf_8 rfl (lv_at hl 0 rfl) ?_
    refine va_get (v := .ref (h 8)) (C := R_Te) (T := T_Te) (N := 14) hx hb hg in_Te hown hK hP 6 rfl rfl 1 (by decide) (hg _ m_70) (fun _ h9 => h9) rfl d_Te_sortOf_9 ?_
    refine lv_iload_n hx hb d_Te_sortOf_12 rfl (lv_at hl 1 rfl) ?_
    obtain ⟨hk0, hk⟩ := hk
    refine va_iald hx hb hK hP 8 0 rfl rfl hk0 d_Te_sortOf_13 ?_
    refine lv_goto (tgt := 18) hx hb d_Te_sortOf_14 (by decide) ?_
    exact B18 _ (σ.1 8 a1.toNatClampNeg) hv hk (lv_sub hl [] rfl)

-- ClauseLedger$Signature.sortOfSymbol(I)I
abbrev b_Sg_sortOfSymbol : ByteArray := prog_8_method_7_code
def y_Sg_sortOfSymbol : MethodName := ⟨"ClauseLedger$Signature", "sortOfSymbol", "(I)I"⟩
theorem hd_Sg_sortOfSymbol : y_Sg_sortOfSymbol.cls ≠ "java/lang/invoke/MethodHandle" ∧ y_Sg_sortOfSymbol.cls ≠ "java/lang/invoke/VarHandle" ∧ (parseMethodDescriptor y_Sg_sortOfSymbol.desc).map (fun d => d.parameters.length) = some 1 := by decide +kernel
theorem d_Sg_sortOfSymbol_0 : decode b_Sg_sortOfSymbol 0 = .ok (.aload_n 0, 1) := by decide +kernel
theorem d_Sg_sortOfSymbol_1 : decode b_Sg_sortOfSymbol 1 = .ok (.iload_n 1, 1) := by decide +kernel
theorem d_Sg_sortOfSymbol_2 : decode b_Sg_sortOfSymbol 2 = .ok (.invokevirtual 41, 3) := by decide +kernel
theorem d_Sg_sortOfSymbol_5 : decode b_Sg_sortOfSymbol 5 = .ok (.ifCond .eq 12, 3) := by decide +kernel
theorem d_Sg_sortOfSymbol_8 : decode b_Sg_sortOfSymbol 8 = .ok (.aload_n 0, 1) := by decide +kernel
theorem d_Sg_sortOfSymbol_9 : decode b_Sg_sortOfSymbol 9 = .ok (.getfield 11, 3) := by decide +kernel
theorem d_Sg_sortOfSymbol_12 : decode b_Sg_sortOfSymbol 12 = .ok (.iload_n 1, 1) := by decide +kernel
theorem d_Sg_sortOfSymbol_13 : decode b_Sg_sortOfSymbol 13 = .ok (.iaload, 1) := by decide +kernel
theorem d_Sg_sortOfSymbol_14 : decode b_Sg_sortOfSymbol 14 = .ok (.goto 4, 3) := by decide +kernel
theorem d_Sg_sortOfSymbol_17 : decode b_Sg_sortOfSymbol 17 = .ok (.iconst (-1), 1) := by decide +kernel
theorem d_Sg_sortOfSymbol_18 : decode b_Sg_sortOfSymbol 18 = .ok (.ireturn, 1) := by decide +kernel
def f_Sg_sortOfSymbol_18 (s0 : Int32) (σ : St) : Int32 := s0
def k_Sg_sortOfSymbol_18 (s0 : Int32) (σ : St) : Prop := True
def f_Sg_sortOfSymbol (a1 : Int32) (σ : St) : Int32 := if (f_Sg_isSymbol a1 σ) = 0 then (f_Sg_sortOfSymbol_18 (-1) σ) else (f_Sg_sortOfSymbol_18 (σ.1 2 a1.toNatClampNeg) σ)
def k_Sg_sortOfSymbol (a1 : Int32) (σ : St) : Prop := (k_Sg_isSymbol a1 σ) ∧ (((f_Sg_isSymbol a1 σ) = 0 → (k_Sg_sortOfSymbol_18 (-1) σ)) ∧ (¬ (f_Sg_isSymbol a1 σ) = 0 → (vp_in a1 12 ∧ (k_Sg_sortOfSymbol_18 (σ.1 2 a1.toNatClampNeg) σ))))
abbrev w_Sg_sortOfSymbol : List Cond := Cond.code y_Sg_sortOfSymbol b_Sg_sortOfSymbol 2 (some .int) :: gw
abbrev rm_Sg_sortOfSymbol : Room := { frames := 1, cells := 0, slots := 0, locals := 21 }
set_option maxHeartbeats 4000000 in
set_option maxRecDepth 100000 in
theorem c_Sg_sortOfSymbol (l : Launch) (D : va_G) (ty : Nat → ClassId) (h : Nat → Nat) (px : va_W) (sa : Nat → Nat) (σ : St) (a1 : Int32) (hk : k_Sg_sortOfSymbol a1 σ) : Met l y_Sg_sortOfSymbol w_Sg_sortOfSymbol rm_Sg_sortOfSymbol (va_Pc [.ref (h 1), .int a1] (fun U => va_P D classes (Wc ty h σ px) U.heap ∧ va_K D classes (Ta ty) U ∧ NW U ∧ MK sa (fun _ => False) U U.heap)) (k2_QcV (.int (f_Sg_sortOfSymbol a1 σ))) 0 0 (fun _ => False) := by
  refine Met.ofW (cc := b_Sg_sortOfSymbol) (maxL := 2) (ret := (some .int)) (by decide) rfl ?_
  intro p e s m args below meth c s₁ B hml hv
  obtain ⟨ha, hP, hK, hN, hM⟩ := hv
  have hx := B.exec
  have hb := B.bytes
  have hr := B.returns
  have hg : ∀ w ∈ gw, w.before args s = true := fun w h9 => atoms_spec (ws := w_Sg_sortOfSymbol) B.pre w (List.mem_cons_of_mem _ h9)
  have hown : s.vm.findClass "ClauseLedger$Signature" = some m.cls := findClass_of_methodNamed B.named
  have hlocks := B.notSynchronized
  have he : entryFrame m args 2 = entryFrame m ([.ref (h 1), .int a1] : List Value).toArray 2 := by rw [ha]
  rw [he, lg_entry_eq]
  have hl := lv_entry ([.ref (h 1), .int a1]) (n := 2) (Nat.le_of_ble_eq_true rfl)
  generalize (lg_sl ([.ref (h 1), .int a1]) ++ List.replicate (2 - (lg_sl ([.ref (h 1), .int a1])).length) Slot.unset).toArray = ls at hl ⊢
  have hl : lv_has ls 2 [(0, .ref (h 1)), (1, .int a1)] := hl
  generalize hv : f_Sg_sortOfSymbol a1 σ = v
  replace hv := hv.symm
  have B18 : ∀ (ls : Array Slot) (s0 : Int32), v = f_Sg_sortOfSymbol_18 s0 σ → k_Sg_sortOfSymbol_18 s0 σ → lv_has ls 2 [] → W p l e (headSpec w_Sg_sortOfSymbol rm_Sg_sortOfSymbol).room s m args below meth c s.heap [] 0 0 (MQ below (k2_QcV (.int v)) args s 0 0 (fun _ => False)) (F0 m 18 ls [.int s0]) := by
    intro ls s0 hv hk hl
    unfold f_Sg_sortOfSymbol_18 at hv
    unfold k_Sg_sortOfSymbol_18 at hk
    exact W.iret hx hb hr (fun t ht hW => ⟨by rw [hv], ht⟩) (fun q h => nomatch h) d_Sg_sortOfSymbol_18
  unfold f_Sg_sortOfSymbol at hv
  unfold k_Sg_sortOfSymbol at hk
  refine lv_aload_n hx hb d_Sg_sortOfSymbol_0 rfl (lv_at hl 0 rfl) ?_
  refine lv_iload_n hx hb d_Sg_sortOfSymbol_1 rfl (lv_at hl 1 rfl) ?_
  obtain ⟨hk0, hk⟩ := hk
  refine zz_callV (va_runV (As := [.int a1]) (rest := []) ⟨hx, hb, hml, hown, hg⟩ (c_Sg_isSymbol l D ty h px sa σ a1 hk0) ⟨callB_of 1 hg (gw_C m_599) rfl rfl rfl (hg _ m_2) (hg _ m_596) hd_Sg_isSymbol ⟨Nat.le_of_ble_eq_true rfl, Nat.le_of_ble_eq_true rfl⟩, hg _ m_597, hg _ m_598⟩ (zz_preV hM hN hK hP 1 rfl rfl) rfl rfl hl.1 rfl (lv_room (Nat.le_of_ble_eq_true rfl)) d_Sg_sortOfSymbol_2 ⟨Nat.le_of_ble_eq_true rfl, Nat.le_of_ble_eq_true rfl⟩) ?_
  refine lv_if_eq (tgt := 17) hx hb d_Sg_sortOfSymbol_5 (by decide) (fun hc => ?_) (fun hc => ?_)
  · have hv := hv.trans (if_pos hc)
    have hk := hk.1 hc
    refine lv_iconst (v := -1) hx hb d_Sg_sortOfSymbol_17 (by decide) ?_
    exact B18 _ (-1) hv hk (lv_sub hl [] rfl)
  · have hv := hv.trans (if_neg hc)
    have hk := hk.2 hc
    refine lv_aload_n hx hb d_Sg_sortOfSymbol_8 rfl (lv_at hl 0 rfl) ?_
    refine va_get (v := .ref (h 2)) (C := R_Sg) (T := T_Sg) (N := 6) hx hb hg in_Sg hown hK hP 1 rfl rfl 0 (by decide) (hg _ m_43) (fun _ h9 => h9) rfl d_Sg_sortOfSymbol_9 ?_
    refine lv_iload_n hx hb d_Sg_sortOfSymbol_12 rfl (lv_at hl 1 rfl) ?_
    obtain ⟨hk0, hk⟩ := hk
    refine va_iald hx hb hK hP 2 0 rfl rfl hk0 d_Sg_sortOfSymbol_13 ?_
    refine lv_goto (tgt := 18) hx hb d_Sg_sortOfSymbol_14 (by decide) ?_
    exact B18 _ (σ.1 2 a1.toNatClampNeg) hv hk (lv_sub hl [] rfl)

-- ClauseLedger$Terms.keyOf(IIII)J
abbrev b_Te_keyOf : ByteArray := prog_11_method_26_code
def y_Te_keyOf : MethodName := ⟨"ClauseLedger$Terms", "keyOf", "(IIII)J"⟩
theorem hd_Te_keyOf : y_Te_keyOf.cls ≠ "java/lang/invoke/MethodHandle" ∧ y_Te_keyOf.cls ≠ "java/lang/invoke/VarHandle" ∧ (parseMethodDescriptor y_Te_keyOf.desc).map (fun d => d.parameters.length) = some 4 := by decide +kernel
theorem d_Te_keyOf_0 : decode b_Te_keyOf 0 = .ok (.iload_n 2, 1) := by decide +kernel
theorem d_Te_keyOf_1 : decode b_Te_keyOf 1 = .ok (.i2l, 1) := by decide +kernel
theorem d_Te_keyOf_2 : decode b_Te_keyOf 2 = .ok (.ldc2_w 115, 3) := by decide +kernel
theorem d_Te_keyOf_5 : decode b_Te_keyOf 5 = .ok (.ladd, 1) := by decide +kernel
theorem d_Te_keyOf_6 : decode b_Te_keyOf 6 = .ok (.ldc2_w 117, 3) := by decide +kernel
theorem d_Te_keyOf_9 : decode b_Te_keyOf 9 = .ok (.lmul, 1) := by decide +kernel
theorem d_Te_keyOf_10 : decode b_Te_keyOf 10 = .ok (.iload_n 3, 1) := by decide +kernel
theorem d_Te_keyOf_11 : decode b_Te_keyOf 11 = .ok (.i2l, 1) := by decide +kernel
theorem d_Te_keyOf_12 : decode b_Te_keyOf 12 = .ok (.ldc2_w 115, 3) := by decide +kernel
theorem d_Te_keyOf_15 : decode b_Te_keyOf 15 = .ok (.ladd, 1) := by decide +kernel
theorem d_Te_keyOf_16 : decode b_Te_keyOf 16 = .ok (.ladd, 1) := by decide +kernel
theorem d_Te_keyOf_17 : decode b_Te_keyOf 17 = .ok (.lstore 4, 2) := by decide +kernel
theorem d_Te_keyOf_19 : decode b_Te_keyOf 19 = .ok (.lload 4, 2) := by decide +kernel
theorem d_Te_keyOf_21 : decode b_Te_keyOf 21 = .ok (.ldc2_w 119, 3) := by decide +kernel
theorem d_Te_keyOf_24 : decode b_Te_keyOf 24 = .ok (.lmul, 1) := by decide +kernel
theorem d_Te_keyOf_25 : decode b_Te_keyOf 25 = .ok (.iload_n 1, 1) := by decide +kernel
theorem d_Te_keyOf_26 : decode b_Te_keyOf 26 = .ok (.iconst 1, 1) := by decide +kernel
theorem d_Te_keyOf_27 : decode b_Te_keyOf 27 = .ok (.iadd, 1) := by decide +kernel
theorem d_Te_keyOf_28 : decode b_Te_keyOf 28 = .ok (.i2l, 1) := by decide +kernel
theorem d_Te_keyOf_29 : decode b_Te_keyOf 29 = .ok (.ldc2_w 121, 3) := by decide +kernel
theorem d_Te_keyOf_32 : decode b_Te_keyOf 32 = .ok (.lmul, 1) := by decide +kernel
theorem d_Te_keyOf_33 : decode b_Te_keyOf 33 = .ok (.ladd, 1) := by decide +kernel
theorem d_Te_keyOf_34 : decode b_Te_keyOf 34 = .ok (.iload_n 0, 1) := by decide +kernel
theorem d_Te_keyOf_35 : decode b_Te_keyOf 35 = .ok (.i2l, 1) := by decide +kernel
theorem d_Te_keyOf_36 : decode b_Te_keyOf 36 = .ok (.ladd, 1) := by decide +kernel
theorem d_Te_keyOf_37 : decode b_Te_keyOf 37 = .ok (.lreturn, 1) := by decide +kernel
def f_Te_keyOf (a0 : Int32) (a1 : Int32) (a2 : Int32) (a3 : Int32) (σ : St) : Int64 := (((((a2.toInt64 + 100000) * 262144) + (a3.toInt64 + 100000)) * 256) + (((a1 + 1).toInt64) * 16)) + a0.toInt64
def k_Te_keyOf (a0 : Int32) (a1 : Int32) (a2 : Int32) (a3 : Int32) (σ : St) : Prop := True
abbrev w_Te_keyOf : List Cond := Cond.code y_Te_keyOf b_Te_keyOf 6 (some .long) :: gw
abbrev rm_Te_keyOf : Room := { frames := 0, cells := 0, slots := 0, locals := 0 }
set_option maxHeartbeats 4000000 in
set_option maxRecDepth 100000 in
theorem c_Te_keyOf (l : Launch) (D : va_G) (ty : Nat → ClassId) (h : Nat → Nat) (px : va_W) (sa : Nat → Nat) (σ : St) (a0 : Int32) (a1 : Int32) (a2 : Int32) (a3 : Int32) (hk : k_Te_keyOf a0 a1 a2 a3 σ) : Met l y_Te_keyOf w_Te_keyOf rm_Te_keyOf (va_Pc [.int a0, .int a1, .int a2, .int a3] (fun U => va_P D classes (Wc ty h σ px) U.heap ∧ va_K D classes (Ta ty) U ∧ NW U ∧ MK sa (fun _ => False) U U.heap)) (k2_QcV (.long (f_Te_keyOf a0 a1 a2 a3 σ))) 0 0 (fun _ => False) := by
  refine Met.ofW (cc := b_Te_keyOf) (maxL := 6) (ret := (some .long)) (by decide) rfl ?_
  intro p e s m args below meth c s₁ B hml hv
  obtain ⟨ha, hP, hK, hN, hM⟩ := hv
  have hx := B.exec
  have hb := B.bytes
  have hr := B.returns
  have hg : ∀ w ∈ gw, w.before args s = true := fun w h9 => atoms_spec (ws := w_Te_keyOf) B.pre w (List.mem_cons_of_mem _ h9)
  have hown : s.vm.findClass "ClauseLedger$Terms" = some m.cls := findClass_of_methodNamed B.named
  have hlocks := B.notSynchronized
  have he : entryFrame m args 6 = entryFrame m ([.int a0, .int a1, .int a2, .int a3] : List Value).toArray 6 := by rw [ha]
  rw [he, lg_entry_eq]
  have hl := lv_entry ([.int a0, .int a1, .int a2, .int a3]) (n := 6) (Nat.le_of_ble_eq_true rfl)
  generalize (lg_sl ([.int a0, .int a1, .int a2, .int a3]) ++ List.replicate (6 - (lg_sl ([.int a0, .int a1, .int a2, .int a3])).length) Slot.unset).toArray = ls at hl ⊢
  have hl : lv_has ls 6 [(0, .int a0), (1, .int a1), (2, .int a2), (3, .int a3)] := hl
  generalize hv : f_Te_keyOf a0 a1 a2 a3 σ = v
  replace hv := hv.symm
  unfold f_Te_keyOf at hv
  unfold k_Te_keyOf at hk
  refine lv_iload_n hx hb d_Te_keyOf_0 rfl (lv_at hl 2 rfl) ?_
  refine lv_i2l hx hb d_Te_keyOf_1 rfl ?_
  refine lv_ldc2 (v := 100000) hx hb hown (hg _ m_624) d_Te_keyOf_2 ?_
  refine lv_ladd hx hb d_Te_keyOf_5 ?_
  refine lv_ldc2 (v := 262144) hx hb hown (hg _ m_625) d_Te_keyOf_6 ?_
  refine lv_lmul hx hb d_Te_keyOf_9 ?_
  refine lv_iload_n hx hb d_Te_keyOf_10 rfl (lv_at hl 3 rfl) ?_
  refine lv_i2l hx hb d_Te_keyOf_11 rfl ?_
  refine lv_ldc2 (v := 100000) hx hb hown (hg _ m_624) d_Te_keyOf_12 ?_
  refine lv_ladd hx hb d_Te_keyOf_15 ?_
  refine lv_ladd hx hb d_Te_keyOf_16 ?_
  refine lv_lstore (lv' := [(4, .long (((a2.toInt64 + 100000) * 262144) + (a3.toInt64 + 100000))), (0, .int a0), (1, .int a1), (2, .int a2), (3, .int a3)]) hx hb d_Te_keyOf_17 hl (by decide) rfl (fun ls hl => ?_)
  refine lv_lload hx hb d_Te_keyOf_19 (lv_at hl 0 rfl) ?_
  refine lv_ldc2 (v := 256) hx hb hown (hg _ m_626) d_Te_keyOf_21 ?_
  refine lv_lmul hx hb d_Te_keyOf_24 ?_
  refine lv_iload_n hx hb d_Te_keyOf_25 rfl (lv_at hl 2 rfl) ?_
  refine lv_iconst (v := 1) hx hb d_Te_keyOf_26 (by decide) ?_
  refine lv_iadd hx hb d_Te_keyOf_27 ?_
  refine lv_i2l hx hb d_Te_keyOf_28 rfl ?_
  refine lv_ldc2 (v := 16) hx hb hown (hg _ m_627) d_Te_keyOf_29 ?_
  refine lv_lmul hx hb d_Te_keyOf_32 ?_
  refine lv_ladd hx hb d_Te_keyOf_33 ?_
  refine lv_iload_n hx hb d_Te_keyOf_34 rfl (lv_at hl 1 rfl) ?_
  refine lv_i2l hx hb d_Te_keyOf_35 rfl ?_
  refine lv_ladd hx hb d_Te_keyOf_36 ?_
  exact W.lret hx hb hr (fun t ht hW => ⟨by rw [hv], ht⟩) (fun q h => nomatch h) d_Te_keyOf_37

-- ClauseLedger$Terms.find(JI)I
abbrev b_Te_find : ByteArray := prog_11_method_27_code
def y_Te_find : MethodName := ⟨"ClauseLedger$Terms", "find", "(JI)I"⟩
theorem hd_Te_find : y_Te_find.cls ≠ "java/lang/invoke/MethodHandle" ∧ y_Te_find.cls ≠ "java/lang/invoke/VarHandle" ∧ (parseMethodDescriptor y_Te_find.desc).map (fun d => d.parameters.length) = some 2 := by decide +kernel
theorem d_Te_find_0 : decode b_Te_find 0 = .ok (.iload_n 3, 1) := by decide +kernel
theorem d_Te_find_1 : decode b_Te_find 1 = .ok (.iconst 0, 1) := by decide +kernel
theorem d_Te_find_2 : decode b_Te_find 2 = .ok (.invokestatic 72, 3) := by decide +kernel
theorem d_Te_find_5 : decode b_Te_find 5 = .ok (.istore 4, 2) := by decide +kernel
theorem d_Te_find_7 : decode b_Te_find 7 = .ok (.iload 4, 2) := by decide +kernel
theorem d_Te_find_9 : decode b_Te_find 9 = .ok (.aload_n 0, 1) := by decide +kernel
theorem d_Te_find_10 : decode b_Te_find 10 = .ok (.getfield 46, 3) := by decide +kernel
theorem d_Te_find_13 : decode b_Te_find 13 = .ok (.if_icmp .ge 24, 3) := by decide +kernel
theorem d_Te_find_16 : decode b_Te_find 16 = .ok (.aload_n 0, 1) := by decide +kernel
theorem d_Te_find_17 : decode b_Te_find 17 = .ok (.getfield 42, 3) := by decide +kernel
theorem d_Te_find_20 : decode b_Te_find 20 = .ok (.iload 4, 2) := by decide +kernel
theorem d_Te_find_22 : decode b_Te_find 22 = .ok (.laload, 1) := by decide +kernel
theorem d_Te_find_23 : decode b_Te_find 23 = .ok (.lload_n 1, 1) := by decide +kernel
theorem d_Te_find_24 : decode b_Te_find 24 = .ok (.lcmp, 1) := by decide +kernel
theorem d_Te_find_25 : decode b_Te_find 25 = .ok (.ifCond .ne 6, 3) := by decide +kernel
theorem d_Te_find_28 : decode b_Te_find 28 = .ok (.iload 4, 2) := by decide +kernel
theorem d_Te_find_30 : decode b_Te_find 30 = .ok (.ireturn, 1) := by decide +kernel
theorem d_Te_find_31 : decode b_Te_find 31 = .ok (.iinc 4 1, 3) := by decide +kernel
theorem d_Te_find_34 : decode b_Te_find 34 = .ok (.goto (-27), 3) := by decide +kernel
theorem d_Te_find_37 : decode b_Te_find 37 = .ok (.iconst (-1), 1) := by decide +kernel
theorem d_Te_find_38 : decode b_Te_find 38 = .ok (.ireturn, 1) := by decide +kernel
def f_Te_find_7 : Nat → Int64 → Int32 → St → Int32
  | 0, _, _, σ => 0
  | n + 1, x1, x4, σ => if (σ.1 6 11) ≤ x4 then (-1) else (if (lg_cmp (σ.2 17 x4.toNatClampNeg) x1) = 0 then x4 else ((f_Te_find_7 n) x1 (x4 + 1) σ))
def k_Te_find_7 : Nat → Int64 → Int32 → St → Prop
  | 0, _, _, _ => False
  | n + 1, x1, x4, σ => ((σ.1 6 11) ≤ x4 → True) ∧ (¬ (σ.1 6 11) ≤ x4 → (vp_in x4 208 ∧ (((lg_cmp (σ.2 17 x4.toNatClampNeg) x1) = 0 → True) ∧ (¬ (lg_cmp (σ.2 17 x4.toNatClampNeg) x1) = 0 → ((k_Te_find_7 n) x1 (x4 + 1) σ)))))
def f_Te_find (a1 : Int64) (a3 : Int32) (σ : St) : Int32 := f_Te_find_7 1000 a1 (if a3 < 0 then 0 else a3) σ
def k_Te_find (a1 : Int64) (a3 : Int32) (σ : St) : Prop := k_Te_find_7 1000 a1 (if a3 < 0 then 0 else a3) σ
abbrev w_Te_find : List Cond := Cond.code y_Te_find b_Te_find 5 (some .int) :: gw
abbrev rm_Te_find : Room := { frames := 1, cells := 0, slots := 0, locals := 21 }
set_option maxHeartbeats 4000000 in
set_option maxRecDepth 100000 in
theorem c_Te_find (l : Launch) (D : va_G) (ty : Nat → ClassId) (h : Nat → Nat) (px : va_W) (sa : Nat → Nat) (σ : St) (a1 : Int64) (a3 : Int32) (hk : k_Te_find a1 a3 σ) : Met l y_Te_find w_Te_find rm_Te_find (va_Pc [.ref (h 6), .long a1, .int a3] (fun U => va_P D classes (Wc ty h σ px) U.heap ∧ va_K D classes (Ta ty) U ∧ NW U ∧ MK sa (fun _ => False) U U.heap)) (k2_QcV (.int (f_Te_find a1 a3 σ))) 0 0 (fun _ => False) := by
  refine Met.ofW (cc := b_Te_find) (maxL := 5) (ret := (some .int)) (by decide) rfl ?_
  intro p e s m args below meth c s₁ B hml hv
  obtain ⟨ha, hP, hK, hN, hM⟩ := hv
  have hx := B.exec
  have hb := B.bytes
  have hr := B.returns
  have hg : ∀ w ∈ gw, w.before args s = true := fun w h9 => atoms_spec (ws := w_Te_find) B.pre w (List.mem_cons_of_mem _ h9)
  have hown : s.vm.findClass "ClauseLedger$Terms" = some m.cls := findClass_of_methodNamed B.named
  have hlocks := B.notSynchronized
  have he : entryFrame m args 5 = entryFrame m ([.ref (h 6), .long a1, .int a3] : List Value).toArray 5 := by rw [ha]
  rw [he, lg_entry_eq]
  have hl := lv_entry ([.ref (h 6), .long a1, .int a3]) (n := 5) (Nat.le_of_ble_eq_true rfl)
  generalize (lg_sl ([.ref (h 6), .long a1, .int a3]) ++ List.replicate (5 - (lg_sl ([.ref (h 6), .long a1, .int a3])).length) Slot.unset).toArray = ls at hl ⊢
  have hl : lv_has ls 5 [(0, .ref (h 6)), (1, .long a1), (3, .int a3)] := hl
  generalize hv : f_Te_find a1 a3 σ = v
  replace hv := hv.symm
  have B7 : ∀ (n7 : Nat) (ls : Array Slot) (x1 : Int64) (x4 : Int32), v = f_Te_find_7 n7 x1 x4 σ → k_Te_find_7 n7 x1 x4 σ → lv_has ls 5 [(0, .ref (h 6)), (1, .long x1), (4, .int x4)] → W p l e (headSpec w_Te_find rm_Te_find).room s m args below meth c s.heap [] 0 0 (MQ below (k2_QcV (.int v)) args s 0 0 (fun _ => False)) (F0 m 7 ls []) := by
    intro n7
    induction n7 with
    | zero => intro ls x1 x4 hv hk hl; exact hk.elim
    | succ n7 ih7 =>
      intro ls x1 x4 hv hk hl
      rw [f_Te_find_7] at hv
      rw [k_Te_find_7] at hk
      refine lv_iload hx hb d_Te_find_7 (lv_at hl 2 rfl) ?_
      refine lv_aload_n hx hb d_Te_find_9 rfl (lv_at hl 0 rfl) ?_
      refine va_get (v := .int (σ.1 6 11)) (C := R_Te) (T := T_Te) (N := 14) hx hb hg in_Te hown hK hP 6 rfl rfl 11 (by decide) (hg _ m_80) (fun _ h9 => h9) rfl d_Te_find_10 ?_
      refine lv_icmp_ge (tgt := 37) hx hb d_Te_find_13 (by decide) (fun hc => ?_) (fun hc => ?_)
      · have hv := hv.trans (if_pos hc)
        have hk := hk.1 hc
        refine lv_iconst (v := -1) hx hb d_Te_find_37 (by decide) ?_
        exact W.iret hx hb hr (fun t ht hW => ⟨by rw [hv], ht⟩) (fun q h => nomatch h) d_Te_find_38
      · have hv := hv.trans (if_neg hc)
        have hk := hk.2 hc
        refine lv_aload_n hx hb d_Te_find_16 rfl (lv_at hl 0 rfl) ?_
        refine va_get (v := .ref (h 17)) (C := R_Te) (T := T_Te) (N := 14) hx hb hg in_Te hown hK hP 6 rfl rfl 10 (by decide) (hg _ m_79) (fun _ h9 => h9) rfl d_Te_find_17 ?_
        refine lv_iload hx hb d_Te_find_20 (lv_at hl 2 rfl) ?_
        obtain ⟨hk0, hk⟩ := hk
        refine va_lald hx hb hK hP 17 1 rfl rfl hk0 d_Te_find_22 ?_
        refine lv_lload_n hx hb d_Te_find_23 rfl (lv_at hl 1 rfl) ?_
        refine W.lcmp hx hb d_Te_find_24 ?_
        refine lv_if_ne (tgt := 31) hx hb d_Te_find_25 (by decide) (fun hc => ?_) (fun hc => ?_)
        · have hv := hv.trans (if_neg hc)
          have hk := hk.2 hc
          refine lv_iinc (k := 2) (v := x4 + 1) (lv' := [(4, .int (x4 + 1)), (0, .ref (h 6)), (1, .long x1)]) hx hb d_Te_find_31 hl rfl (by first | rfl | simp [lit1, litm1]) (by decide) rfl (fun ls hl => ?_)
          refine lv_goto (tgt := 7) hx hb d_Te_find_34 (by decide) ?_
          exact ih7 _ x1 (x4 + 1) hv hk (lv_sub hl [1, 2, 0] rfl)
        · have hv := hv.trans (if_pos hc)
          have hk := hk.1 hc
          refine lv_iload hx hb d_Te_find_28 (lv_at hl 2 rfl) ?_
          exact W.iret hx hb hr (fun t ht hW => ⟨by rw [hv], ht⟩) (fun q h => nomatch h) d_Te_find_30
  unfold f_Te_find at hv
  unfold k_Te_find at hk
  refine lv_iload_n hx hb d_Te_find_0 rfl (lv_at hl 2 rfl) ?_
  refine lv_iconst (v := 0) hx hb d_Te_find_1 (by decide) ?_
  refine va_mmax hx hb (hml.trans hl.1.symm) hown (hg _ m_628) (hg _ m_629) (hg _ m_14) (hg _ m_630) (Nat.le_of_ble_eq_true rfl) (Nat.le_of_ble_eq_true rfl) (Nat.le_of_ble_eq_true rfl) (Nat.le_of_ble_eq_true rfl) d_Te_find_2 ?_
  refine lv_istore (lv' := [(4, .int (if a3 < 0 then 0 else a3)), (0, .ref (h 6)), (1, .long a1), (3, .int a3)]) hx hb d_Te_find_5 hl (by decide) rfl (fun ls hl => ?_)
  exact B7 1000 _ a1 (if a3 < 0 then 0 else a3) hv hk (lv_sub hl [1, 2, 0] rfl)

-- ClauseLedger$Terms.append(JIII)I
abbrev b_Te_append : ByteArray := prog_11_method_28_code
def y_Te_append : MethodName := ⟨"ClauseLedger$Terms", "append", "(JIII)I"⟩
theorem hd_Te_append : y_Te_append.cls ≠ "java/lang/invoke/MethodHandle" ∧ y_Te_append.cls ≠ "java/lang/invoke/VarHandle" ∧ (parseMethodDescriptor y_Te_append.desc).map (fun d => d.parameters.length) = some 4 := by decide +kernel
theorem d_Te_append_0 : decode b_Te_append 0 = .ok (.aload_n 0, 1) := by decide +kernel
theorem d_Te_append_1 : decode b_Te_append 1 = .ok (.getfield 46, 3) := by decide +kernel
theorem d_Te_append_4 : decode b_Te_append 4 = .ok (.sipush 207, 3) := by decide +kernel
theorem d_Te_append_7 : decode b_Te_append 7 = .ok (.invokestatic 123, 3) := by decide +kernel
theorem d_Te_append_10 : decode b_Te_append 10 = .ok (.istore 6, 2) := by decide +kernel
theorem d_Te_append_12 : decode b_Te_append 12 = .ok (.aload_n 0, 1) := by decide +kernel
theorem d_Te_append_13 : decode b_Te_append 13 = .ok (.iload 6, 2) := by decide +kernel
theorem d_Te_append_15 : decode b_Te_append 15 = .ok (.iconst 1, 1) := by decide +kernel
theorem d_Te_append_16 : decode b_Te_append 16 = .ok (.iadd, 1) := by decide +kernel
theorem d_Te_append_17 : decode b_Te_append 17 = .ok (.putfield 46, 3) := by decide +kernel
theorem d_Te_append_20 : decode b_Te_append 20 = .ok (.aload_n 0, 1) := by decide +kernel
theorem d_Te_append_21 : decode b_Te_append 21 = .ok (.getfield 42, 3) := by decide +kernel
theorem d_Te_append_24 : decode b_Te_append 24 = .ok (.iload 6, 2) := by decide +kernel
theorem d_Te_append_26 : decode b_Te_append 26 = .ok (.lload_n 1, 1) := by decide +kernel
theorem d_Te_append_27 : decode b_Te_append 27 = .ok (.lastore, 1) := by decide +kernel
theorem d_Te_append_28 : decode b_Te_append 28 = .ok (.aload_n 0, 1) := by decide +kernel
theorem d_Te_append_29 : decode b_Te_append 29 = .ok (.getfield 11, 3) := by decide +kernel
theorem d_Te_append_32 : decode b_Te_append 32 = .ok (.iload 6, 2) := by decide +kernel
theorem d_Te_append_34 : decode b_Te_append 34 = .ok (.iload_n 3, 1) := by decide +kernel
theorem d_Te_append_35 : decode b_Te_append 35 = .ok (.iastore, 1) := by decide +kernel
theorem d_Te_append_36 : decode b_Te_append 36 = .ok (.aload_n 0, 1) := by decide +kernel
theorem d_Te_append_37 : decode b_Te_append 37 = .ok (.getfield 15, 3) := by decide +kernel
theorem d_Te_append_40 : decode b_Te_append 40 = .ok (.iload 6, 2) := by decide +kernel
theorem d_Te_append_42 : decode b_Te_append 42 = .ok (.iload 4, 2) := by decide +kernel
theorem d_Te_append_44 : decode b_Te_append 44 = .ok (.iastore, 1) := by decide +kernel
theorem d_Te_append_45 : decode b_Te_append 45 = .ok (.aload_n 0, 1) := by decide +kernel
theorem d_Te_append_46 : decode b_Te_append 46 = .ok (.getfield 18, 3) := by decide +kernel
theorem d_Te_append_49 : decode b_Te_append 49 = .ok (.iload 6, 2) := by decide +kernel
theorem d_Te_append_51 : decode b_Te_append 51 = .ok (.iload 5, 2) := by decide +kernel
theorem d_Te_append_53 : decode b_Te_append 53 = .ok (.iastore, 1) := by decide +kernel
theorem d_Te_append_54 : decode b_Te_append 54 = .ok (.iload 6, 2) := by decide +kernel
theorem d_Te_append_56 : decode b_Te_append 56 = .ok (.ireturn, 1) := by decide +kernel
def f_Te_append_54 (x6 : Int32) (σ : St) : Int32 × St := (x6, σ)
def k_Te_append_54 (x6 : Int32) (σ : St) : Prop := True
def f_Te_append_45 (x5 : Int32) (x6 : Int32) (σ : St) : Int32 × St := f_Te_append_54 x6 (sA σ 9 x6 x5)
def k_Te_append_45 (x5 : Int32) (x6 : Int32) (σ : St) : Prop := vp_in x6 208 ∧ (k_Te_append_54 x6 (sA σ 9 x6 x5))
def f_Te_append_36 (x4 : Int32) (x5 : Int32) (x6 : Int32) (σ : St) : Int32 × St := f_Te_append_45 x5 x6 (sA σ 8 x6 x4)
def k_Te_append_36 (x4 : Int32) (x5 : Int32) (x6 : Int32) (σ : St) : Prop := vp_in x6 208 ∧ (k_Te_append_45 x5 x6 (sA σ 8 x6 x4))
def f_Te_append_28 (x3 : Int32) (x4 : Int32) (x5 : Int32) (x6 : Int32) (σ : St) : Int32 × St := f_Te_append_36 x4 x5 x6 (sA σ 7 x6 x3)
def k_Te_append_28 (x3 : Int32) (x4 : Int32) (x5 : Int32) (x6 : Int32) (σ : St) : Prop := vp_in x6 208 ∧ (k_Te_append_36 x4 x5 x6 (sA σ 7 x6 x3))
def f_Te_append_20 (x1 : Int64) (x3 : Int32) (x4 : Int32) (x5 : Int32) (x6 : Int32) (σ : St) : Int32 × St := f_Te_append_28 x3 x4 x5 x6 (sL σ 17 x6 x1)
def k_Te_append_20 (x1 : Int64) (x3 : Int32) (x4 : Int32) (x5 : Int32) (x6 : Int32) (σ : St) : Prop := vp_in x6 208 ∧ (k_Te_append_28 x3 x4 x5 x6 (sL σ 17 x6 x1))
def f_Te_append_12 (x1 : Int64) (x3 : Int32) (x4 : Int32) (x5 : Int32) (x6 : Int32) (σ : St) : Int32 × St := f_Te_append_20 x1 x3 x4 x5 x6 (sF σ 6 11 (x6 + 1))
def k_Te_append_12 (x1 : Int64) (x3 : Int32) (x4 : Int32) (x5 : Int32) (x6 : Int32) (σ : St) : Prop := k_Te_append_20 x1 x3 x4 x5 x6 (sF σ 6 11 (x6 + 1))
def f_Te_append (a1 : Int64) (a3 : Int32) (a4 : Int32) (a5 : Int32) (σ : St) : Int32 × St := f_Te_append_12 a1 a3 a4 a5 (if 207 < (σ.1 6 11) then 207 else (σ.1 6 11)) σ
def k_Te_append (a1 : Int64) (a3 : Int32) (a4 : Int32) (a5 : Int32) (σ : St) : Prop := k_Te_append_12 a1 a3 a4 a5 (if 207 < (σ.1 6 11) then 207 else (σ.1 6 11)) σ
abbrev w_Te_append : List Cond := Cond.code y_Te_append b_Te_append 7 (some .int) :: gw
abbrev rm_Te_append : Room := { frames := 1, cells := 0, slots := 0, locals := 21 }
set_option maxHeartbeats 4000000 in
set_option maxRecDepth 100000 in
theorem c_Te_append (l : Launch) (D : va_G) (ty : Nat → ClassId) (h : Nat → Nat) (px : va_W) (sa : Nat → Nat) (σ : St) (sz : Nat) (a1 : Int64) (a3 : Int32) (a4 : Int32) (a5 : Int32) (hk : k_Te_append a1 a3 a4 a5 σ) : Met l y_Te_append w_Te_append rm_Te_append (va_Pc [.ref (h 6), .long a1, .int a3, .int a4, .int a5] (fun U => U.heap.size = sz ∧ va_P D classes (Wc ty h σ px) U.heap ∧ va_K D classes (Ta ty) U ∧ NW U ∧ MK sa (va_A (Wc ty h σ px) sz) U U.heap ∧ va_D (fun _ => True) (Wc ty h σ px))) (va_Qi (fun r (u : St) => (r, u) = f_Te_append a1 a3 a4 a5 σ) (fun u t => va_P D classes (Wc ty h u px) t.heap) (va_A (Wc ty h σ px) sz)) 0 0 (va_A (Wc ty h σ px) sz) := by
  refine Met.ofW (cc := b_Te_append) (maxL := 7) (ret := (some .int)) (by decide) rfl ?_
  intro p e s m args below meth c s₁ B hml hv
  obtain ⟨ha, hsz, hP, hK, hN, hM, hD0⟩ := hv
  have hx := B.exec
  have hb := B.bytes
  have hr := B.returns
  have hg : ∀ w ∈ gw, w.before args s = true := fun w h9 => atoms_spec (ws := w_Te_append) B.pre w (List.mem_cons_of_mem _ h9)
  have hown : s.vm.findClass "ClauseLedger$Terms" = some m.cls := findClass_of_methodNamed B.named
  have hlocks := B.notSynchronized
  subst hsz
  have hD := hD0.self (sz := s.heap.size)
  generalize hAe : va_A (Wc ty h σ px) s.heap.size = A at hD hM ⊢
  have hA : ∀ q : Nat, s.heap.size ≤ q → A q := fun q h9 => by rw [← hAe]; exact Or.inr h9
  have hS : va_S A s.heap s.heap [] := va_S.rf
  have he : entryFrame m args 7 = entryFrame m ([.ref (h 6), .long a1, .int a3, .int a4, .int a5] : List Value).toArray 7 := by rw [ha]
  rw [he, lg_entry_eq]
  have hl := lv_entry ([.ref (h 6), .long a1, .int a3, .int a4, .int a5]) (n := 7) (Nat.le_of_ble_eq_true rfl)
  generalize (lg_sl ([.ref (h 6), .long a1, .int a3, .int a4, .int a5]) ++ List.replicate (7 - (lg_sl ([.ref (h 6), .long a1, .int a3, .int a4, .int a5])).length) Slot.unset).toArray = ls at hl ⊢
  have hl : lv_has ls 7 [(0, .ref (h 6)), (1, .long a1), (3, .int a3), (4, .int a4), (5, .int a5)] := hl
  generalize hv : f_Te_append a1 a3 a4 a5 σ = v
  replace hv := hv.symm
  have B54 : ∀ (H : Heap) (locs : List Loc) (ls : Array Slot) (x6 : Int32) (σ : St), v = f_Te_append_54 x6 σ → k_Te_append_54 x6 σ → lv_has ls 7 [(6, .int x6)] → va_P D classes (Wc ty h σ px) H → va_D A (Wc ty h σ px) → va_S A s.heap H locs → W p l e (headSpec w_Te_append rm_Te_append).room s m args below meth c H locs 0 0 (MQ below (va_Qi (fun r (u : St) => (r, u) = v) (fun u t => va_P D classes (Wc ty h u px) t.heap) A) args s 0 0 A) (F0 m 54 ls []) := by
    intro H locs ls x6 σ hv hk hl hP hD hS
    unfold f_Te_append_54 at hv
    unfold k_Te_append_54 at hk
    refine lv_iload hx hb d_Te_append_54 (lv_at hl 0 rfl) ?_
    exact W.iret hx hb hr (fun t ht hW => ⟨⟨_, _, rfl, hv.symm, by dsimp only; rw [ht]; exact hP⟩, hS.F ht⟩) hS.2.2 d_Te_append_56
  have B45 : ∀ (H : Heap) (locs : List Loc) (ls : Array Slot) (x5 : Int32) (x6 : Int32) (σ : St), v = f_Te_append_45 x5 x6 σ → k_Te_append_45 x5 x6 σ → lv_has ls 7 [(0, .ref (h 6)), (5, .int x5), (6, .int x6)] → va_P D classes (Wc ty h σ px) H → va_D A (Wc ty h σ px) → va_S A s.heap H locs → W p l e (headSpec w_Te_append rm_Te_append).room s m args below meth c H locs 0 0 (MQ below (va_Qi (fun r (u : St) => (r, u) = v) (fun u t => va_P D classes (Wc ty h u px) t.heap) A) args s 0 0 A) (F0 m 45 ls []) := by
    intro H locs ls x5 x6 σ hv hk hl hP hD hS
    unfold f_Te_append_45 at hv
    unfold k_Te_append_45 at hk
    refine lv_aload_n hx hb d_Te_append_45 rfl (lv_at hl 0 rfl) ?_
    refine va_get (v := .ref (h 9)) (C := R_Te) (T := T_Te) (N := 14) hx hb hg in_Te hown hK hP 6 rfl rfl 2 (by decide) (hg _ m_71) (fun _ h9 => h9) rfl d_Te_append_46 ?_
    refine lv_iload hx hb d_Te_append_49 (lv_at hl 2 rfl) ?_
    refine lv_iload hx hb d_Te_append_51 (lv_at hl 1 rfl) ?_
    obtain ⟨hk0, hk⟩ := hk
    refine va_iast hx hb hK hP hD hS 9 0 rfl rfl hk0 d_Te_append_53 (fun H locs hP hD hS => ?_)
    have hP : va_P D classes (Wc ty h (sA σ 9 x6 x5) px) H := hP
    have hD : va_D A (Wc ty h (sA σ 9 x6 x5) px) := hD
    exact B54 _ _ _ x6 (sA σ 9 x6 x5) hv hk (lv_sub hl [2] rfl) hP hD hS
  have B36 : ∀ (H : Heap) (locs : List Loc) (ls : Array Slot) (x4 : Int32) (x5 : Int32) (x6 : Int32) (σ : St), v = f_Te_append_36 x4 x5 x6 σ → k_Te_append_36 x4 x5 x6 σ → lv_has ls 7 [(0, .ref (h 6)), (4, .int x4), (5, .int x5), (6, .int x6)] → va_P D classes (Wc ty h σ px) H → va_D A (Wc ty h σ px) → va_S A s.heap H locs → W p l e (headSpec w_Te_append rm_Te_append).room s m args below meth c H locs 0 0 (MQ below (va_Qi (fun r (u : St) => (r, u) = v) (fun u t => va_P D classes (Wc ty h u px) t.heap) A) args s 0 0 A) (F0 m 36 ls []) := by
    intro H locs ls x4 x5 x6 σ hv hk hl hP hD hS
    unfold f_Te_append_36 at hv
    unfold k_Te_append_36 at hk
    refine lv_aload_n hx hb d_Te_append_36 rfl (lv_at hl 0 rfl) ?_
    refine va_get (v := .ref (h 8)) (C := R_Te) (T := T_Te) (N := 14) hx hb hg in_Te hown hK hP 6 rfl rfl 1 (by decide) (hg _ m_70) (fun _ h9 => h9) rfl d_Te_append_37 ?_
    refine lv_iload hx hb d_Te_append_40 (lv_at hl 3 rfl) ?_
    refine lv_iload hx hb d_Te_append_42 (lv_at hl 1 rfl) ?_
    obtain ⟨hk0, hk⟩ := hk
    refine va_iast hx hb hK hP hD hS 8 0 rfl rfl hk0 d_Te_append_44 (fun H locs hP hD hS => ?_)
    have hP : va_P D classes (Wc ty h (sA σ 8 x6 x4) px) H := hP
    have hD : va_D A (Wc ty h (sA σ 8 x6 x4) px) := hD
    exact B45 _ _ _ x5 x6 (sA σ 8 x6 x4) hv hk (lv_sub hl [0, 2, 3] rfl) hP hD hS
  have B28 : ∀ (H : Heap) (locs : List Loc) (ls : Array Slot) (x3 : Int32) (x4 : Int32) (x5 : Int32) (x6 : Int32) (σ : St), v = f_Te_append_28 x3 x4 x5 x6 σ → k_Te_append_28 x3 x4 x5 x6 σ → lv_has ls 7 [(0, .ref (h 6)), (3, .int x3), (4, .int x4), (5, .int x5), (6, .int x6)] → va_P D classes (Wc ty h σ px) H → va_D A (Wc ty h σ px) → va_S A s.heap H locs → W p l e (headSpec w_Te_append rm_Te_append).room s m args below meth c H locs 0 0 (MQ below (va_Qi (fun r (u : St) => (r, u) = v) (fun u t => va_P D classes (Wc ty h u px) t.heap) A) args s 0 0 A) (F0 m 28 ls []) := by
    intro H locs ls x3 x4 x5 x6 σ hv hk hl hP hD hS
    unfold f_Te_append_28 at hv
    unfold k_Te_append_28 at hk
    refine lv_aload_n hx hb d_Te_append_28 rfl (lv_at hl 0 rfl) ?_
    refine va_get (v := .ref (h 7)) (C := R_Te) (T := T_Te) (N := 14) hx hb hg in_Te hown hK hP 6 rfl rfl 0 (by decide) (hg _ m_69) (fun _ h9 => h9) rfl d_Te_append_29 ?_
    refine lv_iload hx hb d_Te_append_32 (lv_at hl 4 rfl) ?_
    refine lv_iload_n hx hb d_Te_append_34 rfl (lv_at hl 1 rfl) ?_
    obtain ⟨hk0, hk⟩ := hk
    refine va_iast hx hb hK hP hD hS 7 0 rfl rfl hk0 d_Te_append_35 (fun H locs hP hD hS => ?_)
    have hP : va_P D classes (Wc ty h (sA σ 7 x6 x3) px) H := hP
    have hD : va_D A (Wc ty h (sA σ 7 x6 x3) px) := hD
    exact B36 _ _ _ x4 x5 x6 (sA σ 7 x6 x3) hv hk (lv_sub hl [0, 2, 3, 4] rfl) hP hD hS
  have B20 : ∀ (H : Heap) (locs : List Loc) (ls : Array Slot) (x1 : Int64) (x3 : Int32) (x4 : Int32) (x5 : Int32) (x6 : Int32) (σ : St), v = f_Te_append_20 x1 x3 x4 x5 x6 σ → k_Te_append_20 x1 x3 x4 x5 x6 σ → lv_has ls 7 [(0, .ref (h 6)), (1, .long x1), (3, .int x3), (4, .int x4), (5, .int x5), (6, .int x6)] → va_P D classes (Wc ty h σ px) H → va_D A (Wc ty h σ px) → va_S A s.heap H locs → W p l e (headSpec w_Te_append rm_Te_append).room s m args below meth c H locs 0 0 (MQ below (va_Qi (fun r (u : St) => (r, u) = v) (fun u t => va_P D classes (Wc ty h u px) t.heap) A) args s 0 0 A) (F0 m 20 ls []) := by
    intro H locs ls x1 x3 x4 x5 x6 σ hv hk hl hP hD hS
    unfold f_Te_append_20 at hv
    unfold k_Te_append_20 at hk
    refine lv_aload_n hx hb d_Te_append_20 rfl (lv_at hl 0 rfl) ?_
    refine va_get (v := .ref (h 17)) (C := R_Te) (T := T_Te) (N := 14) hx hb hg in_Te hown hK hP 6 rfl rfl 10 (by decide) (hg _ m_79) (fun _ h9 => h9) rfl d_Te_append_21 ?_
    refine lv_iload hx hb d_Te_append_24 (lv_at hl 5 rfl) ?_
    refine lv_lload_n hx hb d_Te_append_26 rfl (lv_at hl 1 rfl) ?_
    obtain ⟨hk0, hk⟩ := hk
    refine va_last hx hb hK hP hD hS 17 1 rfl rfl hk0 d_Te_append_27 (fun H locs hP hD hS => ?_)
    have hP : va_P D classes (Wc ty h (sL σ 17 x6 x1) px) H := hP
    have hD : va_D A (Wc ty h (sL σ 17 x6 x1) px) := hD
    exact B28 _ _ _ x3 x4 x5 x6 (sL σ 17 x6 x1) hv hk (lv_sub hl [0, 2, 3, 4, 5] rfl) hP hD hS
  have B12 : ∀ (H : Heap) (locs : List Loc) (ls : Array Slot) (x1 : Int64) (x3 : Int32) (x4 : Int32) (x5 : Int32) (x6 : Int32) (σ : St), v = f_Te_append_12 x1 x3 x4 x5 x6 σ → k_Te_append_12 x1 x3 x4 x5 x6 σ → lv_has ls 7 [(0, .ref (h 6)), (1, .long x1), (3, .int x3), (4, .int x4), (5, .int x5), (6, .int x6)] → va_P D classes (Wc ty h σ px) H → va_D A (Wc ty h σ px) → va_S A s.heap H locs → W p l e (headSpec w_Te_append rm_Te_append).room s m args below meth c H locs 0 0 (MQ below (va_Qi (fun r (u : St) => (r, u) = v) (fun u t => va_P D classes (Wc ty h u px) t.heap) A) args s 0 0 A) (F0 m 12 ls []) := by
    intro H locs ls x1 x3 x4 x5 x6 σ hv hk hl hP hD hS
    unfold f_Te_append_12 at hv
    unfold k_Te_append_12 at hk
    refine lv_aload_n hx hb d_Te_append_12 rfl (lv_at hl 0 rfl) ?_
    refine lv_iload hx hb d_Te_append_13 (lv_at hl 5 rfl) ?_
    refine lv_iconst (v := 1) hx hb d_Te_append_15 (by decide) ?_
    refine lv_iadd hx hb d_Te_append_16 ?_
    refine va_put (v := .int (x6 + 1)) (ty := .int) (C := R_Te) (T := T_Te) (N := 14) hx hb hg in_Te ty_Te ok_Te nm_Te hown hK hP hD hS 6 rfl rfl 11 (by decide) (hg _ m_80) (fun _ h9 => h9) rfl (by decide +kernel) rfl rfl (Nat.le_of_ble_eq_true rfl) d_Te_append_17 (fun H locs hP hD hS => ?_)
    have hP : va_P D classes (Wc ty h (sF σ 6 11 (x6 + 1)) px) H := hP
    have hD : va_D A (Wc ty h (sF σ 6 11 (x6 + 1)) px) := hD
    exact B20 _ _ _ x1 x3 x4 x5 x6 (sF σ 6 11 (x6 + 1)) hv hk (lv_sub hl [0, 1, 2, 3, 4, 5] rfl) hP hD hS
  unfold f_Te_append at hv
  unfold k_Te_append at hk
  refine lv_aload_n hx hb d_Te_append_0 rfl (lv_at hl 0 rfl) ?_
  refine va_get (v := .int (σ.1 6 11)) (C := R_Te) (T := T_Te) (N := 14) hx hb hg in_Te hown hK hP 6 rfl rfl 11 (by decide) (hg _ m_80) (fun _ h9 => h9) rfl d_Te_append_1 ?_
  refine lv_sipush (v := 207) hx hb d_Te_append_4 (by decide) ?_
  refine va_mmin hx hb (hml.trans hl.1.symm) hown (hg _ m_639) (hg _ m_640) (hg _ m_14) (hg _ m_641) (Nat.le_of_ble_eq_true rfl) (Nat.le_of_ble_eq_true rfl) (Nat.le_of_ble_eq_true rfl) (Nat.le_of_ble_eq_true rfl) d_Te_append_7 ?_
  refine lv_istore (lv' := [(6, .int (if 207 < (σ.1 6 11) then 207 else (σ.1 6 11))), (0, .ref (h 6)), (1, .long a1), (3, .int a3), (4, .int a4), (5, .int a5)]) hx hb d_Te_append_10 hl (by decide) rfl (fun ls hl => ?_)
  exact B12 _ _ _ a1 a3 a4 a5 (if 207 < (σ.1 6 11) then 207 else (σ.1 6 11)) σ hv hk (lv_sub hl [1, 2, 3, 4, 5, 0] rfl) hP hD hS

-- ClauseLedger$Terms.depthOf(I)I
abbrev b_Te_depthOf : ByteArray := prog_11_method_12_code
def y_Te_depthOf : MethodName := ⟨"ClauseLedger$Terms", "depthOf", "(I)I"⟩
theorem hd_Te_depthOf : y_Te_depthOf.cls ≠ "java/lang/invoke/MethodHandle" ∧ y_Te_depthOf.cls ≠ "java/lang/invoke/VarHandle" ∧ (parseMethodDescriptor y_Te_depthOf.desc).map (fun d => d.parameters.length) = some 1 := by decide +kernel
theorem d_Te_depthOf_0 : decode b_Te_depthOf 0 = .ok (.aload_n 0, 1) := by decide +kernel
theorem d_Te_depthOf_1 : decode b_Te_depthOf 1 = .ok (.iload_n 1, 1) := by decide +kernel
theorem d_Te_depthOf_2 : decode b_Te_depthOf 2 = .ok (.invokevirtual 57, 3) := by decide +kernel
theorem d_Te_depthOf_5 : decode b_Te_depthOf 5 = .ok (.ifCond .eq 12, 3) := by decide +kernel
theorem d_Te_depthOf_8 : decode b_Te_depthOf 8 = .ok (.aload_n 0, 1) := by decide +kernel
theorem d_Te_depthOf_9 : decode b_Te_depthOf 9 = .ok (.getfield 33, 3) := by decide +kernel
theorem d_Te_depthOf_12 : decode b_Te_depthOf 12 = .ok (.iload_n 1, 1) := by decide +kernel
theorem d_Te_depthOf_13 : decode b_Te_depthOf 13 = .ok (.iaload, 1) := by decide +kernel
theorem d_Te_depthOf_14 : decode b_Te_depthOf 14 = .ok (.goto 4, 3) := by decide +kernel
theorem d_Te_depthOf_17 : decode b_Te_depthOf 17 = .ok (.iconst 0, 1) := by decide +kernel
theorem d_Te_depthOf_18 : decode b_Te_depthOf 18 = .ok (.ireturn, 1) := by decide +kernel
def f_Te_depthOf_18 (s0 : Int32) (σ : St) : Int32 := s0
def k_Te_depthOf_18 (s0 : Int32) (σ : St) : Prop := True
def f_Te_depthOf (a1 : Int32) (σ : St) : Int32 := if (f_Te_has a1 σ) = 0 then (f_Te_depthOf_18 0 σ) else (f_Te_depthOf_18 (σ.1 14 a1.toNatClampNeg) σ)
def k_Te_depthOf (a1 : Int32) (σ : St) : Prop := (k_Te_has a1 σ) ∧ (((f_Te_has a1 σ) = 0 → (k_Te_depthOf_18 0 σ)) ∧ (¬ (f_Te_has a1 σ) = 0 → (vp_in a1 208 ∧ (k_Te_depthOf_18 (σ.1 14 a1.toNatClampNeg) σ))))
abbrev w_Te_depthOf : List Cond := Cond.code y_Te_depthOf b_Te_depthOf 2 (some .int) :: gw
abbrev rm_Te_depthOf : Room := { frames := 1, cells := 0, slots := 0, locals := 21 }
set_option maxHeartbeats 4000000 in
set_option maxRecDepth 100000 in
theorem c_Te_depthOf (l : Launch) (D : va_G) (ty : Nat → ClassId) (h : Nat → Nat) (px : va_W) (sa : Nat → Nat) (σ : St) (a1 : Int32) (hk : k_Te_depthOf a1 σ) : Met l y_Te_depthOf w_Te_depthOf rm_Te_depthOf (va_Pc [.ref (h 6), .int a1] (fun U => va_P D classes (Wc ty h σ px) U.heap ∧ va_K D classes (Ta ty) U ∧ NW U ∧ MK sa (fun _ => False) U U.heap)) (k2_QcV (.int (f_Te_depthOf a1 σ))) 0 0 (fun _ => False) := by
  refine Met.ofW (cc := b_Te_depthOf) (maxL := 2) (ret := (some .int)) (by decide) rfl ?_
  intro p e s m args below meth c s₁ B hml hv
  obtain ⟨ha, hP, hK, hN, hM⟩ := hv
  have hx := B.exec
  have hb := B.bytes
  have hr := B.returns
  have hg : ∀ w ∈ gw, w.before args s = true := fun w h9 => atoms_spec (ws := w_Te_depthOf) B.pre w (List.mem_cons_of_mem _ h9)
  have hown : s.vm.findClass "ClauseLedger$Terms" = some m.cls := findClass_of_methodNamed B.named
  have hlocks := B.notSynchronized
  have he : entryFrame m args 2 = entryFrame m ([.ref (h 6), .int a1] : List Value).toArray 2 := by rw [ha]
  rw [he, lg_entry_eq]
  have hl := lv_entry ([.ref (h 6), .int a1]) (n := 2) (Nat.le_of_ble_eq_true rfl)
  generalize (lg_sl ([.ref (h 6), .int a1]) ++ List.replicate (2 - (lg_sl ([.ref (h 6), .int a1])).length) Slot.unset).toArray = ls at hl ⊢
  have hl : lv_has ls 2 [(0, .ref (h 6)), (1, .int a1)] := hl
  generalize hv : f_Te_depthOf a1 σ = v
  replace hv := hv.symm
  have B18 : ∀ (ls : Array Slot) (s0 : Int32), v = f_Te_depthOf_18 s0 σ → k_Te_depthOf_18 s0 σ → lv_has ls 2 [] → W p l e (headSpec w_Te_depthOf rm_Te_depthOf).room s m args below meth c s.heap [] 0 0 (MQ below (k2_QcV (.int v)) args s 0 0 (fun _ => False)) (F0 m 18 ls [.int s0]) := by
    intro ls s0 hv hk hl
    unfold f_Te_depthOf_18 at hv
    unfold k_Te_depthOf_18 at hk
    exact W.iret hx hb hr (fun t ht hW => ⟨by rw [hv], ht⟩) (fun q h => nomatch h) d_Te_depthOf_18
  unfold f_Te_depthOf at hv
  unfold k_Te_depthOf at hk
  refine lv_aload_n hx hb d_Te_depthOf_0 rfl (lv_at hl 0 rfl) ?_
  refine lv_iload_n hx hb d_Te_depthOf_1 rfl (lv_at hl 1 rfl) ?_
  obtain ⟨hk0, hk⟩ := hk
  refine zz_callV (va_runV (As := [.int a1]) (rest := []) ⟨hx, hb, hml, hown, hg⟩ (c_Te_has l D ty h px sa σ a1 hk0) ⟨callB_of 1 hg (gw_C m_430) rfl rfl rfl (hg _ m_3) (hg _ m_435) hd_Te_has ⟨Nat.le_of_ble_eq_true rfl, Nat.le_of_ble_eq_true rfl⟩, hg _ m_428, hg _ m_429⟩ (zz_preV hM hN hK hP 6 rfl rfl) rfl rfl hl.1 rfl (lv_room (Nat.le_of_ble_eq_true rfl)) d_Te_depthOf_2 ⟨Nat.le_of_ble_eq_true rfl, Nat.le_of_ble_eq_true rfl⟩) ?_
  refine lv_if_eq (tgt := 17) hx hb d_Te_depthOf_5 (by decide) (fun hc => ?_) (fun hc => ?_)
  · have hv := hv.trans (if_pos hc)
    have hk := hk.1 hc
    refine lv_iconst (v := 0) hx hb d_Te_depthOf_17 (by decide) ?_
    exact B18 _ 0 hv hk (lv_sub hl [] rfl)
  · have hv := hv.trans (if_neg hc)
    have hk := hk.2 hc
    refine lv_aload_n hx hb d_Te_depthOf_8 rfl (lv_at hl 0 rfl) ?_
    refine va_get (v := .ref (h 14)) (C := R_Te) (T := T_Te) (N := 14) hx hb hg in_Te hown hK hP 6 rfl rfl 7 (by decide) (hg _ m_76) (fun _ h9 => h9) rfl d_Te_depthOf_9 ?_
    refine lv_iload_n hx hb d_Te_depthOf_12 rfl (lv_at hl 1 rfl) ?_
    obtain ⟨hk0, hk⟩ := hk
    refine va_iald hx hb hK hP 14 0 rfl rfl hk0 d_Te_depthOf_13 ?_
    refine lv_goto (tgt := 18) hx hb d_Te_depthOf_14 (by decide) ?_
    exact B18 _ (σ.1 14 a1.toNatClampNeg) hv hk (lv_sub hl [] rfl)

-- ClauseLedger$Terms.lengthOf(I)I
abbrev b_Te_lengthOf : ByteArray := prog_11_method_13_code
def y_Te_lengthOf : MethodName := ⟨"ClauseLedger$Terms", "lengthOf", "(I)I"⟩
theorem hd_Te_lengthOf : y_Te_lengthOf.cls ≠ "java/lang/invoke/MethodHandle" ∧ y_Te_lengthOf.cls ≠ "java/lang/invoke/VarHandle" ∧ (parseMethodDescriptor y_Te_lengthOf.desc).map (fun d => d.parameters.length) = some 1 := by decide +kernel
theorem d_Te_lengthOf_0 : decode b_Te_lengthOf 0 = .ok (.aload_n 0, 1) := by decide +kernel
theorem d_Te_lengthOf_1 : decode b_Te_lengthOf 1 = .ok (.iload_n 1, 1) := by decide +kernel
theorem d_Te_lengthOf_2 : decode b_Te_lengthOf 2 = .ok (.invokevirtual 57, 3) := by decide +kernel
theorem d_Te_lengthOf_5 : decode b_Te_lengthOf 5 = .ok (.ifCond .eq 12, 3) := by decide +kernel
theorem d_Te_lengthOf_8 : decode b_Te_lengthOf 8 = .ok (.aload_n 0, 1) := by decide +kernel
theorem d_Te_lengthOf_9 : decode b_Te_lengthOf 9 = .ok (.getfield 36, 3) := by decide +kernel
theorem d_Te_lengthOf_12 : decode b_Te_lengthOf 12 = .ok (.iload_n 1, 1) := by decide +kernel
theorem d_Te_lengthOf_13 : decode b_Te_lengthOf 13 = .ok (.iaload, 1) := by decide +kernel
theorem d_Te_lengthOf_14 : decode b_Te_lengthOf 14 = .ok (.goto 4, 3) := by decide +kernel
theorem d_Te_lengthOf_17 : decode b_Te_lengthOf 17 = .ok (.iconst 0, 1) := by decide +kernel
theorem d_Te_lengthOf_18 : decode b_Te_lengthOf 18 = .ok (.ireturn, 1) := by decide +kernel
def f_Te_lengthOf_18 (s0 : Int32) (σ : St) : Int32 := s0
def k_Te_lengthOf_18 (s0 : Int32) (σ : St) : Prop := True
def f_Te_lengthOf (a1 : Int32) (σ : St) : Int32 := if (f_Te_has a1 σ) = 0 then (f_Te_lengthOf_18 0 σ) else (f_Te_lengthOf_18 (σ.1 15 a1.toNatClampNeg) σ)
def k_Te_lengthOf (a1 : Int32) (σ : St) : Prop := (k_Te_has a1 σ) ∧ (((f_Te_has a1 σ) = 0 → (k_Te_lengthOf_18 0 σ)) ∧ (¬ (f_Te_has a1 σ) = 0 → (vp_in a1 208 ∧ (k_Te_lengthOf_18 (σ.1 15 a1.toNatClampNeg) σ))))
abbrev w_Te_lengthOf : List Cond := Cond.code y_Te_lengthOf b_Te_lengthOf 2 (some .int) :: gw
abbrev rm_Te_lengthOf : Room := { frames := 1, cells := 0, slots := 0, locals := 21 }
set_option maxHeartbeats 4000000 in
set_option maxRecDepth 100000 in
theorem c_Te_lengthOf (l : Launch) (D : va_G) (ty : Nat → ClassId) (h : Nat → Nat) (px : va_W) (sa : Nat → Nat) (σ : St) (a1 : Int32) (hk : k_Te_lengthOf a1 σ) : Met l y_Te_lengthOf w_Te_lengthOf rm_Te_lengthOf (va_Pc [.ref (h 6), .int a1] (fun U => va_P D classes (Wc ty h σ px) U.heap ∧ va_K D classes (Ta ty) U ∧ NW U ∧ MK sa (fun _ => False) U U.heap)) (k2_QcV (.int (f_Te_lengthOf a1 σ))) 0 0 (fun _ => False) := by
  refine Met.ofW (cc := b_Te_lengthOf) (maxL := 2) (ret := (some .int)) (by decide) rfl ?_
  intro p e s m args below meth c s₁ B hml hv
  obtain ⟨ha, hP, hK, hN, hM⟩ := hv
  have hx := B.exec
  have hb := B.bytes
  have hr := B.returns
  have hg : ∀ w ∈ gw, w.before args s = true := fun w h9 => atoms_spec (ws := w_Te_lengthOf) B.pre w (List.mem_cons_of_mem _ h9)
  have hown : s.vm.findClass "ClauseLedger$Terms" = some m.cls := findClass_of_methodNamed B.named
  have hlocks := B.notSynchronized
  have he : entryFrame m args 2 = entryFrame m ([.ref (h 6), .int a1] : List Value).toArray 2 := by rw [ha]
  rw [he, lg_entry_eq]
  have hl := lv_entry ([.ref (h 6), .int a1]) (n := 2) (Nat.le_of_ble_eq_true rfl)
  generalize (lg_sl ([.ref (h 6), .int a1]) ++ List.replicate (2 - (lg_sl ([.ref (h 6), .int a1])).length) Slot.unset).toArray = ls at hl ⊢
  have hl : lv_has ls 2 [(0, .ref (h 6)), (1, .int a1)] := hl
  generalize hv : f_Te_lengthOf a1 σ = v
  replace hv := hv.symm
  have B18 : ∀ (ls : Array Slot) (s0 : Int32), v = f_Te_lengthOf_18 s0 σ → k_Te_lengthOf_18 s0 σ → lv_has ls 2 [] → W p l e (headSpec w_Te_lengthOf rm_Te_lengthOf).room s m args below meth c s.heap [] 0 0 (MQ below (k2_QcV (.int v)) args s 0 0 (fun _ => False)) (F0 m 18 ls [.int s0]) := by
    intro ls s0 hv hk hl
    unfold f_Te_lengthOf_18 at hv
    unfold k_Te_lengthOf_18 at hk
    exact W.iret hx hb hr (fun t ht hW => ⟨by rw [hv], ht⟩) (fun q h => nomatch h) d_Te_lengthOf_18
  unfold f_Te_lengthOf at hv
  unfold k_Te_lengthOf at hk
  refine lv_aload_n hx hb d_Te_lengthOf_0 rfl (lv_at hl 0 rfl) ?_
  refine lv_iload_n hx hb d_Te_lengthOf_1 rfl (lv_at hl 1 rfl) ?_
  obtain ⟨hk0, hk⟩ := hk
  refine zz_callV (va_runV (As := [.int a1]) (rest := []) ⟨hx, hb, hml, hown, hg⟩ (c_Te_has l D ty h px sa σ a1 hk0) ⟨callB_of 1 hg (gw_C m_430) rfl rfl rfl (hg _ m_3) (hg _ m_435) hd_Te_has ⟨Nat.le_of_ble_eq_true rfl, Nat.le_of_ble_eq_true rfl⟩, hg _ m_428, hg _ m_429⟩ (zz_preV hM hN hK hP 6 rfl rfl) rfl rfl hl.1 rfl (lv_room (Nat.le_of_ble_eq_true rfl)) d_Te_lengthOf_2 ⟨Nat.le_of_ble_eq_true rfl, Nat.le_of_ble_eq_true rfl⟩) ?_
  refine lv_if_eq (tgt := 17) hx hb d_Te_lengthOf_5 (by decide) (fun hc => ?_) (fun hc => ?_)
  · have hv := hv.trans (if_pos hc)
    have hk := hk.1 hc
    refine lv_iconst (v := 0) hx hb d_Te_lengthOf_17 (by decide) ?_
    exact B18 _ 0 hv hk (lv_sub hl [] rfl)
  · have hv := hv.trans (if_neg hc)
    have hk := hk.2 hc
    refine lv_aload_n hx hb d_Te_lengthOf_8 rfl (lv_at hl 0 rfl) ?_
    refine va_get (v := .ref (h 15)) (C := R_Te) (T := T_Te) (N := 14) hx hb hg in_Te hown hK hP 6 rfl rfl 8 (by decide) (hg _ m_77) (fun _ h9 => h9) rfl d_Te_lengthOf_9 ?_
    refine lv_iload_n hx hb d_Te_lengthOf_12 rfl (lv_at hl 1 rfl) ?_
    obtain ⟨hk0, hk⟩ := hk
    refine va_iald hx hb hK hP 15 0 rfl rfl hk0 d_Te_lengthOf_13 ?_
    refine lv_goto (tgt := 18) hx hb d_Te_lengthOf_14 (by decide) ?_
    exact B18 _ (σ.1 15 a1.toNatClampNeg) hv hk (lv_sub hl [] rfl)

-- ClauseLedger$Writer.headLength(I)I
abbrev b_Wr_headLength : ByteArray := prog_12_method_5_code
def y_Wr_headLength : MethodName := ⟨"ClauseLedger$Writer", "headLength", "(I)I"⟩
theorem hd_Wr_headLength : y_Wr_headLength.cls ≠ "java/lang/invoke/MethodHandle" ∧ y_Wr_headLength.cls ≠ "java/lang/invoke/VarHandle" ∧ (parseMethodDescriptor y_Wr_headLength.desc).map (fun d => d.parameters.length) = some 1 := by decide +kernel
theorem d_Wr_headLength_0 : decode b_Wr_headLength 0 = .ok (.iload_n 0, 1) := by decide +kernel
theorem d_Wr_headLength_1 : decode b_Wr_headLength 1 = .ok (.bipush 10, 2) := by decide +kernel
theorem d_Wr_headLength_3 : decode b_Wr_headLength 3 = .ok (.if_icmp .ne 7, 3) := by decide +kernel
theorem d_Wr_headLength_6 : decode b_Wr_headLength 6 = .ok (.iconst 5, 1) := by decide +kernel
theorem d_Wr_headLength_7 : decode b_Wr_headLength 7 = .ok (.goto 4, 3) := by decide +kernel
theorem d_Wr_headLength_10 : decode b_Wr_headLength 10 = .ok (.iconst 3, 1) := by decide +kernel
theorem d_Wr_headLength_11 : decode b_Wr_headLength 11 = .ok (.ireturn, 1) := by decide +kernel
def f_Wr_headLength_11 (s0 : Int32) (σ : St) : Int32 := s0
def k_Wr_headLength_11 (s0 : Int32) (σ : St) : Prop := True
def f_Wr_headLength (a0 : Int32) (σ : St) : Int32 := if a0 = 10 then (f_Wr_headLength_11 5 σ) else (f_Wr_headLength_11 3 σ)
def k_Wr_headLength (a0 : Int32) (σ : St) : Prop := (a0 = 10 → (k_Wr_headLength_11 5 σ)) ∧ (¬ a0 = 10 → (k_Wr_headLength_11 3 σ))
abbrev w_Wr_headLength : List Cond := Cond.code y_Wr_headLength b_Wr_headLength 1 (some .int) :: gw
abbrev rm_Wr_headLength : Room := { frames := 0, cells := 0, slots := 0, locals := 0 }
set_option maxHeartbeats 4000000 in
set_option maxRecDepth 100000 in
theorem c_Wr_headLength (l : Launch) (D : va_G) (ty : Nat → ClassId) (h : Nat → Nat) (px : va_W) (sa : Nat → Nat) (σ : St) (a0 : Int32) (hk : k_Wr_headLength a0 σ) : Met l y_Wr_headLength w_Wr_headLength rm_Wr_headLength (va_Pc [.int a0] (fun U => va_P D classes (Wc ty h σ px) U.heap ∧ va_K D classes (Ta ty) U ∧ NW U ∧ MK sa (fun _ => False) U U.heap)) (k2_QcV (.int (f_Wr_headLength a0 σ))) 0 0 (fun _ => False) := by
  refine Met.ofW (cc := b_Wr_headLength) (maxL := 1) (ret := (some .int)) (by decide) rfl ?_
  intro p e s m args below meth c s₁ B hml hv
  obtain ⟨ha, hP, hK, hN, hM⟩ := hv
  have hx := B.exec
  have hb := B.bytes
  have hr := B.returns
  have hg : ∀ w ∈ gw, w.before args s = true := fun w h9 => atoms_spec (ws := w_Wr_headLength) B.pre w (List.mem_cons_of_mem _ h9)
  have hown : s.vm.findClass "ClauseLedger$Writer" = some m.cls := findClass_of_methodNamed B.named
  have hlocks := B.notSynchronized
  have he : entryFrame m args 1 = entryFrame m ([.int a0] : List Value).toArray 1 := by rw [ha]
  rw [he, lg_entry_eq]
  have hl := lv_entry ([.int a0]) (n := 1) (Nat.le_of_ble_eq_true rfl)
  generalize (lg_sl ([.int a0]) ++ List.replicate (1 - (lg_sl ([.int a0])).length) Slot.unset).toArray = ls at hl ⊢
  have hl : lv_has ls 1 [(0, .int a0)] := hl
  generalize hv : f_Wr_headLength a0 σ = v
  replace hv := hv.symm
  have B11 : ∀ (ls : Array Slot) (s0 : Int32), v = f_Wr_headLength_11 s0 σ → k_Wr_headLength_11 s0 σ → lv_has ls 1 [] → W p l e (headSpec w_Wr_headLength rm_Wr_headLength).room s m args below meth c s.heap [] 0 0 (MQ below (k2_QcV (.int v)) args s 0 0 (fun _ => False)) (F0 m 11 ls [.int s0]) := by
    intro ls s0 hv hk hl
    unfold f_Wr_headLength_11 at hv
    unfold k_Wr_headLength_11 at hk
    exact W.iret hx hb hr (fun t ht hW => ⟨by rw [hv], ht⟩) (fun q h => nomatch h) d_Wr_headLength_11
  unfold f_Wr_headLength at hv
  unfold k_Wr_headLength at hk
  refine lv_iload_n hx hb d_Wr_headLength_0 rfl (lv_at hl 0 rfl) ?_
  refine lv_bipush (v := 10) hx hb d_Wr_headLength_1 (by decide) ?_
  refine lv_icmp_ne (tgt := 10) hx hb d_Wr_headLength_3 (by decide) (fun hc => ?_) (fun hc => ?_)
  · have hv := hv.trans (if_neg hc)
    have hk := hk.2 hc
    refine lv_iconst (v := 3) hx hb d_Wr_headLength_10 (by decide) ?_
    exact B11 _ 3 hv hk (lv_sub hl [] rfl)
  · have hv := hv.trans (if_pos hc)
    have hk := hk.1 hc
    refine lv_iconst (v := 5) hx hb d_Wr_headLength_6 (by decide) ?_
    refine lv_goto (tgt := 11) hx hb d_Wr_headLength_7 (by decide) ?_
    exact B11 _ 5 hv hk (lv_sub hl [] rfl)

-- ClauseLedger$Writer.length(IZI)I
abbrev b_Wr_length : ByteArray := prog_12_method_2_code
def y_Wr_length : MethodName := ⟨"ClauseLedger$Writer", "length", "(IZI)I"⟩
theorem hd_Wr_length : y_Wr_length.cls ≠ "java/lang/invoke/MethodHandle" ∧ y_Wr_length.cls ≠ "java/lang/invoke/VarHandle" ∧ (parseMethodDescriptor y_Wr_length.desc).map (fun d => d.parameters.length) = some 3 := by decide +kernel
theorem d_Wr_length_0 : decode b_Wr_length 0 = .ok (.iload_n 1, 1) := by decide +kernel
theorem d_Wr_length_1 : decode b_Wr_length 1 = .ok (.ifCond .eq 14, 3) := by decide +kernel
theorem d_Wr_length_4 : decode b_Wr_length 4 = .ok (.iload_n 0, 1) := by decide +kernel
theorem d_Wr_length_5 : decode b_Wr_length 5 = .ok (.invokestatic 15, 3) := by decide +kernel
theorem d_Wr_length_8 : decode b_Wr_length 8 = .ok (.iload_n 2, 1) := by decide +kernel
theorem d_Wr_length_9 : decode b_Wr_length 9 = .ok (.iadd, 1) := by decide +kernel
theorem d_Wr_length_10 : decode b_Wr_length 10 = .ok (.iconst 1, 1) := by decide +kernel
theorem d_Wr_length_11 : decode b_Wr_length 11 = .ok (.iadd, 1) := by decide +kernel
theorem d_Wr_length_12 : decode b_Wr_length 12 = .ok (.goto 4, 3) := by decide +kernel
theorem d_Wr_length_15 : decode b_Wr_length 15 = .ok (.iconst 1, 1) := by decide +kernel
theorem d_Wr_length_16 : decode b_Wr_length 16 = .ok (.ireturn, 1) := by decide +kernel
def f_Wr_length_16 (s0 : Int32) (σ : St) : Int32 := s0
def k_Wr_length_16 (s0 : Int32) (σ : St) : Prop := True
def f_Wr_length (a0 : Int32) (a1 : Int32) (a2 : Int32) (σ : St) : Int32 := if a1 = 0 then (f_Wr_length_16 1 σ) else (f_Wr_length_16 (((f_Wr_headLength a0 σ) + a2) + 1) σ)
def k_Wr_length (a0 : Int32) (a1 : Int32) (a2 : Int32) (σ : St) : Prop := (a1 = 0 → (k_Wr_length_16 1 σ)) ∧ (¬ a1 = 0 → ((k_Wr_headLength a0 σ) ∧ (k_Wr_length_16 (((f_Wr_headLength a0 σ) + a2) + 1) σ)))
abbrev w_Wr_length : List Cond := Cond.code y_Wr_length b_Wr_length 3 (some .int) :: gw
abbrev rm_Wr_length : Room := { frames := 1, cells := 0, slots := 0, locals := 20 }
set_option maxHeartbeats 4000000 in
set_option maxRecDepth 100000 in
theorem c_Wr_length (l : Launch) (D : va_G) (ty : Nat → ClassId) (h : Nat → Nat) (px : va_W) (sa : Nat → Nat) (σ : St) (a0 : Int32) (a1 : Int32) (a2 : Int32) (hk : k_Wr_length a0 a1 a2 σ) : Met l y_Wr_length w_Wr_length rm_Wr_length (va_Pc [.int a0, .int a1, .int a2] (fun U => va_P D classes (Wc ty h σ px) U.heap ∧ va_K D classes (Ta ty) U ∧ NW U ∧ MK sa (fun _ => False) U U.heap)) (k2_QcV (.int (f_Wr_length a0 a1 a2 σ))) 0 0 (fun _ => False) := by
  refine Met.ofW (cc := b_Wr_length) (maxL := 3) (ret := (some .int)) (by decide) rfl ?_
  intro p e s m args below meth c s₁ B hml hv
  obtain ⟨ha, hP, hK, hN, hM⟩ := hv
  have hx := B.exec
  have hb := B.bytes
  have hr := B.returns
  have hg : ∀ w ∈ gw, w.before args s = true := fun w h9 => atoms_spec (ws := w_Wr_length) B.pre w (List.mem_cons_of_mem _ h9)
  have hown : s.vm.findClass "ClauseLedger$Writer" = some m.cls := findClass_of_methodNamed B.named
  have hlocks := B.notSynchronized
  have he : entryFrame m args 3 = entryFrame m ([.int a0, .int a1, .int a2] : List Value).toArray 3 := by rw [ha]
  rw [he, lg_entry_eq]
  have hl := lv_entry ([.int a0, .int a1, .int a2]) (n := 3) (Nat.le_of_ble_eq_true rfl)
  generalize (lg_sl ([.int a0, .int a1, .int a2]) ++ List.replicate (3 - (lg_sl ([.int a0, .int a1, .int a2])).length) Slot.unset).toArray = ls at hl ⊢
  have hl : lv_has ls 3 [(0, .int a0), (1, .int a1), (2, .int a2)] := hl
  generalize hv : f_Wr_length a0 a1 a2 σ = v
  replace hv := hv.symm
  have B16 : ∀ (ls : Array Slot) (s0 : Int32), v = f_Wr_length_16 s0 σ → k_Wr_length_16 s0 σ → lv_has ls 3 [] → W p l e (headSpec w_Wr_length rm_Wr_length).room s m args below meth c s.heap [] 0 0 (MQ below (k2_QcV (.int v)) args s 0 0 (fun _ => False)) (F0 m 16 ls [.int s0]) := by
    intro ls s0 hv hk hl
    unfold f_Wr_length_16 at hv
    unfold k_Wr_length_16 at hk
    exact W.iret hx hb hr (fun t ht hW => ⟨by rw [hv], ht⟩) (fun q h => nomatch h) d_Wr_length_16
  unfold f_Wr_length at hv
  unfold k_Wr_length at hk
  refine lv_iload_n hx hb d_Wr_length_0 rfl (lv_at hl 1 rfl) ?_
  refine lv_if_eq (tgt := 15) hx hb d_Wr_length_1 (by decide) (fun hc => ?_) (fun hc => ?_)
  · have hv := hv.trans (if_pos hc)
    have hk := hk.1 hc
    refine lv_iconst (v := 1) hx hb d_Wr_length_15 (by decide) ?_
    exact B16 _ 1 hv hk (lv_sub hl [] rfl)
  · have hv := hv.trans (if_neg hc)
    have hk := hk.2 hc
    refine lv_iload_n hx hb d_Wr_length_4 rfl (lv_at hl 0 rfl) ?_
    obtain ⟨hk0, hk⟩ := hk
    refine zz_callV (va_runS (As := [.int a0]) (rest := []) ⟨hx, hb, hml, hown, hg⟩ (c_Wr_headLength l D ty h px sa σ a0 hk0) ⟨callB_of 1 hg (gw_C m_472) rfl rfl rfl (hg _ m_6) (hg _ m_470) hd_Wr_headLength ⟨Nat.le_of_ble_eq_true rfl, Nat.le_of_ble_eq_true rfl⟩, hg _ m_471⟩ (zz_preS hM hN hK hP) rfl rfl hl.1 rfl (lv_room (Nat.le_of_ble_eq_true rfl)) d_Wr_length_5 ⟨Nat.le_of_ble_eq_true rfl, Nat.le_of_ble_eq_true rfl⟩) ?_
    refine lv_iload_n hx hb d_Wr_length_8 rfl (lv_at hl 2 rfl) ?_
    refine lv_iadd hx hb d_Wr_length_9 ?_
    refine lv_iconst (v := 1) hx hb d_Wr_length_10 (by decide) ?_
    refine lv_iadd hx hb d_Wr_length_11 ?_
    refine lv_goto (tgt := 16) hx hb d_Wr_length_12 (by decide) ?_
    exact B16 _ (((f_Wr_headLength a0 σ) + a2) + 1) hv hk (lv_sub hl [] rfl)

-- ClauseLedger$Terms.freeOf(I)I
abbrev b_Te_freeOf : ByteArray := prog_11_method_24_code
def y_Te_freeOf : MethodName := ⟨"ClauseLedger$Terms", "freeOf", "(I)I"⟩
theorem hd_Te_freeOf : y_Te_freeOf.cls ≠ "java/lang/invoke/MethodHandle" ∧ y_Te_freeOf.cls ≠ "java/lang/invoke/VarHandle" ∧ (parseMethodDescriptor y_Te_freeOf.desc).map (fun d => d.parameters.length) = some 1 := by decide +kernel
theorem d_Te_freeOf_0 : decode b_Te_freeOf 0 = .ok (.aload_n 0, 1) := by decide +kernel
theorem d_Te_freeOf_1 : decode b_Te_freeOf 1 = .ok (.iload_n 1, 1) := by decide +kernel
theorem d_Te_freeOf_2 : decode b_Te_freeOf 2 = .ok (.invokevirtual 57, 3) := by decide +kernel
theorem d_Te_freeOf_5 : decode b_Te_freeOf 5 = .ok (.ifCond .eq 12, 3) := by decide +kernel
theorem d_Te_freeOf_8 : decode b_Te_freeOf 8 = .ok (.aload_n 0, 1) := by decide +kernel
theorem d_Te_freeOf_9 : decode b_Te_freeOf 9 = .ok (.getfield 39, 3) := by decide +kernel
theorem d_Te_freeOf_12 : decode b_Te_freeOf 12 = .ok (.iload_n 1, 1) := by decide +kernel
theorem d_Te_freeOf_13 : decode b_Te_freeOf 13 = .ok (.iaload, 1) := by decide +kernel
theorem d_Te_freeOf_14 : decode b_Te_freeOf 14 = .ok (.goto 4, 3) := by decide +kernel
theorem d_Te_freeOf_17 : decode b_Te_freeOf 17 = .ok (.iconst 0, 1) := by decide +kernel
theorem d_Te_freeOf_18 : decode b_Te_freeOf 18 = .ok (.ireturn, 1) := by decide +kernel
def f_Te_freeOf_18 (s0 : Int32) (σ : St) : Int32 := s0
def k_Te_freeOf_18 (s0 : Int32) (σ : St) : Prop := True
def f_Te_freeOf (a1 : Int32) (σ : St) : Int32 := if (f_Te_has a1 σ) = 0 then (f_Te_freeOf_18 0 σ) else (f_Te_freeOf_18 (σ.1 16 a1.toNatClampNeg) σ)
def k_Te_freeOf (a1 : Int32) (σ : St) : Prop := (k_Te_has a1 σ) ∧ (((f_Te_has a1 σ) = 0 → (k_Te_freeOf_18 0 σ)) ∧ (¬ (f_Te_has a1 σ) = 0 → (vp_in a1 208 ∧ (k_Te_freeOf_18 (σ.1 16 a1.toNatClampNeg) σ))))
abbrev w_Te_freeOf : List Cond := Cond.code y_Te_freeOf b_Te_freeOf 2 (some .int) :: gw
abbrev rm_Te_freeOf : Room := { frames := 1, cells := 0, slots := 0, locals := 21 }
set_option maxHeartbeats 4000000 in
set_option maxRecDepth 100000 in
theorem c_Te_freeOf (l : Launch) (D : va_G) (ty : Nat → ClassId) (h : Nat → Nat) (px : va_W) (sa : Nat → Nat) (σ : St) (a1 : Int32) (hk : k_Te_freeOf a1 σ) : Met l y_Te_freeOf w_Te_freeOf rm_Te_freeOf (va_Pc [.ref (h 6), .int a1] (fun U => va_P D classes (Wc ty h σ px) U.heap ∧ va_K D classes (Ta ty) U ∧ NW U ∧ MK sa (fun _ => False) U U.heap)) (k2_QcV (.int (f_Te_freeOf a1 σ))) 0 0 (fun _ => False) := by
  refine Met.ofW (cc := b_Te_freeOf) (maxL := 2) (ret := (some .int)) (by decide) rfl ?_
  intro p e s m args below meth c s₁ B hml hv
  obtain ⟨ha, hP, hK, hN, hM⟩ := hv
  have hx := B.exec
  have hb := B.bytes
  have hr := B.returns
  have hg : ∀ w ∈ gw, w.before args s = true := fun w h9 => atoms_spec (ws := w_Te_freeOf) B.pre w (List.mem_cons_of_mem _ h9)
  have hown : s.vm.findClass "ClauseLedger$Terms" = some m.cls := findClass_of_methodNamed B.named
  have hlocks := B.notSynchronized
  have he : entryFrame m args 2 = entryFrame m ([.ref (h 6), .int a1] : List Value).toArray 2 := by rw [ha]
  rw [he, lg_entry_eq]
  have hl := lv_entry ([.ref (h 6), .int a1]) (n := 2) (Nat.le_of_ble_eq_true rfl)
  generalize (lg_sl ([.ref (h 6), .int a1]) ++ List.replicate (2 - (lg_sl ([.ref (h 6), .int a1])).length) Slot.unset).toArray = ls at hl ⊢
  have hl : lv_has ls 2 [(0, .ref (h 6)), (1, .int a1)] := hl
  generalize hv : f_Te_freeOf a1 σ = v
  replace hv := hv.symm
  have B18 : ∀ (ls : Array Slot) (s0 : Int32), v = f_Te_freeOf_18 s0 σ → k_Te_freeOf_18 s0 σ → lv_has ls 2 [] → W p l e (headSpec w_Te_freeOf rm_Te_freeOf).room s m args below meth c s.heap [] 0 0 (MQ below (k2_QcV (.int v)) args s 0 0 (fun _ => False)) (F0 m 18 ls [.int s0]) := by
    intro ls s0 hv hk hl
    unfold f_Te_freeOf_18 at hv
    unfold k_Te_freeOf_18 at hk
    exact W.iret hx hb hr (fun t ht hW => ⟨by rw [hv], ht⟩) (fun q h => nomatch h) d_Te_freeOf_18
  unfold f_Te_freeOf at hv
  unfold k_Te_freeOf at hk
  refine lv_aload_n hx hb d_Te_freeOf_0 rfl (lv_at hl 0 rfl) ?_
  refine lv_iload_n hx hb d_Te_freeOf_1 rfl (lv_at hl 1 rfl) ?_
  obtain ⟨hk0, hk⟩ := hk
  refine zz_callV (va_runV (As := [.int a1]) (rest := []) ⟨hx, hb, hml, hown, hg⟩ (c_Te_has l D ty h px sa σ a1 hk0) ⟨callB_of 1 hg (gw_C m_430) rfl rfl rfl (hg _ m_3) (hg _ m_435) hd_Te_has ⟨Nat.le_of_ble_eq_true rfl, Nat.le_of_ble_eq_true rfl⟩, hg _ m_428, hg _ m_429⟩ (zz_preV hM hN hK hP 6 rfl rfl) rfl rfl hl.1 rfl (lv_room (Nat.le_of_ble_eq_true rfl)) d_Te_freeOf_2 ⟨Nat.le_of_ble_eq_true rfl, Nat.le_of_ble_eq_true rfl⟩) ?_
  refine lv_if_eq (tgt := 17) hx hb d_Te_freeOf_5 (by decide) (fun hc => ?_) (fun hc => ?_)
  · have hv := hv.trans (if_pos hc)
    have hk := hk.1 hc
    refine lv_iconst (v := 0) hx hb d_Te_freeOf_17 (by decide) ?_
    exact B18 _ 0 hv hk (lv_sub hl [] rfl)
  · have hv := hv.trans (if_neg hc)
    have hk := hk.2 hc
    refine lv_aload_n hx hb d_Te_freeOf_8 rfl (lv_at hl 0 rfl) ?_
    refine va_get (v := .ref (h 16)) (C := R_Te) (T := T_Te) (N := 14) hx hb hg in_Te hown hK hP 6 rfl rfl 9 (by decide) (hg _ m_78) (fun _ h9 => h9) rfl d_Te_freeOf_9 ?_
    refine lv_iload_n hx hb d_Te_freeOf_12 rfl (lv_at hl 1 rfl) ?_
    obtain ⟨hk0, hk⟩ := hk
    refine va_iald hx hb hK hP 16 0 rfl rfl hk0 d_Te_freeOf_13 ?_
    refine lv_goto (tgt := 18) hx hb d_Te_freeOf_14 (by decide) ?_
    exact B18 _ (σ.1 16 a1.toNatClampNeg) hv hk (lv_sub hl [] rfl)

-- ClauseLedger$Terms.freeBy(III)I
abbrev b_Te_freeBy : ByteArray := prog_11_method_25_code
def y_Te_freeBy : MethodName := ⟨"ClauseLedger$Terms", "freeBy", "(III)I"⟩
theorem hd_Te_freeBy : y_Te_freeBy.cls ≠ "java/lang/invoke/MethodHandle" ∧ y_Te_freeBy.cls ≠ "java/lang/invoke/VarHandle" ∧ (parseMethodDescriptor y_Te_freeBy.desc).map (fun d => d.parameters.length) = some 3 := by decide +kernel
theorem d_Te_freeBy_0 : decode b_Te_freeBy 0 = .ok (.iload_n 0, 1) := by decide +kernel
theorem d_Te_freeBy_1 : decode b_Te_freeBy 1 = .ok (.iconst 1, 1) := by decide +kernel
theorem d_Te_freeBy_2 : decode b_Te_freeBy 2 = .ok (.if_icmp .ne 7, 3) := by decide +kernel
theorem d_Te_freeBy_5 : decode b_Te_freeBy 5 = .ok (.iconst 1, 1) := by decide +kernel
theorem d_Te_freeBy_6 : decode b_Te_freeBy 6 = .ok (.iload_n 1, 1) := by decide +kernel
theorem d_Te_freeBy_7 : decode b_Te_freeBy 7 = .ok (.ishl, 1) := by decide +kernel
theorem d_Te_freeBy_8 : decode b_Te_freeBy 8 = .ok (.ireturn, 1) := by decide +kernel
theorem d_Te_freeBy_9 : decode b_Te_freeBy 9 = .ok (.iload_n 0, 1) := by decide +kernel
theorem d_Te_freeBy_10 : decode b_Te_freeBy 10 = .ok (.bipush 10, 2) := by decide +kernel
theorem d_Te_freeBy_12 : decode b_Te_freeBy 12 = .ok (.if_icmp .ne 13, 3) := by decide +kernel
theorem d_Te_freeBy_15 : decode b_Te_freeBy 15 = .ok (.iload_n 2, 1) := by decide +kernel
theorem d_Te_freeBy_16 : decode b_Te_freeBy 16 = .ok (.iconst 1, 1) := by decide +kernel
theorem d_Te_freeBy_17 : decode b_Te_freeBy 17 = .ok (.iload_n 1, 1) := by decide +kernel
theorem d_Te_freeBy_18 : decode b_Te_freeBy 18 = .ok (.ishl, 1) := by decide +kernel
theorem d_Te_freeBy_19 : decode b_Te_freeBy 19 = .ok (.iconst (-1), 1) := by decide +kernel
theorem d_Te_freeBy_20 : decode b_Te_freeBy 20 = .ok (.ixor, 1) := by decide +kernel
theorem d_Te_freeBy_21 : decode b_Te_freeBy 21 = .ok (.iand, 1) := by decide +kernel
theorem d_Te_freeBy_22 : decode b_Te_freeBy 22 = .ok (.goto 4, 3) := by decide +kernel
theorem d_Te_freeBy_25 : decode b_Te_freeBy 25 = .ok (.iload_n 2, 1) := by decide +kernel
theorem d_Te_freeBy_26 : decode b_Te_freeBy 26 = .ok (.ireturn, 1) := by decide +kernel
def f_Te_freeBy_26 (s0 : Int32) (σ : St) : Int32 := s0
def k_Te_freeBy_26 (s0 : Int32) (σ : St) : Prop := True
def f_Te_freeBy (a0 : Int32) (a1 : Int32) (a2 : Int32) (σ : St) : Int32 := if a0 = 1 then (1 <<< (a1 &&& 31)) else (if a0 = 10 then (f_Te_freeBy_26 (a2 &&& ((1 <<< (a1 &&& 31)) ^^^ (-1))) σ) else (f_Te_freeBy_26 a2 σ))
def k_Te_freeBy (a0 : Int32) (a1 : Int32) (a2 : Int32) (σ : St) : Prop := (a0 = 1 → True) ∧ (¬ a0 = 1 → ((a0 = 10 → (k_Te_freeBy_26 (a2 &&& ((1 <<< (a1 &&& 31)) ^^^ (-1))) σ)) ∧ (¬ a0 = 10 → (k_Te_freeBy_26 a2 σ))))
abbrev w_Te_freeBy : List Cond := Cond.code y_Te_freeBy b_Te_freeBy 3 (some .int) :: gw
abbrev rm_Te_freeBy : Room := { frames := 0, cells := 0, slots := 0, locals := 0 }
set_option maxHeartbeats 4000000 in
set_option maxRecDepth 100000 in
theorem c_Te_freeBy (l : Launch) (D : va_G) (ty : Nat → ClassId) (h : Nat → Nat) (px : va_W) (sa : Nat → Nat) (σ : St) (a0 : Int32) (a1 : Int32) (a2 : Int32) (hk : k_Te_freeBy a0 a1 a2 σ) : Met l y_Te_freeBy w_Te_freeBy rm_Te_freeBy (va_Pc [.int a0, .int a1, .int a2] (fun U => va_P D classes (Wc ty h σ px) U.heap ∧ va_K D classes (Ta ty) U ∧ NW U ∧ MK sa (fun _ => False) U U.heap)) (k2_QcV (.int (f_Te_freeBy a0 a1 a2 σ))) 0 0 (fun _ => False) := by
  refine Met.ofW (cc := b_Te_freeBy) (maxL := 3) (ret := (some .int)) (by decide) rfl ?_
  intro p e s m args below meth c s₁ B hml hv
  obtain ⟨ha, hP, hK, hN, hM⟩ := hv
  have hx := B.exec
  have hb := B.bytes
  have hr := B.returns
  have hg : ∀ w ∈ gw, w.before args s = true := fun w h9 => atoms_spec (ws := w_Te_freeBy) B.pre w (List.mem_cons_of_mem _ h9)
  have hown : s.vm.findClass "ClauseLedger$Terms" = some m.cls := findClass_of_methodNamed B.named
  have hlocks := B.notSynchronized
  have he : entryFrame m args 3 = entryFrame m ([.int a0, .int a1, .int a2] : List Value).toArray 3 := by rw [ha]
  rw [he, lg_entry_eq]
  have hl := lv_entry ([.int a0, .int a1, .int a2]) (n := 3) (Nat.le_of_ble_eq_true rfl)
  generalize (lg_sl ([.int a0, .int a1, .int a2]) ++ List.replicate (3 - (lg_sl ([.int a0, .int a1, .int a2])).length) Slot.unset).toArray = ls at hl ⊢
  have hl : lv_has ls 3 [(0, .int a0), (1, .int a1), (2, .int a2)] := hl
  generalize hv : f_Te_freeBy a0 a1 a2 σ = v
  replace hv := hv.symm
  have B26 : ∀ (ls : Array Slot) (s0 : Int32), v = f_Te_freeBy_26 s0 σ → k_Te_freeBy_26 s0 σ → lv_has ls 3 [] → W p l e (headSpec w_Te_freeBy rm_Te_freeBy).room s m args below meth c s.heap [] 0 0 (MQ below (k2_QcV (.int v)) args s 0 0 (fun _ => False)) (F0 m 26 ls [.int s0]) := by
    intro ls s0 hv hk hl
    unfold f_Te_freeBy_26 at hv
    unfold k_Te_freeBy_26 at hk
    exact W.iret hx hb hr (fun t ht hW => ⟨by rw [hv], ht⟩) (fun q h => nomatch h) d_Te_freeBy_26
  unfold f_Te_freeBy at hv
  unfold k_Te_freeBy at hk
  refine lv_iload_n hx hb d_Te_freeBy_0 rfl (lv_at hl 0 rfl) ?_
  refine lv_iconst (v := 1) hx hb d_Te_freeBy_1 (by decide) ?_
  refine lv_icmp_ne (tgt := 9) hx hb d_Te_freeBy_2 (by decide) (fun hc => ?_) (fun hc => ?_)
  · have hv := hv.trans (if_neg hc)
    have hk := hk.2 hc
    refine lv_iload_n hx hb d_Te_freeBy_9 rfl (lv_at hl 0 rfl) ?_
    refine lv_bipush (v := 10) hx hb d_Te_freeBy_10 (by decide) ?_
    refine lv_icmp_ne (tgt := 25) hx hb d_Te_freeBy_12 (by decide) (fun hc => ?_) (fun hc => ?_)
    · have hv := hv.trans (if_neg hc)
      have hk := hk.2 hc
      refine lv_iload_n hx hb d_Te_freeBy_25 rfl (lv_at hl 2 rfl) ?_
      exact B26 _ a2 hv hk (lv_sub hl [] rfl)
    · have hv := hv.trans (if_pos hc)
      have hk := hk.1 hc
      refine lv_iload_n hx hb d_Te_freeBy_15 rfl (lv_at hl 2 rfl) ?_
      refine lv_iconst (v := 1) hx hb d_Te_freeBy_16 (by decide) ?_
      refine lv_iload_n hx hb d_Te_freeBy_17 rfl (lv_at hl 1 rfl) ?_
      refine lv_ishl hx hb d_Te_freeBy_18 ?_
      refine lv_iconst (v := -1) hx hb d_Te_freeBy_19 (by decide) ?_
      refine lv_ixor hx hb d_Te_freeBy_20 ?_
      refine lv_iand hx hb d_Te_freeBy_21 ?_
      refine lv_goto (tgt := 26) hx hb d_Te_freeBy_22 (by decide) ?_
      exact B26 _ (a2 &&& ((1 <<< (a1 &&& 31)) ^^^ (-1))) hv hk (lv_sub hl [] rfl)
  · have hv := hv.trans (if_pos hc)
    have hk := hk.1 hc
    refine lv_iconst (v := 1) hx hb d_Te_freeBy_5 (by decide) ?_
    refine lv_iload_n hx hb d_Te_freeBy_6 rfl (lv_at hl 1 rfl) ?_
    refine lv_ishl hx hb d_Te_freeBy_7 ?_
    exact W.iret hx hb hr (fun t ht hW => ⟨by rw [hv], ht⟩) (fun q h => nomatch h) d_Te_freeBy_8

-- ClauseLedger$Terms.make(IIIII)I
abbrev b_Te_make : ByteArray := prog_11_method_19_code
def y_Te_make : MethodName := ⟨"ClauseLedger$Terms", "make", "(IIIII)I"⟩
theorem hd_Te_make : y_Te_make.cls ≠ "java/lang/invoke/MethodHandle" ∧ y_Te_make.cls ≠ "java/lang/invoke/VarHandle" ∧ (parseMethodDescriptor y_Te_make.desc).map (fun d => d.parameters.length) = some 5 := by decide +kernel
theorem d_Te_make_0 : decode b_Te_make 0 = .ok (.iload_n 1, 1) := by decide +kernel
theorem d_Te_make_1 : decode b_Te_make 1 = .ok (.iload_n 3, 1) := by decide +kernel
theorem d_Te_make_2 : decode b_Te_make 2 = .ok (.iload 4, 2) := by decide +kernel
theorem d_Te_make_4 : decode b_Te_make 4 = .ok (.iload 5, 2) := by decide +kernel
theorem d_Te_make_6 : decode b_Te_make 6 = .ok (.invokestatic 68, 3) := by decide +kernel
theorem d_Te_make_9 : decode b_Te_make 9 = .ok (.lstore 6, 2) := by decide +kernel
theorem d_Te_make_11 : decode b_Te_make 11 = .ok (.aload_n 0, 1) := by decide +kernel
theorem d_Te_make_12 : decode b_Te_make 12 = .ok (.lload 6, 2) := by decide +kernel
theorem d_Te_make_14 : decode b_Te_make 14 = .ok (.iload 4, 2) := by decide +kernel
theorem d_Te_make_16 : decode b_Te_make 16 = .ok (.iload 5, 2) := by decide +kernel
theorem d_Te_make_18 : decode b_Te_make 18 = .ok (.invokestatic 72, 3) := by decide +kernel
theorem d_Te_make_21 : decode b_Te_make 21 = .ok (.iconst 1, 1) := by decide +kernel
theorem d_Te_make_22 : decode b_Te_make 22 = .ok (.iadd, 1) := by decide +kernel
theorem d_Te_make_23 : decode b_Te_make 23 = .ok (.invokevirtual 78, 3) := by decide +kernel
theorem d_Te_make_26 : decode b_Te_make 26 = .ok (.istore 8, 2) := by decide +kernel
theorem d_Te_make_28 : decode b_Te_make 28 = .ok (.iload 8, 2) := by decide +kernel
theorem d_Te_make_30 : decode b_Te_make 30 = .ok (.iconst (-1), 1) := by decide +kernel
theorem d_Te_make_31 : decode b_Te_make 31 = .ok (.if_icmp .eq 6, 3) := by decide +kernel
theorem d_Te_make_34 : decode b_Te_make 34 = .ok (.iload 8, 2) := by decide +kernel
theorem d_Te_make_36 : decode b_Te_make 36 = .ok (.ireturn, 1) := by decide +kernel
theorem d_Te_make_37 : decode b_Te_make 37 = .ok (.aload_n 0, 1) := by decide +kernel
theorem d_Te_make_38 : decode b_Te_make 38 = .ok (.lload 6, 2) := by decide +kernel
theorem d_Te_make_40 : decode b_Te_make 40 = .ok (.iload_n 1, 1) := by decide +kernel
theorem d_Te_make_41 : decode b_Te_make 41 = .ok (.iload_n 2, 1) := by decide +kernel
theorem d_Te_make_42 : decode b_Te_make 42 = .ok (.iload_n 3, 1) := by decide +kernel
theorem d_Te_make_43 : decode b_Te_make 43 = .ok (.invokevirtual 82, 3) := by decide +kernel
theorem d_Te_make_46 : decode b_Te_make 46 = .ok (.istore 9, 2) := by decide +kernel
theorem d_Te_make_48 : decode b_Te_make 48 = .ok (.aload_n 0, 1) := by decide +kernel
theorem d_Te_make_49 : decode b_Te_make 49 = .ok (.getfield 21, 3) := by decide +kernel
theorem d_Te_make_52 : decode b_Te_make 52 = .ok (.iload 9, 2) := by decide +kernel
theorem d_Te_make_54 : decode b_Te_make 54 = .ok (.iload 4, 2) := by decide +kernel
theorem d_Te_make_56 : decode b_Te_make 56 = .ok (.iastore, 1) := by decide +kernel
theorem d_Te_make_57 : decode b_Te_make 57 = .ok (.aload_n 0, 1) := by decide +kernel
theorem d_Te_make_58 : decode b_Te_make 58 = .ok (.getfield 24, 3) := by decide +kernel
theorem d_Te_make_61 : decode b_Te_make 61 = .ok (.iload 9, 2) := by decide +kernel
theorem d_Te_make_63 : decode b_Te_make 63 = .ok (.iload 5, 2) := by decide +kernel
theorem d_Te_make_65 : decode b_Te_make 65 = .ok (.iastore, 1) := by decide +kernel
theorem d_Te_make_66 : decode b_Te_make 66 = .ok (.aload_n 0, 1) := by decide +kernel
theorem d_Te_make_67 : decode b_Te_make 67 = .ok (.getfield 33, 3) := by decide +kernel
theorem d_Te_make_70 : decode b_Te_make 70 = .ok (.iload 9, 2) := by decide +kernel
theorem d_Te_make_72 : decode b_Te_make 72 = .ok (.iconst 1, 1) := by decide +kernel
theorem d_Te_make_73 : decode b_Te_make 73 = .ok (.aload_n 0, 1) := by decide +kernel
theorem d_Te_make_74 : decode b_Te_make 74 = .ok (.iload 4, 2) := by decide +kernel
theorem d_Te_make_76 : decode b_Te_make 76 = .ok (.invokevirtual 86, 3) := by decide +kernel
theorem d_Te_make_79 : decode b_Te_make 79 = .ok (.aload_n 0, 1) := by decide +kernel
theorem d_Te_make_80 : decode b_Te_make 80 = .ok (.iload 5, 2) := by decide +kernel
theorem d_Te_make_82 : decode b_Te_make 82 = .ok (.invokevirtual 86, 3) := by decide +kernel
theorem d_Te_make_85 : decode b_Te_make 85 = .ok (.invokestatic 72, 3) := by decide +kernel
theorem d_Te_make_88 : decode b_Te_make 88 = .ok (.iadd, 1) := by decide +kernel
theorem d_Te_make_89 : decode b_Te_make 89 = .ok (.iastore, 1) := by decide +kernel
theorem d_Te_make_90 : decode b_Te_make 90 = .ok (.aload_n 0, 1) := by decide +kernel
theorem d_Te_make_91 : decode b_Te_make 91 = .ok (.getfield 36, 3) := by decide +kernel
theorem d_Te_make_94 : decode b_Te_make 94 = .ok (.iload 9, 2) := by decide +kernel
theorem d_Te_make_96 : decode b_Te_make 96 = .ok (.iload_n 1, 1) := by decide +kernel
theorem d_Te_make_97 : decode b_Te_make 97 = .ok (.iload 4, 2) := by decide +kernel
theorem d_Te_make_99 : decode b_Te_make 99 = .ok (.iconst (-1), 1) := by decide +kernel
theorem d_Te_make_100 : decode b_Te_make 100 = .ok (.if_icmp .eq 7, 3) := by decide +kernel
theorem d_Te_make_103 : decode b_Te_make 103 = .ok (.iconst 1, 1) := by decide +kernel
theorem d_Te_make_104 : decode b_Te_make 104 = .ok (.goto 4, 3) := by decide +kernel
theorem d_Te_make_107 : decode b_Te_make 107 = .ok (.iconst 0, 1) := by decide +kernel
theorem d_Te_make_108 : decode b_Te_make 108 = .ok (.aload_n 0, 1) := by decide +kernel
theorem d_Te_make_109 : decode b_Te_make 109 = .ok (.iload 4, 2) := by decide +kernel
theorem d_Te_make_111 : decode b_Te_make 111 = .ok (.invokevirtual 89, 3) := by decide +kernel
theorem d_Te_make_114 : decode b_Te_make 114 = .ok (.invokestatic 92, 3) := by decide +kernel
theorem d_Te_make_117 : decode b_Te_make 117 = .ok (.iload 5, 2) := by decide +kernel
theorem d_Te_make_119 : decode b_Te_make 119 = .ok (.iconst (-1), 1) := by decide +kernel
theorem d_Te_make_120 : decode b_Te_make 120 = .ok (.if_icmp .ne 7, 3) := by decide +kernel
theorem d_Te_make_123 : decode b_Te_make 123 = .ok (.iconst 0, 1) := by decide +kernel
theorem d_Te_make_124 : decode b_Te_make 124 = .ok (.goto 11, 3) := by decide +kernel
theorem d_Te_make_127 : decode b_Te_make 127 = .ok (.iconst 1, 1) := by decide +kernel
theorem d_Te_make_128 : decode b_Te_make 128 = .ok (.aload_n 0, 1) := by decide +kernel
theorem d_Te_make_129 : decode b_Te_make 129 = .ok (.iload 5, 2) := by decide +kernel
theorem d_Te_make_131 : decode b_Te_make 131 = .ok (.invokevirtual 89, 3) := by decide +kernel
theorem d_Te_make_134 : decode b_Te_make 134 = .ok (.iadd, 1) := by decide +kernel
theorem d_Te_make_135 : decode b_Te_make 135 = .ok (.iadd, 1) := by decide +kernel
theorem d_Te_make_136 : decode b_Te_make 136 = .ok (.iastore, 1) := by decide +kernel
theorem d_Te_make_137 : decode b_Te_make 137 = .ok (.aload_n 0, 1) := by decide +kernel
theorem d_Te_make_138 : decode b_Te_make 138 = .ok (.getfield 39, 3) := by decide +kernel
theorem d_Te_make_141 : decode b_Te_make 141 = .ok (.iload 9, 2) := by decide +kernel
theorem d_Te_make_143 : decode b_Te_make 143 = .ok (.iload_n 1, 1) := by decide +kernel
theorem d_Te_make_144 : decode b_Te_make 144 = .ok (.iload_n 3, 1) := by decide +kernel
theorem d_Te_make_145 : decode b_Te_make 145 = .ok (.aload_n 0, 1) := by decide +kernel
theorem d_Te_make_146 : decode b_Te_make 146 = .ok (.iload 4, 2) := by decide +kernel
theorem d_Te_make_148 : decode b_Te_make 148 = .ok (.invokevirtual 65, 3) := by decide +kernel
theorem d_Te_make_151 : decode b_Te_make 151 = .ok (.aload_n 0, 1) := by decide +kernel
theorem d_Te_make_152 : decode b_Te_make 152 = .ok (.iload 5, 2) := by decide +kernel
theorem d_Te_make_154 : decode b_Te_make 154 = .ok (.invokevirtual 65, 3) := by decide +kernel
theorem d_Te_make_157 : decode b_Te_make 157 = .ok (.ior, 1) := by decide +kernel
theorem d_Te_make_158 : decode b_Te_make 158 = .ok (.invokestatic 98, 3) := by decide +kernel
theorem d_Te_make_161 : decode b_Te_make 161 = .ok (.iastore, 1) := by decide +kernel
theorem d_Te_make_162 : decode b_Te_make 162 = .ok (.aload_n 0, 1) := by decide +kernel
theorem d_Te_make_163 : decode b_Te_make 163 = .ok (.aload_n 0, 1) := by decide +kernel
theorem d_Te_make_164 : decode b_Te_make 164 = .ok (.getfield 53, 3) := by decide +kernel
theorem d_Te_make_167 : decode b_Te_make 167 = .ok (.ifCond .ne 15, 3) := by decide +kernel
theorem d_Te_make_170 : decode b_Te_make 170 = .ok (.aload_n 0, 1) := by decide +kernel
theorem d_Te_make_171 : decode b_Te_make 171 = .ok (.getfield 33, 3) := by decide +kernel
theorem d_Te_make_174 : decode b_Te_make 174 = .ok (.iload 9, 2) := by decide +kernel
theorem d_Te_make_176 : decode b_Te_make 176 = .ok (.iaload, 1) := by decide +kernel
theorem d_Te_make_177 : decode b_Te_make 177 = .ok (.bipush 12, 2) := by decide +kernel
theorem d_Te_make_179 : decode b_Te_make 179 = .ok (.if_icmp .le 7, 3) := by decide +kernel
theorem d_Te_make_182 : decode b_Te_make 182 = .ok (.iconst 1, 1) := by decide +kernel
theorem d_Te_make_183 : decode b_Te_make 183 = .ok (.goto 4, 3) := by decide +kernel
theorem d_Te_make_186 : decode b_Te_make 186 = .ok (.iconst 0, 1) := by decide +kernel
theorem d_Te_make_187 : decode b_Te_make 187 = .ok (.putfield 53, 3) := by decide +kernel
theorem d_Te_make_190 : decode b_Te_make 190 = .ok (.iload 9, 2) := by decide +kernel
theorem d_Te_make_192 : decode b_Te_make 192 = .ok (.ireturn, 1) := by decide +kernel
def f_Te_make_190 (x9 : Int32) (σ : St) : Int32 × St := (x9, σ)
def k_Te_make_190 (x9 : Int32) (σ : St) : Prop := True
def f_Te_make_187 (x9 : Int32) (s0 : Int32) (σ : St) : Int32 × St := f_Te_make_190 x9 (sF σ 6 13 s0)
def k_Te_make_187 (x9 : Int32) (s0 : Int32) (σ : St) : Prop := (narrow .boolean (.int s0) = .int s0 ∧ fits .boolean (.int s0) = true) ∧ (k_Te_make_190 x9 (sF σ 6 13 s0))
def f_Te_make_182 (x9 : Int32) (σ : St) : Int32 × St := f_Te_make_187 x9 1 σ
def k_Te_make_182 (x9 : Int32) (σ : St) : Prop := k_Te_make_187 x9 1 σ
def f_Te_make_162 (x9 : Int32) (σ : St) : Int32 × St := if (σ.1 6 13) = 0 then (if (σ.1 14 x9.toNatClampNeg) ≤ 12 then (f_Te_make_187 x9 0 σ) else (f_Te_make_182 x9 σ)) else (f_Te_make_182 x9 σ)
def k_Te_make_162 (x9 : Int32) (σ : St) : Prop := ((σ.1 6 13) = 0 → (vp_in x9 208 ∧ (((σ.1 14 x9.toNatClampNeg) ≤ 12 → (k_Te_make_187 x9 0 σ)) ∧ (¬ (σ.1 14 x9.toNatClampNeg) ≤ 12 → (k_Te_make_182 x9 σ))))) ∧ (¬ (σ.1 6 13) = 0 → (k_Te_make_182 x9 σ))
def f_Te_make_137 (x1 : Int32) (x3 : Int32) (x4 : Int32) (x5 : Int32) (x9 : Int32) (σ : St) : Int32 × St := f_Te_make_162 x9 (sA σ 16 x9 (f_Te_freeBy x1 x3 ((f_Te_freeOf x4 σ) ||| (f_Te_freeOf x5 σ)) σ))
def k_Te_make_137 (x1 : Int32) (x3 : Int32) (x4 : Int32) (x5 : Int32) (x9 : Int32) (σ : St) : Prop := (k_Te_freeOf x4 σ) ∧ ((k_Te_freeOf x5 σ) ∧ ((k_Te_freeBy x1 x3 ((f_Te_freeOf x4 σ) ||| (f_Te_freeOf x5 σ)) σ) ∧ (vp_in x9 208 ∧ (k_Te_make_162 x9 (sA σ 16 x9 (f_Te_freeBy x1 x3 ((f_Te_freeOf x4 σ) ||| (f_Te_freeOf x5 σ)) σ))))))
def f_Te_make_135 (x1 : Int32) (x3 : Int32) (x4 : Int32) (x5 : Int32) (x9 : Int32) (s0 : Int32) (s1 : Int32) (s2 : Int32) (σ : St) : Int32 × St := f_Te_make_137 x1 x3 x4 x5 x9 (sA σ 15 s2 (s1 + s0))
def k_Te_make_135 (x1 : Int32) (x3 : Int32) (x4 : Int32) (x5 : Int32) (x9 : Int32) (s0 : Int32) (s1 : Int32) (s2 : Int32) (σ : St) : Prop := vp_in s2 208 ∧ (k_Te_make_137 x1 x3 x4 x5 x9 (sA σ 15 s2 (s1 + s0)))
def f_Te_make_108 (x1 : Int32) (x3 : Int32) (x4 : Int32) (x5 : Int32) (x9 : Int32) (s0 : Int32) (s1 : Int32) (s2 : Int32) (σ : St) : Int32 × St := if x5 = (-1) then (f_Te_make_135 x1 x3 x4 x5 x9 0 (f_Wr_length s1 s0 (f_Te_lengthOf x4 σ) σ) s2 σ) else (f_Te_make_135 x1 x3 x4 x5 x9 (1 + (f_Te_lengthOf x5 σ)) (f_Wr_length s1 s0 (f_Te_lengthOf x4 σ) σ) s2 σ)
def k_Te_make_108 (x1 : Int32) (x3 : Int32) (x4 : Int32) (x5 : Int32) (x9 : Int32) (s0 : Int32) (s1 : Int32) (s2 : Int32) (σ : St) : Prop := (k_Te_lengthOf x4 σ) ∧ ((k_Wr_length s1 s0 (f_Te_lengthOf x4 σ) σ) ∧ ((x5 = (-1) → (k_Te_make_135 x1 x3 x4 x5 x9 0 (f_Wr_length s1 s0 (f_Te_lengthOf x4 σ) σ) s2 σ)) ∧ (¬ x5 = (-1) → ((k_Te_lengthOf x5 σ) ∧ (k_Te_make_135 x1 x3 x4 x5 x9 (1 + (f_Te_lengthOf x5 σ)) (f_Wr_length s1 s0 (f_Te_lengthOf x4 σ) σ) s2 σ)))))
def f_Te_make_90 (x1 : Int32) (x3 : Int32) (x4 : Int32) (x5 : Int32) (x9 : Int32) (σ : St) : Int32 × St := if x4 = (-1) then (f_Te_make_108 x1 x3 x4 x5 x9 0 x1 x9 σ) else (f_Te_make_108 x1 x3 x4 x5 x9 1 x1 x9 σ)
def k_Te_make_90 (x1 : Int32) (x3 : Int32) (x4 : Int32) (x5 : Int32) (x9 : Int32) (σ : St) : Prop := (x4 = (-1) → (k_Te_make_108 x1 x3 x4 x5 x9 0 x1 x9 σ)) ∧ (¬ x4 = (-1) → (k_Te_make_108 x1 x3 x4 x5 x9 1 x1 x9 σ))
def f_Te_make_66 (x1 : Int32) (x3 : Int32) (x4 : Int32) (x5 : Int32) (x9 : Int32) (σ : St) : Int32 × St := f_Te_make_90 x1 x3 x4 x5 x9 (sA σ 14 x9 (1 + (if (f_Te_depthOf x4 σ) < (f_Te_depthOf x5 σ) then (f_Te_depthOf x5 σ) else (f_Te_depthOf x4 σ))))
def k_Te_make_66 (x1 : Int32) (x3 : Int32) (x4 : Int32) (x5 : Int32) (x9 : Int32) (σ : St) : Prop := (k_Te_depthOf x4 σ) ∧ ((k_Te_depthOf x5 σ) ∧ (vp_in x9 208 ∧ (k_Te_make_90 x1 x3 x4 x5 x9 (sA σ 14 x9 (1 + (if (f_Te_depthOf x4 σ) < (f_Te_depthOf x5 σ) then (f_Te_depthOf x5 σ) else (f_Te_depthOf x4 σ)))))))
def f_Te_make_57 (x1 : Int32) (x3 : Int32) (x4 : Int32) (x5 : Int32) (x9 : Int32) (σ : St) : Int32 × St := f_Te_make_66 x1 x3 x4 x5 x9 (sA σ 11 x9 x5)
def k_Te_make_57 (x1 : Int32) (x3 : Int32) (x4 : Int32) (x5 : Int32) (x9 : Int32) (σ : St) : Prop := vp_in x9 208 ∧ (k_Te_make_66 x1 x3 x4 x5 x9 (sA σ 11 x9 x5))
def f_Te_make_48 (x1 : Int32) (x3 : Int32) (x4 : Int32) (x5 : Int32) (x9 : Int32) (σ : St) : Int32 × St := f_Te_make_57 x1 x3 x4 x5 x9 (sA σ 10 x9 x4)
def k_Te_make_48 (x1 : Int32) (x3 : Int32) (x4 : Int32) (x5 : Int32) (x9 : Int32) (σ : St) : Prop := vp_in x9 208 ∧ (k_Te_make_57 x1 x3 x4 x5 x9 (sA σ 10 x9 x4))
def f_Te_make_46 (x1 : Int32) (x3 : Int32) (x4 : Int32) (x5 : Int32) (s0 : Int32) (σ : St) : Int32 × St := f_Te_make_48 x1 x3 x4 x5 s0 σ
def k_Te_make_46 (x1 : Int32) (x3 : Int32) (x4 : Int32) (x5 : Int32) (s0 : Int32) (σ : St) : Prop := k_Te_make_48 x1 x3 x4 x5 s0 σ
def f_Te_make_28 (x1 : Int32) (x2 : Int32) (x3 : Int32) (x4 : Int32) (x5 : Int32) (x6 : Int64) (x8 : Int32) (σ : St) : Int32 × St := if x8 = (-1) then (f_Te_make_46 x1 x3 x4 x5 ((f_Te_append x6 x1 x2 x3 σ).1) ((f_Te_append x6 x1 x2 x3 σ).2)) else (x8, σ)
def k_Te_make_28 (x1 : Int32) (x2 : Int32) (x3 : Int32) (x4 : Int32) (x5 : Int32) (x6 : Int64) (x8 : Int32) (σ : St) : Prop := (x8 = (-1) → ((k_Te_append x6 x1 x2 x3 σ) ∧ (k_Te_make_46 x1 x3 x4 x5 ((f_Te_append x6 x1 x2 x3 σ).1) ((f_Te_append x6 x1 x2 x3 σ).2)))) ∧ (¬ x8 = (-1) → True)
def f_Te_make_11 (x1 : Int32) (x2 : Int32) (x3 : Int32) (x4 : Int32) (x5 : Int32) (x6 : Int64) (σ : St) : Int32 × St := f_Te_make_28 x1 x2 x3 x4 x5 x6 (f_Te_find x6 ((if x4 < x5 then x5 else x4) + 1) σ) σ
def k_Te_make_11 (x1 : Int32) (x2 : Int32) (x3 : Int32) (x4 : Int32) (x5 : Int32) (x6 : Int64) (σ : St) : Prop := (k_Te_find x6 ((if x4 < x5 then x5 else x4) + 1) σ) ∧ (k_Te_make_28 x1 x2 x3 x4 x5 x6 (f_Te_find x6 ((if x4 < x5 then x5 else x4) + 1) σ) σ)
def f_Te_make (a1 : Int32) (a2 : Int32) (a3 : Int32) (a4 : Int32) (a5 : Int32) (σ : St) : Int32 × St := f_Te_make_11 a1 a2 a3 a4 a5 (f_Te_keyOf a1 a3 a4 a5 σ) σ
def k_Te_make (a1 : Int32) (a2 : Int32) (a3 : Int32) (a4 : Int32) (a5 : Int32) (σ : St) : Prop := (k_Te_keyOf a1 a3 a4 a5 σ) ∧ (k_Te_make_11 a1 a2 a3 a4 a5 (f_Te_keyOf a1 a3 a4 a5 σ) σ)
abbrev w_Te_make : List Cond := Cond.code y_Te_make b_Te_make 10 (some .int) :: gw
abbrev rm_Te_make : Room := { frames := 2, cells := 0, slots := 0, locals := 47 }
set_option maxHeartbeats 4000000 in
set_option maxRecDepth 100000 in
theorem c_Te_make (l : Launch) (D : va_G) (ty : Nat → ClassId) (h : Nat → Nat) (px : va_W) (sa : Nat → Nat) (σ : St) (sz : Nat) (a1 : Int32) (a2 : Int32) (a3 : Int32) (a4 : Int32) (a5 : Int32) (hk : k_Te_make a1 a2 a3 a4 a5 σ) : Met l y_Te_make w_Te_make rm_Te_make (va_Pc [.ref (h 6), .int a1, .int a2, .int a3, .int a4, .int a5] (fun U => U.heap.size = sz ∧ va_P D classes (Wc ty h σ px) U.heap ∧ va_K D classes (Ta ty) U ∧ NW U ∧ MK sa (va_A (Wc ty h σ px) sz) U U.heap ∧ va_D (fun _ => True) (Wc ty h σ px))) (va_Qi (fun r (u : St) => (r, u) = f_Te_make a1 a2 a3 a4 a5 σ) (fun u t => va_P D classes (Wc ty h u px) t.heap) (va_A (Wc ty h σ px) sz)) 0 0 (va_A (Wc ty h σ px) sz) := by
  refine Met.ofW (cc := b_Te_make) (maxL := 10) (ret := (some .int)) (by decide) rfl ?_
  intro p e s m args below meth c s₁ B hml hv
  obtain ⟨ha, hsz, hP, hK, hN, hM, hD0⟩ := hv
  have hx := B.exec
  have hb := B.bytes
  have hr := B.returns
  have hg : ∀ w ∈ gw, w.before args s = true := fun w h9 => atoms_spec (ws := w_Te_make) B.pre w (List.mem_cons_of_mem _ h9)
  have hown : s.vm.findClass "ClauseLedger$Terms" = some m.cls := findClass_of_methodNamed B.named
  have hlocks := B.notSynchronized
  subst hsz
  have hD := hD0.self (sz := s.heap.size)
  generalize hAe : va_A (Wc ty h σ px) s.heap.size = A at hD hM ⊢
  have hA : ∀ q : Nat, s.heap.size ≤ q → A q := fun q h9 => by rw [← hAe]; exact Or.inr h9
  have hS : va_S A s.heap s.heap [] := va_S.rf
  have he : entryFrame m args 10 = entryFrame m ([.ref (h 6), .int a1, .int a2, .int a3, .int a4, .int a5] : List Value).toArray 10 := by rw [ha]
  rw [he, lg_entry_eq]
  have hl := lv_entry ([.ref (h 6), .int a1, .int a2, .int a3, .int a4, .int a5]) (n := 10) (Nat.le_of_ble_eq_true rfl)
  generalize (lg_sl ([.ref (h 6), .int a1, .int a2, .int a3, .int a4, .int a5]) ++ List.replicate (10 - (lg_sl ([.ref (h 6), .int a1, .int a2, .int a3, .int a4, .int a5])).length) Slot.unset).toArray = ls at hl ⊢
  have hl : lv_has ls 10 [(0, .ref (h 6)), (1, .int a1), (2, .int a2), (3, .int a3), (4, .int a4), (5, .int a5)] := hl
  generalize hv : f_Te_make a1 a2 a3 a4 a5 σ = v
  replace hv := hv.symm
  have B190 : ∀ (H : Heap) (locs : List Loc) (ls : Array Slot) (x9 : Int32) (σ : St), v = f_Te_make_190 x9 σ → k_Te_make_190 x9 σ → lv_has ls 10 [(9, .int x9)] → va_P D classes (Wc ty h σ px) H → va_D A (Wc ty h σ px) → va_S A s.heap H locs → W p l e (headSpec w_Te_make rm_Te_make).room s m args below meth c H locs 0 0 (MQ below (va_Qi (fun r (u : St) => (r, u) = v) (fun u t => va_P D classes (Wc ty h u px) t.heap) A) args s 0 0 A) (F0 m 190 ls []) := by
    intro H locs ls x9 σ hv hk hl hP hD hS
    unfold f_Te_make_190 at hv
    unfold k_Te_make_190 at hk
    refine lv_iload hx hb d_Te_make_190 (lv_at hl 0 rfl) ?_
    exact W.iret hx hb hr (fun t ht hW => ⟨⟨_, _, rfl, hv.symm, by dsimp only; rw [ht]; exact hP⟩, hS.F ht⟩) hS.2.2 d_Te_make_192
  have B187 : ∀ (H : Heap) (locs : List Loc) (ls : Array Slot) (x9 : Int32) (s0 : Int32) (σ : St), v = f_Te_make_187 x9 s0 σ → k_Te_make_187 x9 s0 σ → lv_has ls 10 [(9, .int x9)] → va_P D classes (Wc ty h σ px) H → va_D A (Wc ty h σ px) → va_S A s.heap H locs → W p l e (headSpec w_Te_make rm_Te_make).room s m args below meth c H locs 0 0 (MQ below (va_Qi (fun r (u : St) => (r, u) = v) (fun u t => va_P D classes (Wc ty h u px) t.heap) A) args s 0 0 A) (F0 m 187 ls [.int s0, .ref (h 6)]) := by
    intro H locs ls x9 s0 σ hv hk hl hP hD hS
    unfold f_Te_make_187 at hv
    unfold k_Te_make_187 at hk
    obtain ⟨hk0, hk⟩ := hk
    refine va_put (v := .int s0) (ty := .boolean) (C := R_Te) (T := T_Te) (N := 14) hx hb hg in_Te ty_Te ok_Te nm_Te hown hK hP hD hS 6 rfl rfl 13 (by decide) (hg _ m_82) (fun _ h9 => h9) rfl (by decide +kernel) hk0.1 hk0.2 (Nat.le_of_ble_eq_true rfl) d_Te_make_187 (fun H locs hP hD hS => ?_)
    have hP : va_P D classes (Wc ty h (sF σ 6 13 s0) px) H := hP
    have hD : va_D A (Wc ty h (sF σ 6 13 s0) px) := hD
    exact B190 _ _ _ x9 (sF σ 6 13 s0) hv hk (lv_sub hl [0] rfl) hP hD hS
  have B182 : ∀ (H : Heap) (locs : List Loc) (ls : Array Slot) (x9 : Int32) (σ : St), v = f_Te_make_182 x9 σ → k_Te_make_182 x9 σ → lv_has ls 10 [(9, .int x9)] → va_P D classes (Wc ty h σ px) H → va_D A (Wc ty h σ px) → va_S A s.heap H locs → W p l e (headSpec w_Te_make rm_Te_make).room s m args below meth c H locs 0 0 (MQ below (va_Qi (fun r (u : St) => (r, u) = v) (fun u t => va_P D classes (Wc ty h u px) t.heap) A) args s 0 0 A) (F0 m 182 ls [.ref (h 6)]) := by
    intro H locs ls x9 σ hv hk hl hP hD hS
    unfold f_Te_make_182 at hv
    unfold k_Te_make_182 at hk
    refine lv_iconst (v := 1) hx hb d_Te_make_182 (by decide) ?_
    refine lv_goto (tgt := 187) hx hb d_Te_make_183 (by decide) ?_
    exact B187 _ _ _ x9 1 σ hv hk (lv_sub hl [0] rfl) hP hD hS
  have B162 : ∀ (H : Heap) (locs : List Loc) (ls : Array Slot) (x9 : Int32) (σ : St), v = f_Te_make_162 x9 σ → k_Te_make_162 x9 σ → lv_has ls 10 [(0, .ref (h 6)), (9, .int x9)] → va_P D classes (Wc ty h σ px) H → va_D A (Wc ty h σ px) → va_S A s.heap H locs → W p l e (headSpec w_Te_make rm_Te_make).room s m args below meth c H locs 0 0 (MQ below (va_Qi (fun r (u : St) => (r, u) = v) (fun u t => va_P D classes (Wc ty h u px) t.heap) A) args s 0 0 A) (F0 m 162 ls []) := by
    intro H locs ls x9 σ hv hk hl hP hD hS
    unfold f_Te_make_162 at hv
    unfold k_Te_make_162 at hk
    refine lv_aload_n hx hb d_Te_make_162 rfl (lv_at hl 0 rfl) ?_
    refine lv_aload_n hx hb d_Te_make_163 rfl (lv_at hl 0 rfl) ?_
    refine va_get (v := .int (σ.1 6 13)) (C := R_Te) (T := T_Te) (N := 14) hx hb hg in_Te hown hK hP 6 rfl rfl 13 (by decide) (hg _ m_82) (fun _ h9 => h9) rfl d_Te_make_164 ?_
    refine lv_if_ne (tgt := 182) hx hb d_Te_make_167 (by decide) (fun hc => ?_) (fun hc => ?_)
    · have hv := hv.trans (if_neg hc)
      have hk := hk.2 hc
      exact B182 _ _ _ x9 σ hv hk (lv_sub hl [1] rfl) hP hD hS
    · have hv := hv.trans (if_pos hc)
      have hk := hk.1 hc
      refine lv_aload_n hx hb d_Te_make_170 rfl (lv_at hl 0 rfl) ?_
      refine va_get (v := .ref (h 14)) (C := R_Te) (T := T_Te) (N := 14) hx hb hg in_Te hown hK hP 6 rfl rfl 7 (by decide) (hg _ m_76) (fun _ h9 => h9) rfl d_Te_make_171 ?_
      refine lv_iload hx hb d_Te_make_174 (lv_at hl 1 rfl) ?_
      obtain ⟨hk0, hk⟩ := hk
      refine va_iald hx hb hK hP 14 0 rfl rfl hk0 d_Te_make_176 ?_
      refine lv_bipush (v := 12) hx hb d_Te_make_177 (by decide) ?_
      refine lv_icmp_le (tgt := 186) hx hb d_Te_make_179 (by decide) (fun hc => ?_) (fun hc => ?_)
      · have hv := hv.trans (if_pos hc)
        have hk := hk.1 hc
        refine lv_iconst (v := 0) hx hb d_Te_make_186 (by decide) ?_
        exact B187 _ _ _ x9 0 σ hv hk (lv_sub hl [1] rfl) hP hD hS
      · have hv := hv.trans (if_neg hc)
        have hk := hk.2 hc
        exact B182 _ _ _ x9 σ hv hk (lv_sub hl [1] rfl) hP hD hS
  have B137 : ∀ (H : Heap) (locs : List Loc) (ls : Array Slot) (x1 : Int32) (x3 : Int32) (x4 : Int32) (x5 : Int32) (x9 : Int32) (σ : St), v = f_Te_make_137 x1 x3 x4 x5 x9 σ → k_Te_make_137 x1 x3 x4 x5 x9 σ → lv_has ls 10 [(0, .ref (h 6)), (1, .int x1), (3, .int x3), (4, .int x4), (5, .int x5), (9, .int x9)] → va_P D classes (Wc ty h σ px) H → va_D A (Wc ty h σ px) → va_S A s.heap H locs → W p l e (headSpec w_Te_make rm_Te_make).room s m args below meth c H locs 0 0 (MQ below (va_Qi (fun r (u : St) => (r, u) = v) (fun u t => va_P D classes (Wc ty h u px) t.heap) A) args s 0 0 A) (F0 m 137 ls []) := by
    intro H locs ls x1 x3 x4 x5 x9 σ hv hk hl hP hD hS
    unfold f_Te_make_137 at hv
    unfold k_Te_make_137 at hk
    refine lv_aload_n hx hb d_Te_make_137 rfl (lv_at hl 0 rfl) ?_
    refine va_get (v := .ref (h 16)) (C := R_Te) (T := T_Te) (N := 14) hx hb hg in_Te hown hK hP 6 rfl rfl 9 (by decide) (hg _ m_78) (fun _ h9 => h9) rfl d_Te_make_138 ?_
    refine lv_iload hx hb d_Te_make_141 (lv_at hl 5 rfl) ?_
    refine lv_iload_n hx hb d_Te_make_143 rfl (lv_at hl 1 rfl) ?_
    refine lv_iload_n hx hb d_Te_make_144 rfl (lv_at hl 2 rfl) ?_
    refine lv_aload_n hx hb d_Te_make_145 rfl (lv_at hl 0 rfl) ?_
    refine lv_iload hx hb d_Te_make_146 (lv_at hl 3 rfl) ?_
    obtain ⟨hk0, hk⟩ := hk
    refine zz_callV (va_runV (As := [.int x4]) (rest := [.int x3, .int x1, .int x9, .ref (h 16)]) ⟨hx, hb, hml, hown, hg⟩ (c_Te_freeOf l D ty h px sa σ x4 hk0) ⟨callB_of 1 hg (gw_C m_650) rfl rfl rfl (hg _ m_3) (hg _ m_647) hd_Te_freeOf ⟨Nat.le_of_ble_eq_true rfl, Nat.le_of_ble_eq_true rfl⟩, hg _ m_649, hg _ ms_16⟩ (zz_preV (hM.at hS) hN hK hP 6 rfl rfl) rfl rfl hl.1 rfl (lv_room (Nat.le_of_ble_eq_true rfl)) d_Te_make_148 ⟨Nat.le_of_ble_eq_true rfl, Nat.le_of_ble_eq_true rfl⟩) ?_
    refine lv_aload_n hx hb d_Te_make_151 rfl (lv_at hl 0 rfl) ?_
    refine lv_iload hx hb d_Te_make_152 (lv_at hl 4 rfl) ?_
    obtain ⟨hk0, hk⟩ := hk
    refine zz_callV (va_runV (As := [.int x5]) (rest := [.int (f_Te_freeOf x4 σ), .int x3, .int x1, .int x9, .ref (h 16)]) ⟨hx, hb, hml, hown, hg⟩ (c_Te_freeOf l D ty h px sa σ x5 hk0) ⟨callB_of 1 hg (gw_C m_650) rfl rfl rfl (hg _ m_3) (hg _ m_647) hd_Te_freeOf ⟨Nat.le_of_ble_eq_true rfl, Nat.le_of_ble_eq_true rfl⟩, hg _ m_649, hg _ ms_16⟩ (zz_preV (hM.at hS) hN hK hP 6 rfl rfl) rfl rfl hl.1 rfl (lv_room (Nat.le_of_ble_eq_true rfl)) d_Te_make_154 ⟨Nat.le_of_ble_eq_true rfl, Nat.le_of_ble_eq_true rfl⟩) ?_
    refine lv_ior hx hb d_Te_make_157 ?_
    obtain ⟨hk0, hk⟩ := hk
    refine zz_callV (va_runS (As := [.int x1, .int x3, .int ((f_Te_freeOf x4 σ) ||| (f_Te_freeOf x5 σ))]) (rest := [.int x9, .ref (h 16)]) ⟨hx, hb, hml, hown, hg⟩ (c_Te_freeBy l D ty h px sa σ x1 x3 ((f_Te_freeOf x4 σ) ||| (f_Te_freeOf x5 σ)) hk0) ⟨callB_of 3 hg (gw_C m_653) rfl rfl rfl (hg _ m_3) (hg _ m_651) hd_Te_freeBy ⟨Nat.le_of_ble_eq_true rfl, Nat.le_of_ble_eq_true rfl⟩, hg _ m_652⟩ (zz_preS (hM.at hS) hN hK hP) rfl rfl hl.1 rfl (lv_room (Nat.le_of_ble_eq_true rfl)) d_Te_make_158 ⟨Nat.le_of_ble_eq_true rfl, Nat.le_of_ble_eq_true rfl⟩) ?_
    obtain ⟨hk0, hk⟩ := hk
    refine va_iast hx hb hK hP hD hS 16 0 rfl rfl hk0 d_Te_make_161 (fun H locs hP hD hS => ?_)
    have hP : va_P D classes (Wc ty h (sA σ 16 x9 (f_Te_freeBy x1 x3 ((f_Te_freeOf x4 σ) ||| (f_Te_freeOf x5 σ)) σ)) px) H := hP
    have hD : va_D A (Wc ty h (sA σ 16 x9 (f_Te_freeBy x1 x3 ((f_Te_freeOf x4 σ) ||| (f_Te_freeOf x5 σ)) σ)) px) := hD
    exact B162 _ _ _ x9 (sA σ 16 x9 (f_Te_freeBy x1 x3 ((f_Te_freeOf x4 σ) ||| (f_Te_freeOf x5 σ)) σ)) hv hk (lv_sub hl [0, 5] rfl) hP hD hS
  have B135 : ∀ (H : Heap) (locs : List Loc) (ls : Array Slot) (x1 : Int32) (x3 : Int32) (x4 : Int32) (x5 : Int32) (x9 : Int32) (s0 : Int32) (s1 : Int32) (s2 : Int32) (σ : St), v = f_Te_make_135 x1 x3 x4 x5 x9 s0 s1 s2 σ → k_Te_make_135 x1 x3 x4 x5 x9 s0 s1 s2 σ → lv_has ls 10 [(0, .ref (h 6)), (1, .int x1), (3, .int x3), (4, .int x4), (5, .int x5), (9, .int x9)] → va_P D classes (Wc ty h σ px) H → va_D A (Wc ty h σ px) → va_S A s.heap H locs → W p l e (headSpec w_Te_make rm_Te_make).room s m args below meth c H locs 0 0 (MQ below (va_Qi (fun r (u : St) => (r, u) = v) (fun u t => va_P D classes (Wc ty h u px) t.heap) A) args s 0 0 A) (F0 m 135 ls [.int s0, .int s1, .int s2, .ref (h 15)]) := by
    intro H locs ls x1 x3 x4 x5 x9 s0 s1 s2 σ hv hk hl hP hD hS
    unfold f_Te_make_135 at hv
    unfold k_Te_make_135 at hk
    refine lv_iadd hx hb d_Te_make_135 ?_
    obtain ⟨hk0, hk⟩ := hk
    refine va_iast hx hb hK hP hD hS 15 0 rfl rfl hk0 d_Te_make_136 (fun H locs hP hD hS => ?_)
    have hP : va_P D classes (Wc ty h (sA σ 15 s2 (s1 + s0)) px) H := hP
    have hD : va_D A (Wc ty h (sA σ 15 s2 (s1 + s0)) px) := hD
    exact B137 _ _ _ x1 x3 x4 x5 x9 (sA σ 15 s2 (s1 + s0)) hv hk (lv_sub hl [0, 1, 2, 3, 4, 5] rfl) hP hD hS
  have B108 : ∀ (H : Heap) (locs : List Loc) (ls : Array Slot) (x1 : Int32) (x3 : Int32) (x4 : Int32) (x5 : Int32) (x9 : Int32) (s0 : Int32) (s1 : Int32) (s2 : Int32) (σ : St), v = f_Te_make_108 x1 x3 x4 x5 x9 s0 s1 s2 σ → k_Te_make_108 x1 x3 x4 x5 x9 s0 s1 s2 σ → lv_has ls 10 [(0, .ref (h 6)), (1, .int x1), (3, .int x3), (4, .int x4), (5, .int x5), (9, .int x9)] → va_P D classes (Wc ty h σ px) H → va_D A (Wc ty h σ px) → va_S A s.heap H locs → W p l e (headSpec w_Te_make rm_Te_make).room s m args below meth c H locs 0 0 (MQ below (va_Qi (fun r (u : St) => (r, u) = v) (fun u t => va_P D classes (Wc ty h u px) t.heap) A) args s 0 0 A) (F0 m 108 ls [.int s0, .int s1, .int s2, .ref (h 15)]) := by
    intro H locs ls x1 x3 x4 x5 x9 s0 s1 s2 σ hv hk hl hP hD hS
    unfold f_Te_make_108 at hv
    unfold k_Te_make_108 at hk
    refine lv_aload_n hx hb d_Te_make_108 rfl (lv_at hl 0 rfl) ?_
    refine lv_iload hx hb d_Te_make_109 (lv_at hl 3 rfl) ?_
    obtain ⟨hk0, hk⟩ := hk
    refine zz_callV (va_runV (As := [.int x4]) (rest := [.int s0, .int s1, .int s2, .ref (h 15)]) ⟨hx, hb, hml, hown, hg⟩ (c_Te_lengthOf l D ty h px sa σ x4 hk0) ⟨callB_of 1 hg (gw_C m_463) rfl rfl rfl (hg _ m_3) (hg _ m_643) hd_Te_lengthOf ⟨Nat.le_of_ble_eq_true rfl, Nat.le_of_ble_eq_true rfl⟩, hg _ m_461, hg _ m_462⟩ (zz_preV (hM.at hS) hN hK hP 6 rfl rfl) rfl rfl hl.1 rfl (lv_room (Nat.le_of_ble_eq_true rfl)) d_Te_make_111 ⟨Nat.le_of_ble_eq_true rfl, Nat.le_of_ble_eq_true rfl⟩) ?_
    obtain ⟨hk0, hk⟩ := hk
    refine zz_callV (va_runS (As := [.int s1, .int s0, .int (f_Te_lengthOf x4 σ)]) (rest := [.int s2, .ref (h 15)]) ⟨hx, hb, hml, hown, hg⟩ (c_Wr_length l D ty h px sa σ s1 s0 (f_Te_lengthOf x4 σ) hk0) ⟨callB_of 3 hg (gw_C m_646) rfl rfl rfl (hg _ m_6) (hg _ m_644) hd_Wr_length ⟨Nat.le_of_ble_eq_true rfl, Nat.le_of_ble_eq_true rfl⟩, hg _ m_645⟩ (zz_preS (hM.at hS) hN hK hP) rfl rfl hl.1 rfl (lv_room (Nat.le_of_ble_eq_true rfl)) d_Te_make_114 ⟨Nat.le_of_ble_eq_true rfl, Nat.le_of_ble_eq_true rfl⟩) ?_
    refine lv_iload hx hb d_Te_make_117 (lv_at hl 4 rfl) ?_
    refine lv_iconst (v := -1) hx hb d_Te_make_119 (by decide) ?_
    refine lv_icmp_ne (tgt := 127) hx hb d_Te_make_120 (by decide) (fun hc => ?_) (fun hc => ?_)
    · have hv := hv.trans (if_neg hc)
      have hk := hk.2 hc
      refine lv_iconst (v := 1) hx hb d_Te_make_127 (by decide) ?_
      refine lv_aload_n hx hb d_Te_make_128 rfl (lv_at hl 0 rfl) ?_
      refine lv_iload hx hb d_Te_make_129 (lv_at hl 4 rfl) ?_
      obtain ⟨hk0, hk⟩ := hk
      refine zz_callV (va_runV (As := [.int x5]) (rest := [.int 1, .int (f_Wr_length s1 s0 (f_Te_lengthOf x4 σ) σ), .int s2, .ref (h 15)]) ⟨hx, hb, hml, hown, hg⟩ (c_Te_lengthOf l D ty h px sa σ x5 hk0) ⟨callB_of 1 hg (gw_C m_463) rfl rfl rfl (hg _ m_3) (hg _ m_643) hd_Te_lengthOf ⟨Nat.le_of_ble_eq_true rfl, Nat.le_of_ble_eq_true rfl⟩, hg _ m_461, hg _ m_462⟩ (zz_preV (hM.at hS) hN hK hP 6 rfl rfl) rfl rfl hl.1 rfl (lv_room (Nat.le_of_ble_eq_true rfl)) d_Te_make_131 ⟨Nat.le_of_ble_eq_true rfl, Nat.le_of_ble_eq_true rfl⟩) ?_
      refine lv_iadd hx hb d_Te_make_134 ?_
      exact B135 _ _ _ x1 x3 x4 x5 x9 (1 + (f_Te_lengthOf x5 σ)) (f_Wr_length s1 s0 (f_Te_lengthOf x4 σ) σ) s2 σ hv hk (lv_sub hl [0, 1, 2, 3, 4, 5] rfl) hP hD hS
    · have hv := hv.trans (if_pos hc)
      have hk := hk.1 hc
      refine lv_iconst (v := 0) hx hb d_Te_make_123 (by decide) ?_
      refine lv_goto (tgt := 135) hx hb d_Te_make_124 (by decide) ?_
      exact B135 _ _ _ x1 x3 x4 x5 x9 0 (f_Wr_length s1 s0 (f_Te_lengthOf x4 σ) σ) s2 σ hv hk (lv_sub hl [0, 1, 2, 3, 4, 5] rfl) hP hD hS
  have B90 : ∀ (H : Heap) (locs : List Loc) (ls : Array Slot) (x1 : Int32) (x3 : Int32) (x4 : Int32) (x5 : Int32) (x9 : Int32) (σ : St), v = f_Te_make_90 x1 x3 x4 x5 x9 σ → k_Te_make_90 x1 x3 x4 x5 x9 σ → lv_has ls 10 [(0, .ref (h 6)), (1, .int x1), (3, .int x3), (4, .int x4), (5, .int x5), (9, .int x9)] → va_P D classes (Wc ty h σ px) H → va_D A (Wc ty h σ px) → va_S A s.heap H locs → W p l e (headSpec w_Te_make rm_Te_make).room s m args below meth c H locs 0 0 (MQ below (va_Qi (fun r (u : St) => (r, u) = v) (fun u t => va_P D classes (Wc ty h u px) t.heap) A) args s 0 0 A) (F0 m 90 ls []) := by
    intro H locs ls x1 x3 x4 x5 x9 σ hv hk hl hP hD hS
    unfold f_Te_make_90 at hv
    unfold k_Te_make_90 at hk
    refine lv_aload_n hx hb d_Te_make_90 rfl (lv_at hl 0 rfl) ?_
    refine va_get (v := .ref (h 15)) (C := R_Te) (T := T_Te) (N := 14) hx hb hg in_Te hown hK hP 6 rfl rfl 8 (by decide) (hg _ m_77) (fun _ h9 => h9) rfl d_Te_make_91 ?_
    refine lv_iload hx hb d_Te_make_94 (lv_at hl 5 rfl) ?_
    refine lv_iload_n hx hb d_Te_make_96 rfl (lv_at hl 1 rfl) ?_
    refine lv_iload hx hb d_Te_make_97 (lv_at hl 3 rfl) ?_
    refine lv_iconst (v := -1) hx hb d_Te_make_99 (by decide) ?_
    refine lv_icmp_eq (tgt := 107) hx hb d_Te_make_100 (by decide) (fun hc => ?_) (fun hc => ?_)
    · have hv := hv.trans (if_pos hc)
      have hk := hk.1 hc
      refine lv_iconst (v := 0) hx hb d_Te_make_107 (by decide) ?_
      exact B108 _ _ _ x1 x3 x4 x5 x9 0 x1 x9 σ hv hk (lv_sub hl [0, 1, 2, 3, 4, 5] rfl) hP hD hS
    · have hv := hv.trans (if_neg hc)
      have hk := hk.2 hc
      refine lv_iconst (v := 1) hx hb d_Te_make_103 (by decide) ?_
      refine lv_goto (tgt := 108) hx hb d_Te_make_104 (by decide) ?_
      exact B108 _ _ _ x1 x3 x4 x5 x9 1 x1 x9 σ hv hk (lv_sub hl [0, 1, 2, 3, 4, 5] rfl) hP hD hS
  have B66 : ∀ (H : Heap) (locs : List Loc) (ls : Array Slot) (x1 : Int32) (x3 : Int32) (x4 : Int32) (x5 : Int32) (x9 : Int32) (σ : St), v = f_Te_make_66 x1 x3 x4 x5 x9 σ → k_Te_make_66 x1 x3 x4 x5 x9 σ → lv_has ls 10 [(0, .ref (h 6)), (1, .int x1), (3, .int x3), (4, .int x4), (5, .int x5), (9, .int x9)] → va_P D classes (Wc ty h σ px) H → va_D A (Wc ty h σ px) → va_S A s.heap H locs → W p l e (headSpec w_Te_make rm_Te_make).room s m args below meth c H locs 0 0 (MQ below (va_Qi (fun r (u : St) => (r, u) = v) (fun u t => va_P D classes (Wc ty h u px) t.heap) A) args s 0 0 A) (F0 m 66 ls []) := by
    intro H locs ls x1 x3 x4 x5 x9 σ hv hk hl hP hD hS
    unfold f_Te_make_66 at hv
    unfold k_Te_make_66 at hk
    refine lv_aload_n hx hb d_Te_make_66 rfl (lv_at hl 0 rfl) ?_
    refine va_get (v := .ref (h 14)) (C := R_Te) (T := T_Te) (N := 14) hx hb hg in_Te hown hK hP 6 rfl rfl 7 (by decide) (hg _ m_76) (fun _ h9 => h9) rfl d_Te_make_67 ?_
    refine lv_iload hx hb d_Te_make_70 (lv_at hl 5 rfl) ?_
    refine lv_iconst (v := 1) hx hb d_Te_make_72 (by decide) ?_
    refine lv_aload_n hx hb d_Te_make_73 rfl (lv_at hl 0 rfl) ?_
    refine lv_iload hx hb d_Te_make_74 (lv_at hl 3 rfl) ?_
    obtain ⟨hk0, hk⟩ := hk
    refine zz_callV (va_runV (As := [.int x4]) (rest := [.int 1, .int x9, .ref (h 14)]) ⟨hx, hb, hml, hown, hg⟩ (c_Te_depthOf l D ty h px sa σ x4 hk0) ⟨callB_of 1 hg (gw_C m_443) rfl rfl rfl (hg _ m_3) (hg _ m_642) hd_Te_depthOf ⟨Nat.le_of_ble_eq_true rfl, Nat.le_of_ble_eq_true rfl⟩, hg _ m_441, hg _ m_442⟩ (zz_preV (hM.at hS) hN hK hP 6 rfl rfl) rfl rfl hl.1 rfl (lv_room (Nat.le_of_ble_eq_true rfl)) d_Te_make_76 ⟨Nat.le_of_ble_eq_true rfl, Nat.le_of_ble_eq_true rfl⟩) ?_
    refine lv_aload_n hx hb d_Te_make_79 rfl (lv_at hl 0 rfl) ?_
    refine lv_iload hx hb d_Te_make_80 (lv_at hl 4 rfl) ?_
    obtain ⟨hk0, hk⟩ := hk
    refine zz_callV (va_runV (As := [.int x5]) (rest := [.int (f_Te_depthOf x4 σ), .int 1, .int x9, .ref (h 14)]) ⟨hx, hb, hml, hown, hg⟩ (c_Te_depthOf l D ty h px sa σ x5 hk0) ⟨callB_of 1 hg (gw_C m_443) rfl rfl rfl (hg _ m_3) (hg _ m_642) hd_Te_depthOf ⟨Nat.le_of_ble_eq_true rfl, Nat.le_of_ble_eq_true rfl⟩, hg _ m_441, hg _ m_442⟩ (zz_preV (hM.at hS) hN hK hP 6 rfl rfl) rfl rfl hl.1 rfl (lv_room (Nat.le_of_ble_eq_true rfl)) d_Te_make_82 ⟨Nat.le_of_ble_eq_true rfl, Nat.le_of_ble_eq_true rfl⟩) ?_
    refine va_mmax hx hb (hml.trans hl.1.symm) hown (hg _ m_628) (hg _ m_629) (hg _ m_14) (hg _ m_630) (Nat.le_of_ble_eq_true rfl) (Nat.le_of_ble_eq_true rfl) (Nat.le_of_ble_eq_true rfl) (Nat.le_of_ble_eq_true rfl) d_Te_make_85 ?_
    refine lv_iadd hx hb d_Te_make_88 ?_
    obtain ⟨hk0, hk⟩ := hk
    refine va_iast hx hb hK hP hD hS 14 0 rfl rfl hk0 d_Te_make_89 (fun H locs hP hD hS => ?_)
    have hP : va_P D classes (Wc ty h (sA σ 14 x9 (1 + (if (f_Te_depthOf x4 σ) < (f_Te_depthOf x5 σ) then (f_Te_depthOf x5 σ) else (f_Te_depthOf x4 σ)))) px) H := hP
    have hD : va_D A (Wc ty h (sA σ 14 x9 (1 + (if (f_Te_depthOf x4 σ) < (f_Te_depthOf x5 σ) then (f_Te_depthOf x5 σ) else (f_Te_depthOf x4 σ)))) px) := hD
    exact B90 _ _ _ x1 x3 x4 x5 x9 (sA σ 14 x9 (1 + (if (f_Te_depthOf x4 σ) < (f_Te_depthOf x5 σ) then (f_Te_depthOf x5 σ) else (f_Te_depthOf x4 σ)))) hv hk (lv_sub hl [0, 1, 2, 3, 4, 5] rfl) hP hD hS
  have B57 : ∀ (H : Heap) (locs : List Loc) (ls : Array Slot) (x1 : Int32) (x3 : Int32) (x4 : Int32) (x5 : Int32) (x9 : Int32) (σ : St), v = f_Te_make_57 x1 x3 x4 x5 x9 σ → k_Te_make_57 x1 x3 x4 x5 x9 σ → lv_has ls 10 [(0, .ref (h 6)), (1, .int x1), (3, .int x3), (4, .int x4), (5, .int x5), (9, .int x9)] → va_P D classes (Wc ty h σ px) H → va_D A (Wc ty h σ px) → va_S A s.heap H locs → W p l e (headSpec w_Te_make rm_Te_make).room s m args below meth c H locs 0 0 (MQ below (va_Qi (fun r (u : St) => (r, u) = v) (fun u t => va_P D classes (Wc ty h u px) t.heap) A) args s 0 0 A) (F0 m 57 ls []) := by
    intro H locs ls x1 x3 x4 x5 x9 σ hv hk hl hP hD hS
    unfold f_Te_make_57 at hv
    unfold k_Te_make_57 at hk
    refine lv_aload_n hx hb d_Te_make_57 rfl (lv_at hl 0 rfl) ?_
    refine va_get (v := .ref (h 11)) (C := R_Te) (T := T_Te) (N := 14) hx hb hg in_Te hown hK hP 6 rfl rfl 4 (by decide) (hg _ m_73) (fun _ h9 => h9) rfl d_Te_make_58 ?_
    refine lv_iload hx hb d_Te_make_61 (lv_at hl 5 rfl) ?_
    refine lv_iload hx hb d_Te_make_63 (lv_at hl 4 rfl) ?_
    obtain ⟨hk0, hk⟩ := hk
    refine va_iast hx hb hK hP hD hS 11 0 rfl rfl hk0 d_Te_make_65 (fun H locs hP hD hS => ?_)
    have hP : va_P D classes (Wc ty h (sA σ 11 x9 x5) px) H := hP
    have hD : va_D A (Wc ty h (sA σ 11 x9 x5) px) := hD
    exact B66 _ _ _ x1 x3 x4 x5 x9 (sA σ 11 x9 x5) hv hk (lv_sub hl [0, 1, 2, 3, 4, 5] rfl) hP hD hS
  have B48 : ∀ (H : Heap) (locs : List Loc) (ls : Array Slot) (x1 : Int32) (x3 : Int32) (x4 : Int32) (x5 : Int32) (x9 : Int32) (σ : St), v = f_Te_make_48 x1 x3 x4 x5 x9 σ → k_Te_make_48 x1 x3 x4 x5 x9 σ → lv_has ls 10 [(0, .ref (h 6)), (1, .int x1), (3, .int x3), (4, .int x4), (5, .int x5), (9, .int x9)] → va_P D classes (Wc ty h σ px) H → va_D A (Wc ty h σ px) → va_S A s.heap H locs → W p l e (headSpec w_Te_make rm_Te_make).room s m args below meth c H locs 0 0 (MQ below (va_Qi (fun r (u : St) => (r, u) = v) (fun u t => va_P D classes (Wc ty h u px) t.heap) A) args s 0 0 A) (F0 m 48 ls []) := by
    intro H locs ls x1 x3 x4 x5 x9 σ hv hk hl hP hD hS
    unfold f_Te_make_48 at hv
    unfold k_Te_make_48 at hk
    refine lv_aload_n hx hb d_Te_make_48 rfl (lv_at hl 0 rfl) ?_
    refine va_get (v := .ref (h 10)) (C := R_Te) (T := T_Te) (N := 14) hx hb hg in_Te hown hK hP 6 rfl rfl 3 (by decide) (hg _ m_72) (fun _ h9 => h9) rfl d_Te_make_49 ?_
    refine lv_iload hx hb d_Te_make_52 (lv_at hl 5 rfl) ?_
    refine lv_iload hx hb d_Te_make_54 (lv_at hl 3 rfl) ?_
    obtain ⟨hk0, hk⟩ := hk
    refine va_iast hx hb hK hP hD hS 10 0 rfl rfl hk0 d_Te_make_56 (fun H locs hP hD hS => ?_)
    have hP : va_P D classes (Wc ty h (sA σ 10 x9 x4) px) H := hP
    have hD : va_D A (Wc ty h (sA σ 10 x9 x4) px) := hD
    exact B57 _ _ _ x1 x3 x4 x5 x9 (sA σ 10 x9 x4) hv hk (lv_sub hl [0, 1, 2, 3, 4, 5] rfl) hP hD hS
  have B46 : ∀ (H : Heap) (locs : List Loc) (ls : Array Slot) (x1 : Int32) (x3 : Int32) (x4 : Int32) (x5 : Int32) (s0 : Int32) (σ : St), v = f_Te_make_46 x1 x3 x4 x5 s0 σ → k_Te_make_46 x1 x3 x4 x5 s0 σ → lv_has ls 10 [(0, .ref (h 6)), (1, .int x1), (3, .int x3), (4, .int x4), (5, .int x5)] → va_P D classes (Wc ty h σ px) H → va_D A (Wc ty h σ px) → va_S A s.heap H locs → W p l e (headSpec w_Te_make rm_Te_make).room s m args below meth c H locs 0 0 (MQ below (va_Qi (fun r (u : St) => (r, u) = v) (fun u t => va_P D classes (Wc ty h u px) t.heap) A) args s 0 0 A) (F0 m 46 ls [.int s0]) := by
    intro H locs ls x1 x3 x4 x5 s0 σ hv hk hl hP hD hS
    unfold f_Te_make_46 at hv
    unfold k_Te_make_46 at hk
    refine lv_istore (lv' := [(9, .int s0), (0, .ref (h 6)), (1, .int x1), (3, .int x3), (4, .int x4), (5, .int x5)]) hx hb d_Te_make_46 hl (by decide) rfl (fun ls hl => ?_)
    exact B48 _ _ _ x1 x3 x4 x5 s0 σ hv hk (lv_sub hl [1, 2, 3, 4, 5, 0] rfl) hP hD hS
  have B28 : ∀ (H : Heap) (locs : List Loc) (ls : Array Slot) (x1 : Int32) (x2 : Int32) (x3 : Int32) (x4 : Int32) (x5 : Int32) (x6 : Int64) (x8 : Int32) (σ : St), v = f_Te_make_28 x1 x2 x3 x4 x5 x6 x8 σ → k_Te_make_28 x1 x2 x3 x4 x5 x6 x8 σ → lv_has ls 10 [(0, .ref (h 6)), (1, .int x1), (2, .int x2), (3, .int x3), (4, .int x4), (5, .int x5), (6, .long x6), (8, .int x8)] → va_P D classes (Wc ty h σ px) H → va_D A (Wc ty h σ px) → va_S A s.heap H locs → W p l e (headSpec w_Te_make rm_Te_make).room s m args below meth c H locs 0 0 (MQ below (va_Qi (fun r (u : St) => (r, u) = v) (fun u t => va_P D classes (Wc ty h u px) t.heap) A) args s 0 0 A) (F0 m 28 ls []) := by
    intro H locs ls x1 x2 x3 x4 x5 x6 x8 σ hv hk hl hP hD hS
    unfold f_Te_make_28 at hv
    unfold k_Te_make_28 at hk
    refine lv_iload hx hb d_Te_make_28 (lv_at hl 7 rfl) ?_
    refine lv_iconst (v := -1) hx hb d_Te_make_30 (by decide) ?_
    refine lv_icmp_eq (tgt := 37) hx hb d_Te_make_31 (by decide) (fun hc => ?_) (fun hc => ?_)
    · have hv := hv.trans (if_pos hc)
      have hk := hk.1 hc
      refine lv_aload_n hx hb d_Te_make_37 rfl (lv_at hl 0 rfl) ?_
      refine lv_lload hx hb d_Te_make_38 (lv_at hl 6 rfl) ?_
      refine lv_iload_n hx hb d_Te_make_40 rfl (lv_at hl 1 rfl) ?_
      refine lv_iload_n hx hb d_Te_make_41 rfl (lv_at hl 2 rfl) ?_
      refine lv_iload_n hx hb d_Te_make_42 rfl (lv_at hl 3 rfl) ?_
      obtain ⟨hk0, hk⟩ := hk
      refine va_calli (va_runV (As := [.long x6, .int x1, .int x2, .int x3]) (rest := []) ⟨hx, hb, hml, hown, hg⟩ (c_Te_append l D ty h px sa σ H.size x6 x1 x2 x3 hk0) ⟨callB_of 4 hg (gw_C m_638) rfl rfl rfl (hg _ m_3) (hg _ m_635) hd_Te_append ⟨Nat.le_of_ble_eq_true rfl, Nat.le_of_ble_eq_true rfl⟩, hg _ m_637, hg _ ms_15⟩ (zz_preVW hM hS hA hN hK hP hD 6 rfl rfl) rfl rfl hl.1 rfl (lv_room (Nat.le_of_ble_eq_true rfl)) d_Te_make_43 ⟨Nat.le_of_ble_eq_true rfl, Nat.le_of_ble_eq_true rfl⟩) hS (fun q _ h => zz_free hD hS hA q h) (zz_free hD hS hA) (fun r43 u43 t H locs ht hvm hp hP1 hz hk1 hS => ?_)
      rw [ht] at hP1
      rw [← hp] at hv hk
      have hD : va_D A (Wc ty h u43 px) := zz_D hD rfl
      have hP := hP1
      exact B46 _ _ _ x1 x3 x4 x5 r43 u43 hv hk (lv_sub hl [0, 1, 3, 4, 5] rfl) hP hD hS
    · have hv := hv.trans (if_neg hc)
      have hk := hk.2 hc
      refine lv_iload hx hb d_Te_make_34 (lv_at hl 7 rfl) ?_
      exact W.iret hx hb hr (fun t ht hW => ⟨⟨_, _, rfl, hv.symm, by dsimp only; rw [ht]; exact hP⟩, hS.F ht⟩) hS.2.2 d_Te_make_36
  have B11 : ∀ (H : Heap) (locs : List Loc) (ls : Array Slot) (x1 : Int32) (x2 : Int32) (x3 : Int32) (x4 : Int32) (x5 : Int32) (x6 : Int64) (σ : St), v = f_Te_make_11 x1 x2 x3 x4 x5 x6 σ → k_Te_make_11 x1 x2 x3 x4 x5 x6 σ → lv_has ls 10 [(0, .ref (h 6)), (1, .int x1), (2, .int x2), (3, .int x3), (4, .int x4), (5, .int x5), (6, .long x6)] → va_P D classes (Wc ty h σ px) H → va_D A (Wc ty h σ px) → va_S A s.heap H locs → W p l e (headSpec w_Te_make rm_Te_make).room s m args below meth c H locs 0 0 (MQ below (va_Qi (fun r (u : St) => (r, u) = v) (fun u t => va_P D classes (Wc ty h u px) t.heap) A) args s 0 0 A) (F0 m 11 ls []) := by
    intro H locs ls x1 x2 x3 x4 x5 x6 σ hv hk hl hP hD hS
    unfold f_Te_make_11 at hv
    unfold k_Te_make_11 at hk
    refine lv_aload_n hx hb d_Te_make_11 rfl (lv_at hl 0 rfl) ?_
    refine lv_lload hx hb d_Te_make_12 (lv_at hl 6 rfl) ?_
    refine lv_iload hx hb d_Te_make_14 (lv_at hl 4 rfl) ?_
    refine lv_iload hx hb d_Te_make_16 (lv_at hl 5 rfl) ?_
    refine va_mmax hx hb (hml.trans hl.1.symm) hown (hg _ m_628) (hg _ m_629) (hg _ m_14) (hg _ m_630) (Nat.le_of_ble_eq_true rfl) (Nat.le_of_ble_eq_true rfl) (Nat.le_of_ble_eq_true rfl) (Nat.le_of_ble_eq_true rfl) d_Te_make_18 ?_
    refine lv_iconst (v := 1) hx hb d_Te_make_21 (by decide) ?_
    refine lv_iadd hx hb d_Te_make_22 ?_
    obtain ⟨hk0, hk⟩ := hk
    refine zz_callV (va_runV (As := [.long x6, .int ((if x4 < x5 then x5 else x4) + 1)]) (rest := []) ⟨hx, hb, hml, hown, hg⟩ (c_Te_find l D ty h px sa σ x6 ((if x4 < x5 then x5 else x4) + 1) hk0) ⟨callB_of 2 hg (gw_C m_634) rfl rfl rfl (hg _ m_3) (hg _ m_631) hd_Te_find ⟨Nat.le_of_ble_eq_true rfl, Nat.le_of_ble_eq_true rfl⟩, hg _ m_633, hg _ ms_14⟩ (zz_preV (hM.at hS) hN hK hP 6 rfl rfl) rfl rfl hl.1 rfl (lv_room (Nat.le_of_ble_eq_true rfl)) d_Te_make_23 ⟨Nat.le_of_ble_eq_true rfl, Nat.le_of_ble_eq_true rfl⟩) ?_
    refine lv_istore (lv' := [(8, .int (f_Te_find x6 ((if x4 < x5 then x5 else x4) + 1) σ)), (0, .ref (h 6)), (1, .int x1), (2, .int x2), (3, .int x3), (4, .int x4), (5, .int x5), (6, .long x6)]) hx hb d_Te_make_26 hl (by decide) rfl (fun ls hl => ?_)
    exact B28 _ _ _ x1 x2 x3 x4 x5 x6 (f_Te_find x6 ((if x4 < x5 then x5 else x4) + 1) σ) σ hv hk (lv_sub hl [1, 2, 3, 4, 5, 6, 7, 0] rfl) hP hD hS
  unfold f_Te_make at hv
  unfold k_Te_make at hk
  refine lv_iload_n hx hb d_Te_make_0 rfl (lv_at hl 1 rfl) ?_
  refine lv_iload_n hx hb d_Te_make_1 rfl (lv_at hl 3 rfl) ?_
  refine lv_iload hx hb d_Te_make_2 (lv_at hl 4 rfl) ?_
  refine lv_iload hx hb d_Te_make_4 (lv_at hl 5 rfl) ?_
  obtain ⟨hk0, hk⟩ := hk
  refine zz_callV (va_runS (As := [.int a1, .int a3, .int a4, .int a5]) (rest := []) ⟨hx, hb, hml, hown, hg⟩ (c_Te_keyOf l D ty h px sa σ a1 a3 a4 a5 hk0) ⟨callB_of 4 hg (gw_C m_623) rfl rfl rfl (hg _ m_3) (hg _ m_621) hd_Te_keyOf ⟨Nat.le_of_ble_eq_true rfl, Nat.le_of_ble_eq_true rfl⟩, hg _ m_622⟩ (zz_preS (hM.at hS) hN hK hP) rfl rfl hl.1 rfl (lv_room (Nat.le_of_ble_eq_true rfl)) d_Te_make_6 ⟨Nat.le_of_ble_eq_true rfl, Nat.le_of_ble_eq_true rfl⟩) ?_
  refine lv_lstore (lv' := [(6, .long (f_Te_keyOf a1 a3 a4 a5 σ)), (0, .ref (h 6)), (1, .int a1), (2, .int a2), (3, .int a3), (4, .int a4), (5, .int a5)]) hx hb d_Te_make_9 hl (by decide) rfl (fun ls hl => ?_)
  exact B11 _ _ _ a1 a2 a3 a4 a5 (f_Te_keyOf a1 a3 a4 a5 σ) σ hv hk (lv_sub hl [1, 2, 3, 4, 5, 6, 0] rfl) hP hD hS

-- ClauseLedger$Terms.isTruth(I)Z
abbrev b_Te_isTruth : ByteArray := prog_11_method_6_code
def y_Te_isTruth : MethodName := ⟨"ClauseLedger$Terms", "isTruth", "(I)Z"⟩
theorem hd_Te_isTruth : y_Te_isTruth.cls ≠ "java/lang/invoke/MethodHandle" ∧ y_Te_isTruth.cls ≠ "java/lang/invoke/VarHandle" ∧ (parseMethodDescriptor y_Te_isTruth.desc).map (fun d => d.parameters.length) = some 1 := by decide +kernel
theorem d_Te_isTruth_0 : decode b_Te_isTruth 0 = .ok (.aload_n 0, 1) := by decide +kernel
theorem d_Te_isTruth_1 : decode b_Te_isTruth 1 = .ok (.iload_n 1, 1) := by decide +kernel
theorem d_Te_isTruth_2 : decode b_Te_isTruth 2 = .ok (.invokevirtual 61, 3) := by decide +kernel
theorem d_Te_isTruth_5 : decode b_Te_isTruth 5 = .ok (.ifCond .ne 7, 3) := by decide +kernel
theorem d_Te_isTruth_8 : decode b_Te_isTruth 8 = .ok (.iconst 1, 1) := by decide +kernel
theorem d_Te_isTruth_9 : decode b_Te_isTruth 9 = .ok (.goto 4, 3) := by decide +kernel
theorem d_Te_isTruth_12 : decode b_Te_isTruth 12 = .ok (.iconst 0, 1) := by decide +kernel
theorem d_Te_isTruth_13 : decode b_Te_isTruth 13 = .ok (.ireturn, 1) := by decide +kernel
def f_Te_isTruth_13 (s0 : Int32) (σ : St) : Int32 := s0
def k_Te_isTruth_13 (s0 : Int32) (σ : St) : Prop := (narrow .boolean (.int s0) = .int s0) ∧ True
def f_Te_isTruth (a1 : Int32) (σ : St) : Int32 := if (f_Te_sortOf a1 σ) = 0 then (f_Te_isTruth_13 1 σ) else (f_Te_isTruth_13 0 σ)
def k_Te_isTruth (a1 : Int32) (σ : St) : Prop := (k_Te_sortOf a1 σ) ∧ (((f_Te_sortOf a1 σ) = 0 → (k_Te_isTruth_13 1 σ)) ∧ (¬ (f_Te_sortOf a1 σ) = 0 → (k_Te_isTruth_13 0 σ)))
abbrev w_Te_isTruth : List Cond := Cond.code y_Te_isTruth b_Te_isTruth 2 (some .boolean) :: gw
abbrev rm_Te_isTruth : Room := { frames := 2, cells := 0, slots := 0, locals := 42 }
set_option maxHeartbeats 4000000 in
set_option maxRecDepth 100000 in
theorem c_Te_isTruth (l : Launch) (D : va_G) (ty : Nat → ClassId) (h : Nat → Nat) (px : va_W) (sa : Nat → Nat) (σ : St) (a1 : Int32) (hk : k_Te_isTruth a1 σ) : Met l y_Te_isTruth w_Te_isTruth rm_Te_isTruth (va_Pc [.ref (h 6), .int a1] (fun U => va_P D classes (Wc ty h σ px) U.heap ∧ va_K D classes (Ta ty) U ∧ NW U ∧ MK sa (fun _ => False) U U.heap)) (k2_QcV (.int (f_Te_isTruth a1 σ))) 0 0 (fun _ => False) := by
  refine Met.ofW (cc := b_Te_isTruth) (maxL := 2) (ret := (some .boolean)) (by decide) rfl ?_
  intro p e s m args below meth c s₁ B hml hv
  obtain ⟨ha, hP, hK, hN, hM⟩ := hv
  have hx := B.exec
  have hb := B.bytes
  have hr := B.returns
  have hg : ∀ w ∈ gw, w.before args s = true := fun w h9 => atoms_spec (ws := w_Te_isTruth) B.pre w (List.mem_cons_of_mem _ h9)
  have hown : s.vm.findClass "ClauseLedger$Terms" = some m.cls := findClass_of_methodNamed B.named
  have hlocks := B.notSynchronized
  have he : entryFrame m args 2 = entryFrame m ([.ref (h 6), .int a1] : List Value).toArray 2 := by rw [ha]
  rw [he, lg_entry_eq]
  have hl := lv_entry ([.ref (h 6), .int a1]) (n := 2) (Nat.le_of_ble_eq_true rfl)
  generalize (lg_sl ([.ref (h 6), .int a1]) ++ List.replicate (2 - (lg_sl ([.ref (h 6), .int a1])).length) Slot.unset).toArray = ls at hl ⊢
  have hl : lv_has ls 2 [(0, .ref (h 6)), (1, .int a1)] := hl
  generalize hv : f_Te_isTruth a1 σ = v
  replace hv := hv.symm
  have B13 : ∀ (ls : Array Slot) (s0 : Int32), v = f_Te_isTruth_13 s0 σ → k_Te_isTruth_13 s0 σ → lv_has ls 2 [] → W p l e (headSpec w_Te_isTruth rm_Te_isTruth).room s m args below meth c s.heap [] 0 0 (MQ below (k2_QcV (.int v)) args s 0 0 (fun _ => False)) (F0 m 13 ls [.int s0]) := by
    intro ls s0 hv hk hl
    unfold f_Te_isTruth_13 at hv
    unfold k_Te_isTruth_13 at hk
    obtain ⟨hk0, hk⟩ := hk
    exact W.zret hx hb hr hk0 (fun t ht hW => ⟨by rw [hv], ht⟩) (fun q h => nomatch h) d_Te_isTruth_13
  unfold f_Te_isTruth at hv
  unfold k_Te_isTruth at hk
  refine lv_aload_n hx hb d_Te_isTruth_0 rfl (lv_at hl 0 rfl) ?_
  refine lv_iload_n hx hb d_Te_isTruth_1 rfl (lv_at hl 1 rfl) ?_
  obtain ⟨hk0, hk⟩ := hk
  refine zz_callV (va_runV (As := [.int a1]) (rest := []) ⟨hx, hb, hml, hown, hg⟩ (c_Te_sortOf l D ty h px sa σ a1 hk0) ⟨callB_of 1 hg (gw_C m_439) rfl rfl rfl (hg _ m_3) (hg _ m_662) hd_Te_sortOf ⟨Nat.le_of_ble_eq_true rfl, Nat.le_of_ble_eq_true rfl⟩, hg _ m_437, hg _ m_438⟩ (zz_preV hM hN hK hP 6 rfl rfl) rfl rfl hl.1 rfl (lv_room (Nat.le_of_ble_eq_true rfl)) d_Te_isTruth_2 ⟨Nat.le_of_ble_eq_true rfl, Nat.le_of_ble_eq_true rfl⟩) ?_
  refine lv_if_ne (tgt := 12) hx hb d_Te_isTruth_5 (by decide) (fun hc => ?_) (fun hc => ?_)
  · have hv := hv.trans (if_neg hc)
    have hk := hk.2 hc
    refine lv_iconst (v := 0) hx hb d_Te_isTruth_12 (by decide) ?_
    exact B13 _ 0 hv hk (lv_sub hl [] rfl)
  · have hv := hv.trans (if_pos hc)
    have hk := hk.1 hc
    refine lv_iconst (v := 1) hx hb d_Te_isTruth_8 (by decide) ?_
    refine lv_goto (tgt := 13) hx hb d_Te_isTruth_9 (by decide) ?_
    exact B13 _ 1 hv hk (lv_sub hl [] rfl)

-- ClauseLedger$Terms.kindOf(I)I
abbrev b_Te_kindOf : ByteArray := prog_11_method_4_code
def y_Te_kindOf : MethodName := ⟨"ClauseLedger$Terms", "kindOf", "(I)I"⟩
theorem hd_Te_kindOf : y_Te_kindOf.cls ≠ "java/lang/invoke/MethodHandle" ∧ y_Te_kindOf.cls ≠ "java/lang/invoke/VarHandle" ∧ (parseMethodDescriptor y_Te_kindOf.desc).map (fun d => d.parameters.length) = some 1 := by decide +kernel
theorem d_Te_kindOf_0 : decode b_Te_kindOf 0 = .ok (.aload_n 0, 1) := by decide +kernel
theorem d_Te_kindOf_1 : decode b_Te_kindOf 1 = .ok (.iload_n 1, 1) := by decide +kernel
theorem d_Te_kindOf_2 : decode b_Te_kindOf 2 = .ok (.invokevirtual 57, 3) := by decide +kernel
theorem d_Te_kindOf_5 : decode b_Te_kindOf 5 = .ok (.ifCond .eq 12, 3) := by decide +kernel
theorem d_Te_kindOf_8 : decode b_Te_kindOf 8 = .ok (.aload_n 0, 1) := by decide +kernel
theorem d_Te_kindOf_9 : decode b_Te_kindOf 9 = .ok (.getfield 11, 3) := by decide +kernel
theorem d_Te_kindOf_12 : decode b_Te_kindOf 12 = .ok (.iload_n 1, 1) := by decide +kernel
theorem d_Te_kindOf_13 : decode b_Te_kindOf 13 = .ok (.iaload, 1) := by decide +kernel
theorem d_Te_kindOf_14 : decode b_Te_kindOf 14 = .ok (.goto 4, 3) := by decide +kernel
theorem d_Te_kindOf_17 : decode b_Te_kindOf 17 = .ok (.iconst (-1), 1) := by decide +kernel
theorem d_Te_kindOf_18 : decode b_Te_kindOf 18 = .ok (.ireturn, 1) := by decide +kernel
def f_Te_kindOf_18 (s0 : Int32) (σ : St) : Int32 := s0
def k_Te_kindOf_18 (s0 : Int32) (σ : St) : Prop := True
def f_Te_kindOf (a1 : Int32) (σ : St) : Int32 := if (f_Te_has a1 σ) = 0 then (f_Te_kindOf_18 (-1) σ) else (f_Te_kindOf_18 (σ.1 7 a1.toNatClampNeg) σ)
def k_Te_kindOf (a1 : Int32) (σ : St) : Prop := (k_Te_has a1 σ) ∧ (((f_Te_has a1 σ) = 0 → (k_Te_kindOf_18 (-1) σ)) ∧ (¬ (f_Te_has a1 σ) = 0 → (vp_in a1 208 ∧ (k_Te_kindOf_18 (σ.1 7 a1.toNatClampNeg) σ))))
abbrev w_Te_kindOf : List Cond := Cond.code y_Te_kindOf b_Te_kindOf 2 (some .int) :: gw
abbrev rm_Te_kindOf : Room := { frames := 1, cells := 0, slots := 0, locals := 21 }
set_option maxHeartbeats 4000000 in
set_option maxRecDepth 100000 in
theorem c_Te_kindOf (l : Launch) (D : va_G) (ty : Nat → ClassId) (h : Nat → Nat) (px : va_W) (sa : Nat → Nat) (σ : St) (a1 : Int32) (hk : k_Te_kindOf a1 σ) : Met l y_Te_kindOf w_Te_kindOf rm_Te_kindOf (va_Pc [.ref (h 6), .int a1] (fun U => va_P D classes (Wc ty h σ px) U.heap ∧ va_K D classes (Ta ty) U ∧ NW U ∧ MK sa (fun _ => False) U U.heap)) (k2_QcV (.int (f_Te_kindOf a1 σ))) 0 0 (fun _ => False) := by
  refine Met.ofW (cc := b_Te_kindOf) (maxL := 2) (ret := (some .int)) (by decide) rfl ?_
  intro p e s m args below meth c s₁ B hml hv
  obtain ⟨ha, hP, hK, hN, hM⟩ := hv
  have hx := B.exec
  have hb := B.bytes
  have hr := B.returns
  have hg : ∀ w ∈ gw, w.before args s = true := fun w h9 => atoms_spec (ws := w_Te_kindOf) B.pre w (List.mem_cons_of_mem _ h9)
  have hown : s.vm.findClass "ClauseLedger$Terms" = some m.cls := findClass_of_methodNamed B.named
  have hlocks := B.notSynchronized
  have he : entryFrame m args 2 = entryFrame m ([.ref (h 6), .int a1] : List Value).toArray 2 := by rw [ha]
  rw [he, lg_entry_eq]
  have hl := lv_entry ([.ref (h 6), .int a1]) (n := 2) (Nat.le_of_ble_eq_true rfl)
  generalize (lg_sl ([.ref (h 6), .int a1]) ++ List.replicate (2 - (lg_sl ([.ref (h 6), .int a1])).length) Slot.unset).toArray = ls at hl ⊢
  have hl : lv_has ls 2 [(0, .ref (h 6)), (1, .int a1)] := hl
  generalize hv : f_Te_kindOf a1 σ = v
  replace hv := hv.symm
  have B18 : ∀ (ls : Array Slot) (s0 : Int32), v = f_Te_kindOf_18 s0 σ → k_Te_kindOf_18 s0 σ → lv_has ls 2 [] → W p l e (headSpec w_Te_kindOf rm_Te_kindOf).room s m args below meth c s.heap [] 0 0 (MQ below (k2_QcV (.int v)) args s 0 0 (fun _ => False)) (F0 m 18 ls [.int s0]) := by
    intro ls s0 hv hk hl
    unfold f_Te_kindOf_18 at hv
    unfold k_Te_kindOf_18 at hk
    exact W.iret hx hb hr (fun t ht hW => ⟨by rw [hv], ht⟩) (fun q h => nomatch h) d_Te_kindOf_18
  unfold f_Te_kindOf at hv
  unfold k_Te_kindOf at hk
  refine lv_aload_n hx hb d_Te_kindOf_0 rfl (lv_at hl 0 rfl) ?_
  refine lv_iload_n hx hb d_Te_kindOf_1 rfl (lv_at hl 1 rfl) ?_
  obtain ⟨hk0, hk⟩ := hk
  refine zz_callV (va_runV (As := [.int a1]) (rest := []) ⟨hx, hb, hml, hown, hg⟩ (c_Te_has l D ty h px sa σ a1 hk0) ⟨callB_of 1 hg (gw_C m_430) rfl rfl rfl (hg _ m_3) (hg _ m_435) hd_Te_has ⟨Nat.le_of_ble_eq_true rfl, Nat.le_of_ble_eq_true rfl⟩, hg _ m_428, hg _ m_429⟩ (zz_preV hM hN hK hP 6 rfl rfl) rfl rfl hl.1 rfl (lv_room (Nat.le_of_ble_eq_true rfl)) d_Te_kindOf_2 ⟨Nat.le_of_ble_eq_true rfl, Nat.le_of_ble_eq_true rfl⟩) ?_
  refine lv_if_eq (tgt := 17) hx hb d_Te_kindOf_5 (by decide) (fun hc => ?_) (fun hc => ?_)
  · have hv := hv.trans (if_pos hc)
    have hk := hk.1 hc
    refine lv_iconst (v := -1) hx hb d_Te_kindOf_17 (by decide) ?_
    exact B18 _ (-1) hv hk (lv_sub hl [] rfl)
  · have hv := hv.trans (if_neg hc)
    have hk := hk.2 hc
    refine lv_aload_n hx hb d_Te_kindOf_8 rfl (lv_at hl 0 rfl) ?_
    refine va_get (v := .ref (h 7)) (C := R_Te) (T := T_Te) (N := 14) hx hb hg in_Te hown hK hP 6 rfl rfl 0 (by decide) (hg _ m_69) (fun _ h9 => h9) rfl d_Te_kindOf_9 ?_
    refine lv_iload_n hx hb d_Te_kindOf_12 rfl (lv_at hl 1 rfl) ?_
    obtain ⟨hk0, hk⟩ := hk
    refine va_iald hx hb hK hP 7 0 rfl rfl hk0 d_Te_kindOf_13 ?_
    refine lv_goto (tgt := 18) hx hb d_Te_kindOf_14 (by decide) ?_
    exact B18 _ (σ.1 7 a1.toNatClampNeg) hv hk (lv_sub hl [] rfl)

-- ClauseLedger$Reader.canBePartsOf(III)Z
abbrev b_Rd_canBePartsOf : ByteArray := prog_5_method_10_code
def y_Rd_canBePartsOf : MethodName := ⟨"ClauseLedger$Reader", "canBePartsOf", "(III)Z"⟩
theorem hd_Rd_canBePartsOf : y_Rd_canBePartsOf.cls ≠ "java/lang/invoke/MethodHandle" ∧ y_Rd_canBePartsOf.cls ≠ "java/lang/invoke/VarHandle" ∧ (parseMethodDescriptor y_Rd_canBePartsOf.desc).map (fun d => d.parameters.length) = some 3 := by decide +kernel
theorem d_Rd_canBePartsOf_0 : decode b_Rd_canBePartsOf 0 = .ok (.iload_n 1, 1) := by decide +kernel
theorem d_Rd_canBePartsOf_1 : decode b_Rd_canBePartsOf 1 = .ok (.iconst 5, 1) := by decide +kernel
theorem d_Rd_canBePartsOf_2 : decode b_Rd_canBePartsOf 2 = .ok (.if_icmp .ne 28, 3) := by decide +kernel
theorem d_Rd_canBePartsOf_5 : decode b_Rd_canBePartsOf 5 = .ok (.aload_n 0, 1) := by decide +kernel
theorem d_Rd_canBePartsOf_6 : decode b_Rd_canBePartsOf 6 = .ok (.getfield 23, 3) := by decide +kernel
theorem d_Rd_canBePartsOf_9 : decode b_Rd_canBePartsOf 9 = .ok (.iload_n 2, 1) := by decide +kernel
theorem d_Rd_canBePartsOf_10 : decode b_Rd_canBePartsOf 10 = .ok (.invokevirtual 105, 3) := by decide +kernel
theorem d_Rd_canBePartsOf_13 : decode b_Rd_canBePartsOf 13 = .ok (.aload_n 0, 1) := by decide +kernel
theorem d_Rd_canBePartsOf_14 : decode b_Rd_canBePartsOf 14 = .ok (.getfield 23, 3) := by decide +kernel
theorem d_Rd_canBePartsOf_17 : decode b_Rd_canBePartsOf 17 = .ok (.iload_n 3, 1) := by decide +kernel
theorem d_Rd_canBePartsOf_18 : decode b_Rd_canBePartsOf 18 = .ok (.invokevirtual 105, 3) := by decide +kernel
theorem d_Rd_canBePartsOf_21 : decode b_Rd_canBePartsOf 21 = .ok (.if_icmp .ne 7, 3) := by decide +kernel
theorem d_Rd_canBePartsOf_24 : decode b_Rd_canBePartsOf 24 = .ok (.iconst 1, 1) := by decide +kernel
theorem d_Rd_canBePartsOf_25 : decode b_Rd_canBePartsOf 25 = .ok (.goto 4, 3) := by decide +kernel
theorem d_Rd_canBePartsOf_28 : decode b_Rd_canBePartsOf 28 = .ok (.iconst 0, 1) := by decide +kernel
theorem d_Rd_canBePartsOf_29 : decode b_Rd_canBePartsOf 29 = .ok (.ireturn, 1) := by decide +kernel
theorem d_Rd_canBePartsOf_30 : decode b_Rd_canBePartsOf 30 = .ok (.iload_n 1, 1) := by decide +kernel
theorem d_Rd_canBePartsOf_31 : decode b_Rd_canBePartsOf 31 = .ok (.iconst 4, 1) := by decide +kernel
theorem d_Rd_canBePartsOf_32 : decode b_Rd_canBePartsOf 32 = .ok (.if_icmp .ne 33, 3) := by decide +kernel
theorem d_Rd_canBePartsOf_35 : decode b_Rd_canBePartsOf 35 = .ok (.aload_n 0, 1) := by decide +kernel
theorem d_Rd_canBePartsOf_36 : decode b_Rd_canBePartsOf 36 = .ok (.getfield 23, 3) := by decide +kernel
theorem d_Rd_canBePartsOf_39 : decode b_Rd_canBePartsOf 39 = .ok (.iload_n 2, 1) := by decide +kernel
theorem d_Rd_canBePartsOf_40 : decode b_Rd_canBePartsOf 40 = .ok (.invokevirtual 115, 3) := by decide +kernel
theorem d_Rd_canBePartsOf_43 : decode b_Rd_canBePartsOf 43 = .ok (.iconst 2, 1) := by decide +kernel
theorem d_Rd_canBePartsOf_44 : decode b_Rd_canBePartsOf 44 = .ok (.if_icmp .ne 19, 3) := by decide +kernel
theorem d_Rd_canBePartsOf_47 : decode b_Rd_canBePartsOf 47 = .ok (.aload_n 0, 1) := by decide +kernel
theorem d_Rd_canBePartsOf_48 : decode b_Rd_canBePartsOf 48 = .ok (.getfield 23, 3) := by decide +kernel
theorem d_Rd_canBePartsOf_51 : decode b_Rd_canBePartsOf 51 = .ok (.iload_n 3, 1) := by decide +kernel
theorem d_Rd_canBePartsOf_52 : decode b_Rd_canBePartsOf 52 = .ok (.invokevirtual 105, 3) := by decide +kernel
theorem d_Rd_canBePartsOf_55 : decode b_Rd_canBePartsOf 55 = .ok (.iconst 1, 1) := by decide +kernel
theorem d_Rd_canBePartsOf_56 : decode b_Rd_canBePartsOf 56 = .ok (.if_icmp .ne 7, 3) := by decide +kernel
theorem d_Rd_canBePartsOf_59 : decode b_Rd_canBePartsOf 59 = .ok (.iconst 1, 1) := by decide +kernel
theorem d_Rd_canBePartsOf_60 : decode b_Rd_canBePartsOf 60 = .ok (.goto 4, 3) := by decide +kernel
theorem d_Rd_canBePartsOf_63 : decode b_Rd_canBePartsOf 63 = .ok (.iconst 0, 1) := by decide +kernel
theorem d_Rd_canBePartsOf_64 : decode b_Rd_canBePartsOf 64 = .ok (.ireturn, 1) := by decide +kernel
theorem d_Rd_canBePartsOf_65 : decode b_Rd_canBePartsOf 65 = .ok (.iload_n 1, 1) := by decide +kernel
theorem d_Rd_canBePartsOf_66 : decode b_Rd_canBePartsOf 66 = .ok (.iconst 3, 1) := by decide +kernel
theorem d_Rd_canBePartsOf_67 : decode b_Rd_canBePartsOf 67 = .ok (.if_icmp .eq 9, 3) := by decide +kernel
theorem d_Rd_canBePartsOf_70 : decode b_Rd_canBePartsOf 70 = .ok (.iload_n 1, 1) := by decide +kernel
theorem d_Rd_canBePartsOf_71 : decode b_Rd_canBePartsOf 71 = .ok (.bipush 6, 2) := by decide +kernel
theorem d_Rd_canBePartsOf_73 : decode b_Rd_canBePartsOf 73 = .ok (.if_icmp .ne 7, 3) := by decide +kernel
theorem d_Rd_canBePartsOf_76 : decode b_Rd_canBePartsOf 76 = .ok (.iconst 1, 1) := by decide +kernel
theorem d_Rd_canBePartsOf_77 : decode b_Rd_canBePartsOf 77 = .ok (.goto 4, 3) := by decide +kernel
theorem d_Rd_canBePartsOf_80 : decode b_Rd_canBePartsOf 80 = .ok (.iconst 0, 1) := by decide +kernel
theorem d_Rd_canBePartsOf_81 : decode b_Rd_canBePartsOf 81 = .ok (.istore 4, 2) := by decide +kernel
theorem d_Rd_canBePartsOf_83 : decode b_Rd_canBePartsOf 83 = .ok (.aload_n 0, 1) := by decide +kernel
theorem d_Rd_canBePartsOf_84 : decode b_Rd_canBePartsOf 84 = .ok (.getfield 23, 3) := by decide +kernel
theorem d_Rd_canBePartsOf_87 : decode b_Rd_canBePartsOf 87 = .ok (.iload_n 2, 1) := by decide +kernel
theorem d_Rd_canBePartsOf_88 : decode b_Rd_canBePartsOf 88 = .ok (.invokevirtual 105, 3) := by decide +kernel
theorem d_Rd_canBePartsOf_91 : decode b_Rd_canBePartsOf 91 = .ok (.iload 4, 2) := by decide +kernel
theorem d_Rd_canBePartsOf_93 : decode b_Rd_canBePartsOf 93 = .ok (.if_icmp .ne 20, 3) := by decide +kernel
theorem d_Rd_canBePartsOf_96 : decode b_Rd_canBePartsOf 96 = .ok (.aload_n 0, 1) := by decide +kernel
theorem d_Rd_canBePartsOf_97 : decode b_Rd_canBePartsOf 97 = .ok (.getfield 23, 3) := by decide +kernel
theorem d_Rd_canBePartsOf_100 : decode b_Rd_canBePartsOf 100 = .ok (.iload_n 3, 1) := by decide +kernel
theorem d_Rd_canBePartsOf_101 : decode b_Rd_canBePartsOf 101 = .ok (.invokevirtual 105, 3) := by decide +kernel
theorem d_Rd_canBePartsOf_104 : decode b_Rd_canBePartsOf 104 = .ok (.iload 4, 2) := by decide +kernel
theorem d_Rd_canBePartsOf_106 : decode b_Rd_canBePartsOf 106 = .ok (.if_icmp .ne 7, 3) := by decide +kernel
theorem d_Rd_canBePartsOf_109 : decode b_Rd_canBePartsOf 109 = .ok (.iconst 1, 1) := by decide +kernel
theorem d_Rd_canBePartsOf_110 : decode b_Rd_canBePartsOf 110 = .ok (.goto 4, 3) := by decide +kernel
theorem d_Rd_canBePartsOf_113 : decode b_Rd_canBePartsOf 113 = .ok (.iconst 0, 1) := by decide +kernel
theorem d_Rd_canBePartsOf_114 : decode b_Rd_canBePartsOf 114 = .ok (.ireturn, 1) := by decide +kernel
def f_Rd_canBePartsOf_29 (s0 : Int32) (σ : St) : Int32 := s0
def k_Rd_canBePartsOf_29 (s0 : Int32) (σ : St) : Prop := (narrow .boolean (.int s0) = .int s0) ∧ True
def f_Rd_canBePartsOf_64 (s0 : Int32) (σ : St) : Int32 := s0
def k_Rd_canBePartsOf_64 (s0 : Int32) (σ : St) : Prop := (narrow .boolean (.int s0) = .int s0) ∧ True
def f_Rd_canBePartsOf_63 (σ : St) : Int32 := f_Rd_canBePartsOf_64 0 σ
def k_Rd_canBePartsOf_63 (σ : St) : Prop := k_Rd_canBePartsOf_64 0 σ
def f_Rd_canBePartsOf_114 (s0 : Int32) (σ : St) : Int32 := s0
def k_Rd_canBePartsOf_114 (s0 : Int32) (σ : St) : Prop := (narrow .boolean (.int s0) = .int s0) ∧ True
def f_Rd_canBePartsOf_113 (σ : St) : Int32 := f_Rd_canBePartsOf_114 0 σ
def k_Rd_canBePartsOf_113 (σ : St) : Prop := k_Rd_canBePartsOf_114 0 σ
def f_Rd_canBePartsOf_81 (x2 : Int32) (x3 : Int32) (s0 : Int32) (σ : St) : Int32 := if (f_Te_sortOf x2 σ) = s0 then (if (f_Te_sortOf x3 σ) = s0 then (f_Rd_canBePartsOf_114 1 σ) else (f_Rd_canBePartsOf_113 σ)) else (f_Rd_canBePartsOf_113 σ)
def k_Rd_canBePartsOf_81 (x2 : Int32) (x3 : Int32) (s0 : Int32) (σ : St) : Prop := (k_Te_sortOf x2 σ) ∧ (((f_Te_sortOf x2 σ) = s0 → ((k_Te_sortOf x3 σ) ∧ (((f_Te_sortOf x3 σ) = s0 → (k_Rd_canBePartsOf_114 1 σ)) ∧ (¬ (f_Te_sortOf x3 σ) = s0 → (k_Rd_canBePartsOf_113 σ))))) ∧ (¬ (f_Te_sortOf x2 σ) = s0 → (k_Rd_canBePartsOf_113 σ)))
def f_Rd_canBePartsOf_76 (x2 : Int32) (x3 : Int32) (σ : St) : Int32 := f_Rd_canBePartsOf_81 x2 x3 1 σ
def k_Rd_canBePartsOf_76 (x2 : Int32) (x3 : Int32) (σ : St) : Prop := k_Rd_canBePartsOf_81 x2 x3 1 σ
def f_Rd_canBePartsOf (a1 : Int32) (a2 : Int32) (a3 : Int32) (σ : St) : Int32 := if a1 = 5 then (if (f_Te_sortOf a2 σ) = (f_Te_sortOf a3 σ) then (f_Rd_canBePartsOf_29 1 σ) else (f_Rd_canBePartsOf_29 0 σ)) else (if a1 = 4 then (if (f_Te_kindOf a2 σ) = 2 then (if (f_Te_sortOf a3 σ) = 1 then (f_Rd_canBePartsOf_64 1 σ) else (f_Rd_canBePartsOf_63 σ)) else (f_Rd_canBePartsOf_63 σ)) else (if a1 = 3 then (f_Rd_canBePartsOf_76 a2 a3 σ) else (if a1 = 6 then (f_Rd_canBePartsOf_76 a2 a3 σ) else (f_Rd_canBePartsOf_81 a2 a3 0 σ))))
def k_Rd_canBePartsOf (a1 : Int32) (a2 : Int32) (a3 : Int32) (σ : St) : Prop := (a1 = 5 → ((k_Te_sortOf a2 σ) ∧ ((k_Te_sortOf a3 σ) ∧ (((f_Te_sortOf a2 σ) = (f_Te_sortOf a3 σ) → (k_Rd_canBePartsOf_29 1 σ)) ∧ (¬ (f_Te_sortOf a2 σ) = (f_Te_sortOf a3 σ) → (k_Rd_canBePartsOf_29 0 σ)))))) ∧ (¬ a1 = 5 → ((a1 = 4 → ((k_Te_kindOf a2 σ) ∧ (((f_Te_kindOf a2 σ) = 2 → ((k_Te_sortOf a3 σ) ∧ (((f_Te_sortOf a3 σ) = 1 → (k_Rd_canBePartsOf_64 1 σ)) ∧ (¬ (f_Te_sortOf a3 σ) = 1 → (k_Rd_canBePartsOf_63 σ))))) ∧ (¬ (f_Te_kindOf a2 σ) = 2 → (k_Rd_canBePartsOf_63 σ))))) ∧ (¬ a1 = 4 → ((a1 = 3 → (k_Rd_canBePartsOf_76 a2 a3 σ)) ∧ (¬ a1 = 3 → ((a1 = 6 → (k_Rd_canBePartsOf_76 a2 a3 σ)) ∧ (¬ a1 = 6 → (k_Rd_canBePartsOf_81 a2 a3 0 σ))))))))
abbrev w_Rd_canBePartsOf : List Cond := Cond.code y_Rd_canBePartsOf b_Rd_canBePartsOf 5 (some .boolean) :: gw
abbrev rm_Rd_canBePartsOf : Room := { frames := 2, cells := 0, slots := 0, locals := 42 }
set_option maxHeartbeats 4000000 in
set_option maxRecDepth 100000 in
theorem c_Rd_canBePartsOf (l : Launch) (D : va_G) (ty : Nat → ClassId) (h : Nat → Nat) (px : va_W) (sa : Nat → Nat) (σ : St) (a1 : Int32) (a2 : Int32) (a3 : Int32) (hk : k_Rd_canBePartsOf a1 a2 a3 σ) : Met l y_Rd_canBePartsOf w_Rd_canBePartsOf rm_Rd_canBePartsOf (va_Pc [.ref (h 20), .int a1, .int a2, .int a3] (fun U => va_P D classes (Wc ty h σ px) U.heap ∧ va_K D classes (Ta ty) U ∧ NW U ∧ MK sa (fun _ => False) U U.heap)) (k2_QcV (.int (f_Rd_canBePartsOf a1 a2 a3 σ))) 0 0 (fun _ => False) := by
  refine Met.ofW (cc := b_Rd_canBePartsOf) (maxL := 5) (ret := (some .boolean)) (by decide) rfl ?_
  intro p e s m args below meth c s₁ B hml hv
  obtain ⟨ha, hP, hK, hN, hM⟩ := hv
  have hx := B.exec
  have hb := B.bytes
  have hr := B.returns
  have hg : ∀ w ∈ gw, w.before args s = true := fun w h9 => atoms_spec (ws := w_Rd_canBePartsOf) B.pre w (List.mem_cons_of_mem _ h9)
  have hown : s.vm.findClass "ClauseLedger$Reader" = some m.cls := findClass_of_methodNamed B.named
  have hlocks := B.notSynchronized
  have he : entryFrame m args 5 = entryFrame m ([.ref (h 20), .int a1, .int a2, .int a3] : List Value).toArray 5 := by rw [ha]
  rw [he, lg_entry_eq]
  have hl := lv_entry ([.ref (h 20), .int a1, .int a2, .int a3]) (n := 5) (Nat.le_of_ble_eq_true rfl)
  generalize (lg_sl ([.ref (h 20), .int a1, .int a2, .int a3]) ++ List.replicate (5 - (lg_sl ([.ref (h 20), .int a1, .int a2, .int a3])).length) Slot.unset).toArray = ls at hl ⊢
  have hl : lv_has ls 5 [(0, .ref (h 20)), (1, .int a1), (2, .int a2), (3, .int a3)] := hl
  generalize hv : f_Rd_canBePartsOf a1 a2 a3 σ = v
  replace hv := hv.symm
  have B29 : ∀ (ls : Array Slot) (s0 : Int32), v = f_Rd_canBePartsOf_29 s0 σ → k_Rd_canBePartsOf_29 s0 σ → lv_has ls 5 [] → W p l e (headSpec w_Rd_canBePartsOf rm_Rd_canBePartsOf).room s m args below meth c s.heap [] 0 0 (MQ below (k2_QcV (.int v)) args s 0 0 (fun _ => False)) (F0 m 29 ls [.int s0]) := by
    intro ls s0 hv hk hl
    unfold f_Rd_canBePartsOf_29 at hv
    unfold k_Rd_canBePartsOf_29 at hk
    obtain ⟨hk0, hk⟩ := hk
    exact W.zret hx hb hr hk0 (fun t ht hW => ⟨by rw [hv], ht⟩) (fun q h => nomatch h) d_Rd_canBePartsOf_29
  have B64 : ∀ (ls : Array Slot) (s0 : Int32), v = f_Rd_canBePartsOf_64 s0 σ → k_Rd_canBePartsOf_64 s0 σ → lv_has ls 5 [] → W p l e (headSpec w_Rd_canBePartsOf rm_Rd_canBePartsOf).room s m args below meth c s.heap [] 0 0 (MQ below (k2_QcV (.int v)) args s 0 0 (fun _ => False)) (F0 m 64 ls [.int s0]) := by
    intro ls s0 hv hk hl
    unfold f_Rd_canBePartsOf_64 at hv
    unfold k_Rd_canBePartsOf_64 at hk
    obtain ⟨hk0, hk⟩ := hk
    exact W.zret hx hb hr hk0 (fun t ht hW => ⟨by rw [hv], ht⟩) (fun q h => nomatch h) d_Rd_canBePartsOf_64
  have B63 : ∀ (ls : Array Slot), v = f_Rd_canBePartsOf_63 σ → k_Rd_canBePartsOf_63 σ → lv_has ls 5 [] → W p l e (headSpec w_Rd_canBePartsOf rm_Rd_canBePartsOf).room s m args below meth c s.heap [] 0 0 (MQ below (k2_QcV (.int v)) args s 0 0 (fun _ => False)) (F0 m 63 ls []) := by
    intro ls hv hk hl
    unfold f_Rd_canBePartsOf_63 at hv
    unfold k_Rd_canBePartsOf_63 at hk
    refine lv_iconst (v := 0) hx hb d_Rd_canBePartsOf_63 (by decide) ?_
    exact B64 _ 0 hv hk (lv_sub hl [] rfl)
  have B114 : ∀ (ls : Array Slot) (s0 : Int32), v = f_Rd_canBePartsOf_114 s0 σ → k_Rd_canBePartsOf_114 s0 σ → lv_has ls 5 [] → W p l e (headSpec w_Rd_canBePartsOf rm_Rd_canBePartsOf).room s m args below meth c s.heap [] 0 0 (MQ below (k2_QcV (.int v)) args s 0 0 (fun _ => False)) (F0 m 114 ls [.int s0]) := by
    intro ls s0 hv hk hl
    unfold f_Rd_canBePartsOf_114 at hv
    unfold k_Rd_canBePartsOf_114 at hk
    obtain ⟨hk0, hk⟩ := hk
    exact W.zret hx hb hr hk0 (fun t ht hW => ⟨by rw [hv], ht⟩) (fun q h => nomatch h) d_Rd_canBePartsOf_114
  have B113 : ∀ (ls : Array Slot), v = f_Rd_canBePartsOf_113 σ → k_Rd_canBePartsOf_113 σ → lv_has ls 5 [] → W p l e (headSpec w_Rd_canBePartsOf rm_Rd_canBePartsOf).room s m args below meth c s.heap [] 0 0 (MQ below (k2_QcV (.int v)) args s 0 0 (fun _ => False)) (F0 m 113 ls []) := by
    intro ls hv hk hl
    unfold f_Rd_canBePartsOf_113 at hv
    unfold k_Rd_canBePartsOf_113 at hk
    refine lv_iconst (v := 0) hx hb d_Rd_canBePartsOf_113 (by decide) ?_
    exact B114 _ 0 hv hk (lv_sub hl [] rfl)
  have B81 : ∀ (ls : Array Slot) (x2 : Int32) (x3 : Int32) (s0 : Int32), v = f_Rd_canBePartsOf_81 x2 x3 s0 σ → k_Rd_canBePartsOf_81 x2 x3 s0 σ → lv_has ls 5 [(0, .ref (h 20)), (2, .int x2), (3, .int x3)] → W p l e (headSpec w_Rd_canBePartsOf rm_Rd_canBePartsOf).room s m args below meth c s.heap [] 0 0 (MQ below (k2_QcV (.int v)) args s 0 0 (fun _ => False)) (F0 m 81 ls [.int s0]) := by
    intro ls x2 x3 s0 hv hk hl
    unfold f_Rd_canBePartsOf_81 at hv
    unfold k_Rd_canBePartsOf_81 at hk
    refine lv_istore (lv' := [(4, .int s0), (0, .ref (h 20)), (2, .int x2), (3, .int x3)]) hx hb d_Rd_canBePartsOf_81 hl (by decide) rfl (fun ls hl => ?_)
    refine lv_aload_n hx hb d_Rd_canBePartsOf_83 rfl (lv_at hl 1 rfl) ?_
    refine va_get (v := .ref (h 6)) (C := R_Rd) (T := T_Rd) (N := 4) hx hb hg in_Rd hown hK hP 20 rfl rfl 2 (by decide) (hg _ m_135) (fun _ h9 => h9) rfl d_Rd_canBePartsOf_84 ?_
    refine lv_iload_n hx hb d_Rd_canBePartsOf_87 rfl (lv_at hl 2 rfl) ?_
    obtain ⟨hk0, hk⟩ := hk
    refine zz_callV (va_runV (As := [.int x2]) (rest := []) ⟨hx, hb, hml, hown, hg⟩ (c_Te_sortOf l D ty h px sa σ x2 hk0) ⟨callB_of 1 hg (gw_C m_439) rfl rfl rfl (hg _ m_3) (hg _ m_612) hd_Te_sortOf ⟨Nat.le_of_ble_eq_true rfl, Nat.le_of_ble_eq_true rfl⟩, hg _ m_437, hg _ m_438⟩ (zz_preV hM hN hK hP 6 rfl rfl) rfl rfl hl.1 rfl (lv_room (Nat.le_of_ble_eq_true rfl)) d_Rd_canBePartsOf_88 ⟨Nat.le_of_ble_eq_true rfl, Nat.le_of_ble_eq_true rfl⟩) ?_
    refine lv_iload hx hb d_Rd_canBePartsOf_91 (lv_at hl 0 rfl) ?_
    refine lv_icmp_ne (tgt := 113) hx hb d_Rd_canBePartsOf_93 (by decide) (fun hc => ?_) (fun hc => ?_)
    · have hv := hv.trans (if_neg hc)
      have hk := hk.2 hc
      exact B113 _  hv hk (lv_sub hl [] rfl)
    · have hv := hv.trans (if_pos hc)
      have hk := hk.1 hc
      refine lv_aload_n hx hb d_Rd_canBePartsOf_96 rfl (lv_at hl 1 rfl) ?_
      refine va_get (v := .ref (h 6)) (C := R_Rd) (T := T_Rd) (N := 4) hx hb hg in_Rd hown hK hP 20 rfl rfl 2 (by decide) (hg _ m_135) (fun _ h9 => h9) rfl d_Rd_canBePartsOf_97 ?_
      refine lv_iload_n hx hb d_Rd_canBePartsOf_100 rfl (lv_at hl 3 rfl) ?_
      obtain ⟨hk0, hk⟩ := hk
      refine zz_callV (va_runV (As := [.int x3]) (rest := []) ⟨hx, hb, hml, hown, hg⟩ (c_Te_sortOf l D ty h px sa σ x3 hk0) ⟨callB_of 1 hg (gw_C m_439) rfl rfl rfl (hg _ m_3) (hg _ m_612) hd_Te_sortOf ⟨Nat.le_of_ble_eq_true rfl, Nat.le_of_ble_eq_true rfl⟩, hg _ m_437, hg _ m_438⟩ (zz_preV hM hN hK hP 6 rfl rfl) rfl rfl hl.1 rfl (lv_room (Nat.le_of_ble_eq_true rfl)) d_Rd_canBePartsOf_101 ⟨Nat.le_of_ble_eq_true rfl, Nat.le_of_ble_eq_true rfl⟩) ?_
      refine lv_iload hx hb d_Rd_canBePartsOf_104 (lv_at hl 0 rfl) ?_
      refine lv_icmp_ne (tgt := 113) hx hb d_Rd_canBePartsOf_106 (by decide) (fun hc => ?_) (fun hc => ?_)
      · have hv := hv.trans (if_neg hc)
        have hk := hk.2 hc
        exact B113 _  hv hk (lv_sub hl [] rfl)
      · have hv := hv.trans (if_pos hc)
        have hk := hk.1 hc
        refine lv_iconst (v := 1) hx hb d_Rd_canBePartsOf_109 (by decide) ?_
        refine lv_goto (tgt := 114) hx hb d_Rd_canBePartsOf_110 (by decide) ?_
        exact B114 _ 1 hv hk (lv_sub hl [] rfl)
  have B76 : ∀ (ls : Array Slot) (x2 : Int32) (x3 : Int32), v = f_Rd_canBePartsOf_76 x2 x3 σ → k_Rd_canBePartsOf_76 x2 x3 σ → lv_has ls 5 [(0, .ref (h 20)), (2, .int x2), (3, .int x3)] → W p l e (headSpec w_Rd_canBePartsOf rm_Rd_canBePartsOf).room s m args below meth c s.heap [] 0 0 (MQ below (k2_QcV (.int v)) args s 0 0 (fun _ => False)) (F0 m 76 ls []) := by
    intro ls x2 x3 hv hk hl
    unfold f_Rd_canBePartsOf_76 at hv
    unfold k_Rd_canBePartsOf_76 at hk
    refine lv_iconst (v := 1) hx hb d_Rd_canBePartsOf_76 (by decide) ?_
    refine lv_goto (tgt := 81) hx hb d_Rd_canBePartsOf_77 (by decide) ?_
    exact B81 _ x2 x3 1 hv hk (lv_sub hl [0, 1, 2] rfl)
  unfold f_Rd_canBePartsOf at hv
  unfold k_Rd_canBePartsOf at hk
  refine lv_iload_n hx hb d_Rd_canBePartsOf_0 rfl (lv_at hl 1 rfl) ?_
  refine lv_iconst (v := 5) hx hb d_Rd_canBePartsOf_1 (by decide) ?_
  refine lv_icmp_ne (tgt := 30) hx hb d_Rd_canBePartsOf_2 (by decide) (fun hc => ?_) (fun hc => ?_)
  · have hv := hv.trans (if_neg hc)
    have hk := hk.2 hc
    refine lv_iload_n hx hb d_Rd_canBePartsOf_30 rfl (lv_at hl 1 rfl) ?_
    refine lv_iconst (v := 4) hx hb d_Rd_canBePartsOf_31 (by decide) ?_
    refine lv_icmp_ne (tgt := 65) hx hb d_Rd_canBePartsOf_32 (by decide) (fun hc => ?_) (fun hc => ?_)
    · have hv := hv.trans (if_neg hc)
      have hk := hk.2 hc
      refine lv_iload_n hx hb d_Rd_canBePartsOf_65 rfl (lv_at hl 1 rfl) ?_
      refine lv_iconst (v := 3) hx hb d_Rd_canBePartsOf_66 (by decide) ?_
      refine lv_icmp_eq (tgt := 76) hx hb d_Rd_canBePartsOf_67 (by decide) (fun hc => ?_) (fun hc => ?_)
      · have hv := hv.trans (if_pos hc)
        have hk := hk.1 hc
        exact B76 _ a2 a3 hv hk (lv_sub hl [0, 2, 3] rfl)
      · have hv := hv.trans (if_neg hc)
        have hk := hk.2 hc
        refine lv_iload_n hx hb d_Rd_canBePartsOf_70 rfl (lv_at hl 1 rfl) ?_
        refine lv_bipush (v := 6) hx hb d_Rd_canBePartsOf_71 (by decide) ?_
        refine lv_icmp_ne (tgt := 80) hx hb d_Rd_canBePartsOf_73 (by decide) (fun hc => ?_) (fun hc => ?_)
        · have hv := hv.trans (if_neg hc)
          have hk := hk.2 hc
          refine lv_iconst (v := 0) hx hb d_Rd_canBePartsOf_80 (by decide) ?_
          exact B81 _ a2 a3 0 hv hk (lv_sub hl [0, 2, 3] rfl)
        · have hv := hv.trans (if_pos hc)
          have hk := hk.1 hc
          exact B76 _ a2 a3 hv hk (lv_sub hl [0, 2, 3] rfl)
    · have hv := hv.trans (if_pos hc)
      have hk := hk.1 hc
      refine lv_aload_n hx hb d_Rd_canBePartsOf_35 rfl (lv_at hl 0 rfl) ?_
      refine va_get (v := .ref (h 6)) (C := R_Rd) (T := T_Rd) (N := 4) hx hb hg in_Rd hown hK hP 20 rfl rfl 2 (by decide) (hg _ m_135) (fun _ h9 => h9) rfl d_Rd_canBePartsOf_36 ?_
      refine lv_iload_n hx hb d_Rd_canBePartsOf_39 rfl (lv_at hl 2 rfl) ?_
      obtain ⟨hk0, hk⟩ := hk
      refine zz_callV (va_runV (As := [.int a2]) (rest := []) ⟨hx, hb, hml, hown, hg⟩ (c_Te_kindOf l D ty h px sa σ a2 hk0) ⟨callB_of 1 hg (gw_C m_434) rfl rfl rfl (hg _ m_3) (hg _ m_732) hd_Te_kindOf ⟨Nat.le_of_ble_eq_true rfl, Nat.le_of_ble_eq_true rfl⟩, hg _ m_432, hg _ m_433⟩ (zz_preV hM hN hK hP 6 rfl rfl) rfl rfl hl.1 rfl (lv_room (Nat.le_of_ble_eq_true rfl)) d_Rd_canBePartsOf_40 ⟨Nat.le_of_ble_eq_true rfl, Nat.le_of_ble_eq_true rfl⟩) ?_
      refine lv_iconst (v := 2) hx hb d_Rd_canBePartsOf_43 (by decide) ?_
      refine lv_icmp_ne (tgt := 63) hx hb d_Rd_canBePartsOf_44 (by decide) (fun hc => ?_) (fun hc => ?_)
      · have hv := hv.trans (if_neg hc)
        have hk := hk.2 hc
        exact B63 _  hv hk (lv_sub hl [] rfl)
      · have hv := hv.trans (if_pos hc)
        have hk := hk.1 hc
        refine lv_aload_n hx hb d_Rd_canBePartsOf_47 rfl (lv_at hl 0 rfl) ?_
        refine va_get (v := .ref (h 6)) (C := R_Rd) (T := T_Rd) (N := 4) hx hb hg in_Rd hown hK hP 20 rfl rfl 2 (by decide) (hg _ m_135) (fun _ h9 => h9) rfl d_Rd_canBePartsOf_48 ?_
        refine lv_iload_n hx hb d_Rd_canBePartsOf_51 rfl (lv_at hl 3 rfl) ?_
        obtain ⟨hk0, hk⟩ := hk
        refine zz_callV (va_runV (As := [.int a3]) (rest := []) ⟨hx, hb, hml, hown, hg⟩ (c_Te_sortOf l D ty h px sa σ a3 hk0) ⟨callB_of 1 hg (gw_C m_439) rfl rfl rfl (hg _ m_3) (hg _ m_612) hd_Te_sortOf ⟨Nat.le_of_ble_eq_true rfl, Nat.le_of_ble_eq_true rfl⟩, hg _ m_437, hg _ m_438⟩ (zz_preV hM hN hK hP 6 rfl rfl) rfl rfl hl.1 rfl (lv_room (Nat.le_of_ble_eq_true rfl)) d_Rd_canBePartsOf_52 ⟨Nat.le_of_ble_eq_true rfl, Nat.le_of_ble_eq_true rfl⟩) ?_
        refine lv_iconst (v := 1) hx hb d_Rd_canBePartsOf_55 (by decide) ?_
        refine lv_icmp_ne (tgt := 63) hx hb d_Rd_canBePartsOf_56 (by decide) (fun hc => ?_) (fun hc => ?_)
        · have hv := hv.trans (if_neg hc)
          have hk := hk.2 hc
          exact B63 _  hv hk (lv_sub hl [] rfl)
        · have hv := hv.trans (if_pos hc)
          have hk := hk.1 hc
          refine lv_iconst (v := 1) hx hb d_Rd_canBePartsOf_59 (by decide) ?_
          refine lv_goto (tgt := 64) hx hb d_Rd_canBePartsOf_60 (by decide) ?_
          exact B64 _ 1 hv hk (lv_sub hl [] rfl)
  · have hv := hv.trans (if_pos hc)
    have hk := hk.1 hc
    refine lv_aload_n hx hb d_Rd_canBePartsOf_5 rfl (lv_at hl 0 rfl) ?_
    refine va_get (v := .ref (h 6)) (C := R_Rd) (T := T_Rd) (N := 4) hx hb hg in_Rd hown hK hP 20 rfl rfl 2 (by decide) (hg _ m_135) (fun _ h9 => h9) rfl d_Rd_canBePartsOf_6 ?_
    refine lv_iload_n hx hb d_Rd_canBePartsOf_9 rfl (lv_at hl 2 rfl) ?_
    obtain ⟨hk0, hk⟩ := hk
    refine zz_callV (va_runV (As := [.int a2]) (rest := []) ⟨hx, hb, hml, hown, hg⟩ (c_Te_sortOf l D ty h px sa σ a2 hk0) ⟨callB_of 1 hg (gw_C m_439) rfl rfl rfl (hg _ m_3) (hg _ m_612) hd_Te_sortOf ⟨Nat.le_of_ble_eq_true rfl, Nat.le_of_ble_eq_true rfl⟩, hg _ m_437, hg _ m_438⟩ (zz_preV hM hN hK hP 6 rfl rfl) rfl rfl hl.1 rfl (lv_room (Nat.le_of_ble_eq_true rfl)) d_Rd_canBePartsOf_10 ⟨Nat.le_of_ble_eq_true rfl, Nat.le_of_ble_eq_true rfl⟩) ?_
    refine lv_aload_n hx hb d_Rd_canBePartsOf_13 rfl (lv_at hl 0 rfl) ?_
    refine va_get (v := .ref (h 6)) (C := R_Rd) (T := T_Rd) (N := 4) hx hb hg in_Rd hown hK hP 20 rfl rfl 2 (by decide) (hg _ m_135) (fun _ h9 => h9) rfl d_Rd_canBePartsOf_14 ?_
    refine lv_iload_n hx hb d_Rd_canBePartsOf_17 rfl (lv_at hl 3 rfl) ?_
    obtain ⟨hk0, hk⟩ := hk
    refine zz_callV (va_runV (As := [.int a3]) (rest := [.int (f_Te_sortOf a2 σ)]) ⟨hx, hb, hml, hown, hg⟩ (c_Te_sortOf l D ty h px sa σ a3 hk0) ⟨callB_of 1 hg (gw_C m_439) rfl rfl rfl (hg _ m_3) (hg _ m_612) hd_Te_sortOf ⟨Nat.le_of_ble_eq_true rfl, Nat.le_of_ble_eq_true rfl⟩, hg _ m_437, hg _ m_438⟩ (zz_preV hM hN hK hP 6 rfl rfl) rfl rfl hl.1 rfl (lv_room (Nat.le_of_ble_eq_true rfl)) d_Rd_canBePartsOf_18 ⟨Nat.le_of_ble_eq_true rfl, Nat.le_of_ble_eq_true rfl⟩) ?_
    refine lv_icmp_ne (tgt := 28) hx hb d_Rd_canBePartsOf_21 (by decide) (fun hc => ?_) (fun hc => ?_)
    · have hv := hv.trans (if_neg hc)
      have hk := hk.2 hc
      refine lv_iconst (v := 0) hx hb d_Rd_canBePartsOf_28 (by decide) ?_
      exact B29 _ 0 hv hk (lv_sub hl [] rfl)
    · have hv := hv.trans (if_pos hc)
      have hk := hk.1 hc
      refine lv_iconst (v := 1) hx hb d_Rd_canBePartsOf_24 (by decide) ?_
      refine lv_goto (tgt := 29) hx hb d_Rd_canBePartsOf_25 (by decide) ?_
      exact B29 _ 1 hv hk (lv_sub hl [] rfl)

