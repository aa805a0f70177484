-- ClauseLedger.isTermOrNone(I)Z
abbrev b_CL_isTermOrNone : ByteArray := prog_1_method_27_code
def y_CL_isTermOrNone : MethodName := ⟨"ClauseLedger", "isTermOrNone", "(I)Z"⟩
theorem hd_CL_isTermOrNone : y_CL_isTermOrNone.cls ≠ "java/lang/invoke/MethodHandle" ∧ y_CL_isTermOrNone.cls ≠ "java/lang/invoke/VarHandle" ∧ (parseMethodDescriptor y_CL_isTermOrNone.desc).map (fun d => d.parameters.length) = some 1 := by decide +kernel
theorem d_CL_isTermOrNone_0 : decode b_CL_isTermOrNone 0 = .ok (.iload_n 1, 1) := by decide +kernel
theorem d_CL_isTermOrNone_1 : decode b_CL_isTermOrNone 1 = .ok (.iconst (-1), 1) := by decide +kernel
theorem d_CL_isTermOrNone_2 : decode b_CL_isTermOrNone 2 = .ok (.if_icmp .eq 14, 3) := by decide +kernel
theorem d_CL_isTermOrNone_5 : decode b_CL_isTermOrNone 5 = .ok (.aload_n 0, 1) := by decide +kernel
theorem d_CL_isTermOrNone_6 : decode b_CL_isTermOrNone 6 = .ok (.getfield 19, 3) := by decide +kernel
theorem d_CL_isTermOrNone_9 : decode b_CL_isTermOrNone 9 = .ok (.iload_n 1, 1) := by decide +kernel
theorem d_CL_isTermOrNone_10 : decode b_CL_isTermOrNone 10 = .ok (.invokevirtual 130, 3) := by decide +kernel
theorem d_CL_isTermOrNone_13 : decode b_CL_isTermOrNone 13 = .ok (.ifCond .eq 7, 3) := by decide +kernel
theorem d_CL_isTermOrNone_16 : decode b_CL_isTermOrNone 16 = .ok (.iconst 1, 1) := by decide +kernel
theorem d_CL_isTermOrNone_17 : decode b_CL_isTermOrNone 17 = .ok (.goto 4, 3) := by decide +kernel
theorem d_CL_isTermOrNone_20 : decode b_CL_isTermOrNone 20 = .ok (.iconst 0, 1) := by decide +kernel
theorem d_CL_isTermOrNone_21 : decode b_CL_isTermOrNone 21 = .ok (.ireturn, 1) := by decide +kernel
def f_CL_isTermOrNone_21 (s0 : Int32) (σ : St) : Int32 := s0
def k_CL_isTermOrNone_21 (s0 : Int32) (σ : St) : Prop := (narrow .boolean (.int s0) = .int s0) ∧ True
def f_CL_isTermOrNone_16 (σ : St) : Int32 := f_CL_isTermOrNone_21 1 σ
def k_CL_isTermOrNone_16 (σ : St) : Prop := k_CL_isTermOrNone_21 1 σ
def f_CL_isTermOrNone (a1 : Int32) (σ : St) : Int32 := if a1 = (-1) then (f_CL_isTermOrNone_16 σ) else (if (f_Te_has a1 σ) = 0 then (f_CL_isTermOrNone_21 0 σ) else (f_CL_isTermOrNone_16 σ))
def k_CL_isTermOrNone (a1 : Int32) (σ : St) : Prop := (a1 = (-1) → (k_CL_isTermOrNone_16 σ)) ∧ (¬ a1 = (-1) → ((k_Te_has a1 σ) ∧ (((f_Te_has a1 σ) = 0 → (k_CL_isTermOrNone_21 0 σ)) ∧ (¬ (f_Te_has a1 σ) = 0 → (k_CL_isTermOrNone_16 σ)))))
abbrev w_CL_isTermOrNone : List Cond := Cond.code y_CL_isTermOrNone b_CL_isTermOrNone 2 (some .boolean) :: gw
abbrev rm_CL_isTermOrNone : Room := { frames := 1, cells := 0, slots := 0, locals := 21 }
set_option maxHeartbeats 4000000 in
set_option maxRecDepth 100000 in
theorem c_CL_isTermOrNone (l : Launch) (D : va_G) (ty : Nat → ClassId) (h : Nat → Nat) (px : va_W) (σ : St) (a1 : Int32) (hk : k_CL_isTermOrNone a1 σ) : Met l y_CL_isTermOrNone w_CL_isTermOrNone rm_CL_isTermOrNone (va_Pc [.ref (h 0), .int a1] (fun U => va_P D classes (Wc ty h σ px) U.heap ∧ va_K D classes (Ta ty) U ∧ NW U)) (k2_QcV (.int (f_CL_isTermOrNone a1 σ))) 0 0 (fun _ => False) := by
  refine Met.ofW (cc := b_CL_isTermOrNone) (maxL := 2) (ret := (some .boolean)) (by decide) rfl ?_
  intro p e s m args below meth c s₁ B hml hv
  obtain ⟨ha, hP, hK, hN⟩ := hv
  have hx := B.exec
  have hb := B.bytes
  have hr := B.returns
  have hg : ∀ w ∈ gw, w.before args s = true := fun w h9 => atoms_spec (ws := w_CL_isTermOrNone) B.pre w (List.mem_cons_of_mem _ h9)
  have hown : s.vm.findClass "ClauseLedger" = some m.cls := findClass_of_methodNamed B.named
  have hlocks := B.notSynchronized
  have he : entryFrame m args 2 = entryFrame m ([.ref (h 0), .int a1] : List Value).toArray 2 := by rw [ha]
  rw [he, lg_entry_eq]
  have hl := lv_entry ([.ref (h 0), .int a1]) (n := 2) (Nat.le_of_ble_eq_true rfl)
  generalize (lg_sl ([.ref (h 0), .int a1]) ++ List.replicate (2 - (lg_sl ([.ref (h 0), .int a1])).length) Slot.unset).toArray = ls at hl ⊢
  have hl : lv_has ls 2 [(0, .ref (h 0)), (1, .int a1)] := hl
  generalize hv : f_CL_isTermOrNone a1 σ = v
  replace hv := hv.symm
  have B21 : ∀ (ls : Array Slot) (s0 : Int32), v = f_CL_isTermOrNone_21 s0 σ → k_CL_isTermOrNone_21 s0 σ → lv_has ls 2 [] → W p l e (headSpec w_CL_isTermOrNone rm_CL_isTermOrNone).room s m args below meth c s.heap [] 0 0 (MQ below (k2_QcV (.int v)) args s 0 0 (fun _ => False)) (F0 m 21 ls [.int s0]) := by
    intro ls s0 hv hk hl
    unfold f_CL_isTermOrNone_21 at hv
    unfold k_CL_isTermOrNone_21 at hk
    obtain ⟨hk0, hk⟩ := hk
    exact W.zret hx hb hr hk0 (fun t ht hW => ⟨by rw [hv], ht⟩) (fun q h => nomatch h) d_CL_isTermOrNone_21
  have B16 : ∀ (ls : Array Slot), v = f_CL_isTermOrNone_16 σ → k_CL_isTermOrNone_16 σ → lv_has ls 2 [] → W p l e (headSpec w_CL_isTermOrNone rm_CL_isTermOrNone).room s m args below meth c s.heap [] 0 0 (MQ below (k2_QcV (.int v)) args s 0 0 (fun _ => False)) (F0 m 16 ls []) := by
    intro ls hv hk hl
    unfold f_CL_isTermOrNone_16 at hv
    unfold k_CL_isTermOrNone_16 at hk
    refine lv_iconst (v := 1) hx hb d_CL_isTermOrNone_16 (by decide) ?_
    refine lv_goto (tgt := 21) hx hb d_CL_isTermOrNone_17 (by decide) ?_
    exact B21 _ 1 hv hk (lv_sub hl [] rfl)
  unfold f_CL_isTermOrNone at hv
  unfold k_CL_isTermOrNone at hk
  refine lv_iload_n hx hb d_CL_isTermOrNone_0 rfl (lv_at hl 1 rfl) ?_
  refine lv_iconst (v := -1) hx hb d_CL_isTermOrNone_1 (by decide) ?_
  refine lv_icmp_eq (tgt := 16) hx hb d_CL_isTermOrNone_2 (by decide) (fun hc => ?_) (fun hc => ?_)
  · have hv := hv.trans (if_pos hc)
    have hk := hk.1 hc
    exact B16 _  hv hk (lv_sub hl [] rfl)
  · have hv := hv.trans (if_neg hc)
    have hk := hk.2 hc
    refine lv_aload_n hx hb d_CL_isTermOrNone_5 rfl (lv_at hl 0 rfl) ?_
    refine va_get (v := .ref (h 6)) (C := R_CL) (T := T_CL) (N := 11) hx hb hg in_CL hown hK hP 0 rfl rfl 1 (by decide) (hg _ m_285) (fun _ h9 => h9) rfl d_CL_isTermOrNone_6 ?_
    refine lv_iload_n hx hb d_CL_isTermOrNone_9 rfl (lv_at hl 1 rfl) ?_
    obtain ⟨hk0, hk⟩ := hk
    refine zz_callV (va_runV (As := [.int a1]) (rest := []) ⟨hx, hb, hml, hown, hg⟩ (c_Te_has l D ty h px σ a1 hk0) ⟨callB_of 1 hg (gw_C m_430) rfl rfl rfl (hg _ m_3) (hg _ m_427) hd_Te_has ⟨Nat.le_of_ble_eq_true rfl, Nat.le_of_ble_eq_true rfl⟩, hg _ m_428, hg _ m_429⟩ (zz_preV hN hK hP 6 rfl rfl) rfl rfl hl.1 rfl (lv_room (Nat.le_of_ble_eq_true rfl)) d_CL_isTermOrNone_10 ⟨Nat.le_of_ble_eq_true rfl, Nat.le_of_ble_eq_true rfl⟩) ?_
    refine lv_if_eq (tgt := 20) hx hb d_CL_isTermOrNone_13 (by decide) (fun hc => ?_) (fun hc => ?_)
    · have hv := hv.trans (if_pos hc)
      have hk := hk.1 hc
      refine lv_iconst (v := 0) hx hb d_CL_isTermOrNone_20 (by decide) ?_
      exact B21 _ 0 hv hk (lv_sub hl [] rfl)
    · have hv := hv.trans (if_neg hc)
      have hk := hk.2 hc
      exact B16 _  hv hk (lv_sub hl [] rfl)

-- ClauseLedger.gcd(JJ)J
abbrev b_CL_gcd : ByteArray := prog_1_method_43_code
def y_CL_gcd : MethodName := ⟨"ClauseLedger", "gcd", "(JJ)J"⟩
theorem hd_CL_gcd : y_CL_gcd.cls ≠ "java/lang/invoke/MethodHandle" ∧ y_CL_gcd.cls ≠ "java/lang/invoke/VarHandle" ∧ (parseMethodDescriptor y_CL_gcd.desc).map (fun d => d.parameters.length) = some 2 := by decide +kernel
theorem d_CL_gcd_0 : decode b_CL_gcd 0 = .ok (.lload_n 0, 1) := by decide +kernel
theorem d_CL_gcd_1 : decode b_CL_gcd 1 = .ok (.lconst 0, 1) := by decide +kernel
theorem d_CL_gcd_2 : decode b_CL_gcd 2 = .ok (.lcmp, 1) := by decide +kernel
theorem d_CL_gcd_3 : decode b_CL_gcd 3 = .ok (.ifCond .ge 8, 3) := by decide +kernel
theorem d_CL_gcd_6 : decode b_CL_gcd 6 = .ok (.lload_n 0, 1) := by decide +kernel
theorem d_CL_gcd_7 : decode b_CL_gcd 7 = .ok (.lneg, 1) := by decide +kernel
theorem d_CL_gcd_8 : decode b_CL_gcd 8 = .ok (.goto 4, 3) := by decide +kernel
theorem d_CL_gcd_11 : decode b_CL_gcd 11 = .ok (.lload_n 0, 1) := by decide +kernel
theorem d_CL_gcd_12 : decode b_CL_gcd 12 = .ok (.lstore 4, 2) := by decide +kernel
theorem d_CL_gcd_14 : decode b_CL_gcd 14 = .ok (.lload_n 2, 1) := by decide +kernel
theorem d_CL_gcd_15 : decode b_CL_gcd 15 = .ok (.lconst 0, 1) := by decide +kernel
theorem d_CL_gcd_16 : decode b_CL_gcd 16 = .ok (.lcmp, 1) := by decide +kernel
theorem d_CL_gcd_17 : decode b_CL_gcd 17 = .ok (.ifCond .ge 8, 3) := by decide +kernel
theorem d_CL_gcd_20 : decode b_CL_gcd 20 = .ok (.lload_n 2, 1) := by decide +kernel
theorem d_CL_gcd_21 : decode b_CL_gcd 21 = .ok (.lneg, 1) := by decide +kernel
theorem d_CL_gcd_22 : decode b_CL_gcd 22 = .ok (.goto 4, 3) := by decide +kernel
theorem d_CL_gcd_25 : decode b_CL_gcd 25 = .ok (.lload_n 2, 1) := by decide +kernel
theorem d_CL_gcd_26 : decode b_CL_gcd 26 = .ok (.lstore 6, 2) := by decide +kernel
theorem d_CL_gcd_28 : decode b_CL_gcd 28 = .ok (.iconst 0, 1) := by decide +kernel
theorem d_CL_gcd_29 : decode b_CL_gcd 29 = .ok (.istore 8, 2) := by decide +kernel
theorem d_CL_gcd_31 : decode b_CL_gcd 31 = .ok (.iload 8, 2) := by decide +kernel
theorem d_CL_gcd_33 : decode b_CL_gcd 33 = .ok (.sipush 200, 3) := by decide +kernel
theorem d_CL_gcd_36 : decode b_CL_gcd 36 = .ok (.if_icmp .ge 31, 3) := by decide +kernel
theorem d_CL_gcd_39 : decode b_CL_gcd 39 = .ok (.lload 6, 2) := by decide +kernel
theorem d_CL_gcd_41 : decode b_CL_gcd 41 = .ok (.lconst 0, 1) := by decide +kernel
theorem d_CL_gcd_42 : decode b_CL_gcd 42 = .ok (.lcmp, 1) := by decide +kernel
theorem d_CL_gcd_43 : decode b_CL_gcd 43 = .ok (.ifCond .eq 24, 3) := by decide +kernel
theorem d_CL_gcd_46 : decode b_CL_gcd 46 = .ok (.lload 4, 2) := by decide +kernel
theorem d_CL_gcd_48 : decode b_CL_gcd 48 = .ok (.lload 6, 2) := by decide +kernel
theorem d_CL_gcd_50 : decode b_CL_gcd 50 = .ok (.lrem, 1) := by decide +kernel
theorem d_CL_gcd_51 : decode b_CL_gcd 51 = .ok (.lstore 9, 2) := by decide +kernel
theorem d_CL_gcd_53 : decode b_CL_gcd 53 = .ok (.lload 6, 2) := by decide +kernel
theorem d_CL_gcd_55 : decode b_CL_gcd 55 = .ok (.lstore 4, 2) := by decide +kernel
theorem d_CL_gcd_57 : decode b_CL_gcd 57 = .ok (.lload 9, 2) := by decide +kernel
theorem d_CL_gcd_59 : decode b_CL_gcd 59 = .ok (.lstore 6, 2) := by decide +kernel
theorem d_CL_gcd_61 : decode b_CL_gcd 61 = .ok (.iinc 8 1, 3) := by decide +kernel
theorem d_CL_gcd_64 : decode b_CL_gcd 64 = .ok (.goto (-33), 3) := by decide +kernel
theorem d_CL_gcd_67 : decode b_CL_gcd 67 = .ok (.lload 4, 2) := by decide +kernel
theorem d_CL_gcd_69 : decode b_CL_gcd 69 = .ok (.lreturn, 1) := by decide +kernel
def f_CL_gcd_67 (x4 : Int64) (σ : St) : Int64 := x4
def k_CL_gcd_67 (x4 : Int64) (σ : St) : Prop := True
def f_CL_gcd_31 : Nat → Int64 → Int64 → Int32 → St → Int64
  | 0, _, _, _, σ => 0
  | n + 1, x4, x6, x8, σ => if 200 ≤ x8 then (f_CL_gcd_67 x4 σ) else (if (lg_cmp x6 0) = 0 then (f_CL_gcd_67 x4 σ) else ((f_CL_gcd_31 n) x6 (x4 - x4 / x6 * x6) (x8 + 1) σ))
def k_CL_gcd_31 : Nat → Int64 → Int64 → Int32 → St → Prop
  | 0, _, _, _, _ => False
  | n + 1, x4, x6, x8, σ => (200 ≤ x8 → (k_CL_gcd_67 x4 σ)) ∧ (¬ 200 ≤ x8 → (((lg_cmp x6 0) = 0 → (k_CL_gcd_67 x4 σ)) ∧ (¬ (lg_cmp x6 0) = 0 → ((¬ (x6 : Int64) = 0) ∧ ((k_CL_gcd_31 n) x6 (x4 - x4 / x6 * x6) (x8 + 1) σ)))))
def f_CL_gcd_26 (x4 : Int64) (s0 : Int64) (σ : St) : Int64 := f_CL_gcd_31 1000 x4 s0 0 σ
def k_CL_gcd_26 (x4 : Int64) (s0 : Int64) (σ : St) : Prop := k_CL_gcd_31 1000 x4 s0 0 σ
def f_CL_gcd_12 (x2 : Int64) (s0 : Int64) (σ : St) : Int64 := if 0 ≤ (lg_cmp x2 0) then (f_CL_gcd_26 s0 x2 σ) else (f_CL_gcd_26 s0 (-x2) σ)
def k_CL_gcd_12 (x2 : Int64) (s0 : Int64) (σ : St) : Prop := (0 ≤ (lg_cmp x2 0) → (k_CL_gcd_26 s0 x2 σ)) ∧ (¬ 0 ≤ (lg_cmp x2 0) → (k_CL_gcd_26 s0 (-x2) σ))
def f_CL_gcd (a0 : Int64) (a2 : Int64) (σ : St) : Int64 := if 0 ≤ (lg_cmp a0 0) then (f_CL_gcd_12 a2 a0 σ) else (f_CL_gcd_12 a2 (-a0) σ)
def k_CL_gcd (a0 : Int64) (a2 : Int64) (σ : St) : Prop := (0 ≤ (lg_cmp a0 0) → (k_CL_gcd_12 a2 a0 σ)) ∧ (¬ 0 ≤ (lg_cmp a0 0) → (k_CL_gcd_12 a2 (-a0) σ))
abbrev w_CL_gcd : List Cond := Cond.code y_CL_gcd b_CL_gcd 11 (some .long) :: gw
abbrev rm_CL_gcd : Room := { frames := 0, cells := 0, slots := 0, locals := 0 }
set_option maxHeartbeats 4000000 in
set_option maxRecDepth 100000 in
theorem c_CL_gcd (l : Launch) (D : va_G) (ty : Nat → ClassId) (h : Nat → Nat) (px : va_W) (σ : St) (a0 : Int64) (a2 : Int64) (hk : k_CL_gcd a0 a2 σ) : Met l y_CL_gcd w_CL_gcd rm_CL_gcd (va_Pc [.long a0, .long a2] (fun U => va_P D classes (Wc ty h σ px) U.heap ∧ va_K D classes (Ta ty) U ∧ NW U)) (k2_QcV (.long (f_CL_gcd a0 a2 σ))) 0 0 (fun _ => False) := by
  refine Met.ofW (cc := b_CL_gcd) (maxL := 11) (ret := (some .long)) (by decide) rfl ?_
  intro p e s m args below meth c s₁ B hml hv
  obtain ⟨ha, hP, hK, hN⟩ := hv
  have hx := B.exec
  have hb := B.bytes
  have hr := B.returns
  have hg : ∀ w ∈ gw, w.before args s = true := fun w h9 => atoms_spec (ws := w_CL_gcd) B.pre w (List.mem_cons_of_mem _ h9)
  have hown : s.vm.findClass "ClauseLedger" = some m.cls := findClass_of_methodNamed B.named
  have hlocks := B.notSynchronized
  have he : entryFrame m args 11 = entryFrame m ([.long a0, .long a2] : List Value).toArray 11 := by rw [ha]
  rw [he, lg_entry_eq]
  have hl := lv_entry ([.long a0, .long a2]) (n := 11) (Nat.le_of_ble_eq_true rfl)
  generalize (lg_sl ([.long a0, .long a2]) ++ List.replicate (11 - (lg_sl ([.long a0, .long a2])).length) Slot.unset).toArray = ls at hl ⊢
  have hl : lv_has ls 11 [(0, .long a0), (2, .long a2)] := hl
  generalize hv : f_CL_gcd a0 a2 σ = v
  replace hv := hv.symm
  have B67 : ∀ (ls : Array Slot) (x4 : Int64), v = f_CL_gcd_67 x4 σ → k_CL_gcd_67 x4 σ → lv_has ls 11 [(4, .long x4)] → W p l e (headSpec w_CL_gcd rm_CL_gcd).room s m args below meth c s.heap [] 0 0 (MQ below (k2_QcV (.long v)) args s 0 0 (fun _ => False)) (F0 m 67 ls []) := by
    intro ls x4 hv hk hl
    unfold f_CL_gcd_67 at hv
    unfold k_CL_gcd_67 at hk
    refine lv_lload hx hb d_CL_gcd_67 (lv_at hl 0 rfl) ?_
    exact W.lret hx hb hr (fun t ht hW => ⟨by rw [hv], ht⟩) (fun q h => nomatch h) d_CL_gcd_69
  have B31 : ∀ (n31 : Nat) (ls : Array Slot) (x4 : Int64) (x6 : Int64) (x8 : Int32), v = f_CL_gcd_31 n31 x4 x6 x8 σ → k_CL_gcd_31 n31 x4 x6 x8 σ → lv_has ls 11 [(4, .long x4), (6, .long x6), (8, .int x8)] → W p l e (headSpec w_CL_gcd rm_CL_gcd).room s m args below meth c s.heap [] 0 0 (MQ below (k2_QcV (.long v)) args s 0 0 (fun _ => False)) (F0 m 31 ls []) := by
    intro n31
    induction n31 with
    | zero => intro ls x4 x6 x8 hv hk hl; exact hk.elim
    | succ n31 ih31 =>
      intro ls x4 x6 x8 hv hk hl
      rw [f_CL_gcd_31] at hv
      rw [k_CL_gcd_31] at hk
      refine lv_iload hx hb d_CL_gcd_31 (lv_at hl 2 rfl) ?_
      refine lv_sipush (v := 200) hx hb d_CL_gcd_33 (by decide) ?_
      refine lv_icmp_ge (tgt := 67) hx hb d_CL_gcd_36 (by decide) (fun hc => ?_) (fun hc => ?_)
      · have hv := hv.trans (if_pos hc)
        have hk := hk.1 hc
        exact B67 _ x4 hv hk (lv_sub hl [0] rfl)
      · have hv := hv.trans (if_neg hc)
        have hk := hk.2 hc
        refine lv_lload hx hb d_CL_gcd_39 (lv_at hl 1 rfl) ?_
        refine lv_lconst (v := 0) hx hb d_CL_gcd_41 (by decide) ?_
        refine W.lcmp hx hb d_CL_gcd_42 ?_
        refine lv_if_eq (tgt := 67) hx hb d_CL_gcd_43 (by decide) (fun hc => ?_) (fun hc => ?_)
        · have hv := hv.trans (if_pos hc)
          have hk := hk.1 hc
          exact B67 _ x4 hv hk (lv_sub hl [0] rfl)
        · have hv := hv.trans (if_neg hc)
          have hk := hk.2 hc
          refine lv_lload hx hb d_CL_gcd_46 (lv_at hl 0 rfl) ?_
          refine lv_lload hx hb d_CL_gcd_48 (lv_at hl 1 rfl) ?_
          obtain ⟨hk0, hk⟩ := hk
          refine lv_lrem hx hb d_CL_gcd_50 hk0 ?_
          refine lv_lstore (lv' := [(9, .long (x4 - x4 / x6 * x6)), (4, .long x4), (6, .long x6), (8, .int x8)]) hx hb d_CL_gcd_51 hl (by decide) rfl (fun ls hl => ?_)
          refine lv_lload hx hb d_CL_gcd_53 (lv_at hl 2 rfl) ?_
          refine lv_lstore (lv' := [(4, .long x6), (9, .long (x4 - x4 / x6 * x6)), (6, .long x6), (8, .int x8)]) hx hb d_CL_gcd_55 hl (by decide) rfl (fun ls hl => ?_)
          refine lv_lload hx hb d_CL_gcd_57 (lv_at hl 1 rfl) ?_
          refine lv_lstore (lv' := [(6, .long (x4 - x4 / x6 * x6)), (4, .long x6), (9, .long (x4 - x4 / x6 * x6)), (8, .int x8)]) hx hb d_CL_gcd_59 hl (by decide) rfl (fun ls hl => ?_)
          refine lv_iinc (k := 3) (v := x8 + 1) (lv' := [(8, .int (x8 + 1)), (6, .long (x4 - x4 / x6 * x6)), (4, .long x6), (9, .long (x4 - x4 / x6 * x6))]) hx hb d_CL_gcd_61 hl rfl (by first | rfl | simp [lit1, litm1]) (by decide) rfl (fun ls hl => ?_)
          refine lv_goto (tgt := 31) hx hb d_CL_gcd_64 (by decide) ?_
          exact ih31 _ x6 (x4 - x4 / x6 * x6) (x8 + 1) hv hk (lv_sub hl [2, 1, 0] rfl)
  have B26 : ∀ (ls : Array Slot) (x4 : Int64) (s0 : Int64), v = f_CL_gcd_26 x4 s0 σ → k_CL_gcd_26 x4 s0 σ → lv_has ls 11 [(4, .long x4)] → W p l e (headSpec w_CL_gcd rm_CL_gcd).room s m args below meth c s.heap [] 0 0 (MQ below (k2_QcV (.long v)) args s 0 0 (fun _ => False)) (F0 m 26 ls [.long s0]) := by
    intro ls x4 s0 hv hk hl
    unfold f_CL_gcd_26 at hv
    unfold k_CL_gcd_26 at hk
    refine lv_lstore (lv' := [(6, .long s0), (4, .long x4)]) hx hb d_CL_gcd_26 hl (by decide) rfl (fun ls hl => ?_)
    refine lv_iconst (v := 0) hx hb d_CL_gcd_28 (by decide) ?_
    refine lv_istore (lv' := [(8, .int 0), (6, .long s0), (4, .long x4)]) hx hb d_CL_gcd_29 hl (by decide) rfl (fun ls hl => ?_)
    exact B31 1000 _ x4 s0 0 hv hk (lv_sub hl [2, 1, 0] rfl)
  have B12 : ∀ (ls : Array Slot) (x2 : Int64) (s0 : Int64), v = f_CL_gcd_12 x2 s0 σ → k_CL_gcd_12 x2 s0 σ → lv_has ls 11 [(2, .long x2)] → W p l e (headSpec w_CL_gcd rm_CL_gcd).room s m args below meth c s.heap [] 0 0 (MQ below (k2_QcV (.long v)) args s 0 0 (fun _ => False)) (F0 m 12 ls [.long s0]) := by
    intro ls x2 s0 hv hk hl
    unfold f_CL_gcd_12 at hv
    unfold k_CL_gcd_12 at hk
    refine lv_lstore (lv' := [(4, .long s0), (2, .long x2)]) hx hb d_CL_gcd_12 hl (by decide) rfl (fun ls hl => ?_)
    refine lv_lload_n hx hb d_CL_gcd_14 rfl (lv_at hl 1 rfl) ?_
    refine lv_lconst (v := 0) hx hb d_CL_gcd_15 (by decide) ?_
    refine W.lcmp hx hb d_CL_gcd_16 ?_
    refine lv_if_ge (tgt := 25) hx hb d_CL_gcd_17 (by decide) (fun hc => ?_) (fun hc => ?_)
    · have hv := hv.trans (if_pos hc)
      have hk := hk.1 hc
      refine lv_lload_n hx hb d_CL_gcd_25 rfl (lv_at hl 1 rfl) ?_
      exact B26 _ s0 x2 hv hk (lv_sub hl [0] rfl)
    · have hv := hv.trans (if_neg hc)
      have hk := hk.2 hc
      refine lv_lload_n hx hb d_CL_gcd_20 rfl (lv_at hl 1 rfl) ?_
      refine lv_lneg hx hb d_CL_gcd_21 ?_
      refine lv_goto (tgt := 26) hx hb d_CL_gcd_22 (by decide) ?_
      exact B26 _ s0 (-x2) hv hk (lv_sub hl [0] rfl)
  unfold f_CL_gcd at hv
  unfold k_CL_gcd at hk
  refine lv_lload_n hx hb d_CL_gcd_0 rfl (lv_at hl 0 rfl) ?_
  refine lv_lconst (v := 0) hx hb d_CL_gcd_1 (by decide) ?_
  refine W.lcmp hx hb d_CL_gcd_2 ?_
  refine lv_if_ge (tgt := 11) hx hb d_CL_gcd_3 (by decide) (fun hc => ?_) (fun hc => ?_)
  · have hv := hv.trans (if_pos hc)
    have hk := hk.1 hc
    refine lv_lload_n hx hb d_CL_gcd_11 rfl (lv_at hl 0 rfl) ?_
    exact B12 _ a2 a0 hv hk (lv_sub hl [1] rfl)
  · have hv := hv.trans (if_neg hc)
    have hk := hk.2 hc
    refine lv_lload_n hx hb d_CL_gcd_6 rfl (lv_at hl 0 rfl) ?_
    refine lv_lneg hx hb d_CL_gcd_7 ?_
    refine lv_goto (tgt := 12) hx hb d_CL_gcd_8 (by decide) ?_
    exact B12 _ a2 (-a0) hv hk (lv_sub hl [1] rfl)

-- ClauseLedger$Signature.isSymbol(I)Z
abbrev b_Sg_isSymbol : ByteArray := prog_8_method_5_code
def y_Sg_isSymbol : MethodName := ⟨"ClauseLedger$Signature", "isSymbol", "(I)Z"⟩
theorem hd_Sg_isSymbol : y_Sg_isSymbol.cls ≠ "java/lang/invoke/MethodHandle" ∧ y_Sg_isSymbol.cls ≠ "java/lang/invoke/VarHandle" ∧ (parseMethodDescriptor y_Sg_isSymbol.desc).map (fun d => d.parameters.length) = some 1 := by decide +kernel
theorem d_Sg_isSymbol_0 : decode b_Sg_isSymbol 0 = .ok (.iload_n 1, 1) := by decide +kernel
theorem d_Sg_isSymbol_1 : decode b_Sg_isSymbol 1 = .ok (.ifCond .lt 15, 3) := by decide +kernel
theorem d_Sg_isSymbol_4 : decode b_Sg_isSymbol 4 = .ok (.iload_n 1, 1) := by decide +kernel
theorem d_Sg_isSymbol_5 : decode b_Sg_isSymbol 5 = .ok (.aload_n 0, 1) := by decide +kernel
theorem d_Sg_isSymbol_6 : decode b_Sg_isSymbol 6 = .ok (.getfield 28, 3) := by decide +kernel
theorem d_Sg_isSymbol_9 : decode b_Sg_isSymbol 9 = .ok (.if_icmp .ge 7, 3) := by decide +kernel
theorem d_Sg_isSymbol_12 : decode b_Sg_isSymbol 12 = .ok (.iconst 1, 1) := by decide +kernel
theorem d_Sg_isSymbol_13 : decode b_Sg_isSymbol 13 = .ok (.goto 4, 3) := by decide +kernel
theorem d_Sg_isSymbol_16 : decode b_Sg_isSymbol 16 = .ok (.iconst 0, 1) := by decide +kernel
theorem d_Sg_isSymbol_17 : decode b_Sg_isSymbol 17 = .ok (.ireturn, 1) := by decide +kernel
def f_Sg_isSymbol_17 (s0 : Int32) (σ : St) : Int32 := s0
def k_Sg_isSymbol_17 (s0 : Int32) (σ : St) : Prop := (narrow .boolean (.int s0) = .int s0) ∧ True
def f_Sg_isSymbol_16 (σ : St) : Int32 := f_Sg_isSymbol_17 0 σ
def k_Sg_isSymbol_16 (σ : St) : Prop := k_Sg_isSymbol_17 0 σ
def f_Sg_isSymbol (a1 : Int32) (σ : St) : Int32 := if a1 < 0 then (f_Sg_isSymbol_16 σ) else (if (σ.1 1 5) ≤ a1 then (f_Sg_isSymbol_16 σ) else (f_Sg_isSymbol_17 1 σ))
def k_Sg_isSymbol (a1 : Int32) (σ : St) : Prop := (a1 < 0 → (k_Sg_isSymbol_16 σ)) ∧ (¬ a1 < 0 → (((σ.1 1 5) ≤ a1 → (k_Sg_isSymbol_16 σ)) ∧ (¬ (σ.1 1 5) ≤ a1 → (k_Sg_isSymbol_17 1 σ))))
abbrev w_Sg_isSymbol : List Cond := Cond.code y_Sg_isSymbol b_Sg_isSymbol 2 (some .boolean) :: gw
abbrev rm_Sg_isSymbol : Room := { frames := 0, cells := 0, slots := 0, locals := 0 }
set_option maxHeartbeats 4000000 in
set_option maxRecDepth 100000 in
theorem c_Sg_isSymbol (l : Launch) (D : va_G) (ty : Nat → ClassId) (h : Nat → Nat) (px : va_W) (σ : St) (a1 : Int32) (hk : k_Sg_isSymbol a1 σ) : Met l y_Sg_isSymbol w_Sg_isSymbol rm_Sg_isSymbol (va_Pc [.ref (h 1), .int a1] (fun U => va_P D classes (Wc ty h σ px) U.heap ∧ va_K D classes (Ta ty) U ∧ NW U)) (k2_QcV (.int (f_Sg_isSymbol a1 σ))) 0 0 (fun _ => False) := by
  refine Met.ofW (cc := b_Sg_isSymbol) (maxL := 2) (ret := (some .boolean)) (by decide) rfl ?_
  intro p e s m args below meth c s₁ B hml hv
  obtain ⟨ha, hP, hK, hN⟩ := hv
  have hx := B.exec
  have hb := B.bytes
  have hr := B.returns
  have hg : ∀ w ∈ gw, w.before args s = true := fun w h9 => atoms_spec (ws := w_Sg_isSymbol) B.pre w (List.mem_cons_of_mem _ h9)
  have hown : s.vm.findClass "ClauseLedger$Signature" = some m.cls := findClass_of_methodNamed B.named
  have hlocks := B.notSynchronized
  have he : entryFrame m args 2 = entryFrame m ([.ref (h 1), .int a1] : List Value).toArray 2 := by rw [ha]
  rw [he, lg_entry_eq]
  have hl := lv_entry ([.ref (h 1), .int a1]) (n := 2) (Nat.le_of_ble_eq_true rfl)
  generalize (lg_sl ([.ref (h 1), .int a1]) ++ List.replicate (2 - (lg_sl ([.ref (h 1), .int a1])).length) Slot.unset).toArray = ls at hl ⊢
  have hl : lv_has ls 2 [(0, .ref (h 1)), (1, .int a1)] := hl
  generalize hv : f_Sg_isSymbol a1 σ = v
  replace hv := hv.symm
  have B17 : ∀ (ls : Array Slot) (s0 : Int32), v = f_Sg_isSymbol_17 s0 σ → k_Sg_isSymbol_17 s0 σ → lv_has ls 2 [] → W p l e (headSpec w_Sg_isSymbol rm_Sg_isSymbol).room s m args below meth c s.heap [] 0 0 (MQ below (k2_QcV (.int v)) args s 0 0 (fun _ => False)) (F0 m 17 ls [.int s0]) := by
    intro ls s0 hv hk hl
    unfold f_Sg_isSymbol_17 at hv
    unfold k_Sg_isSymbol_17 at hk
    obtain ⟨hk0, hk⟩ := hk
    exact W.zret hx hb hr hk0 (fun t ht hW => ⟨by rw [hv], ht⟩) (fun q h => nomatch h) d_Sg_isSymbol_17
  have B16 : ∀ (ls : Array Slot), v = f_Sg_isSymbol_16 σ → k_Sg_isSymbol_16 σ → lv_has ls 2 [] → W p l e (headSpec w_Sg_isSymbol rm_Sg_isSymbol).room s m args below meth c s.heap [] 0 0 (MQ below (k2_QcV (.int v)) args s 0 0 (fun _ => False)) (F0 m 16 ls []) := by
    intro ls hv hk hl
    unfold f_Sg_isSymbol_16 at hv
    unfold k_Sg_isSymbol_16 at hk
    refine lv_iconst (v := 0) hx hb d_Sg_isSymbol_16 (by decide) ?_
    exact B17 _ 0 hv hk (lv_sub hl [] rfl)
  unfold f_Sg_isSymbol at hv
  unfold k_Sg_isSymbol at hk
  refine lv_iload_n hx hb d_Sg_isSymbol_0 rfl (lv_at hl 1 rfl) ?_
  refine lv_if_lt (tgt := 16) hx hb d_Sg_isSymbol_1 (by decide) (fun hc => ?_) (fun hc => ?_)
  · have hv := hv.trans (if_pos hc)
    have hk := hk.1 hc
    exact B16 _  hv hk (lv_sub hl [] rfl)
  · have hv := hv.trans (if_neg hc)
    have hk := hk.2 hc
    refine lv_iload_n hx hb d_Sg_isSymbol_4 rfl (lv_at hl 1 rfl) ?_
    refine lv_aload_n hx hb d_Sg_isSymbol_5 rfl (lv_at hl 0 rfl) ?_
    refine va_get (v := .int (σ.1 1 5)) (C := R_Sg) (T := T_Sg) (N := 6) hx hb hg in_Sg hown hK hP 1 rfl rfl 5 (by decide) (hg _ m_48) (fun _ h9 => h9) rfl d_Sg_isSymbol_6 ?_
    refine lv_icmp_ge (tgt := 16) hx hb d_Sg_isSymbol_9 (by decide) (fun hc => ?_) (fun hc => ?_)
    · have hv := hv.trans (if_pos hc)
      have hk := hk.1 hc
      exact B16 _  hv hk (lv_sub hl [] rfl)
    · have hv := hv.trans (if_neg hc)
      have hk := hk.2 hc
      refine lv_iconst (v := 1) hx hb d_Sg_isSymbol_12 (by decide) ?_
      refine lv_goto (tgt := 17) hx hb d_Sg_isSymbol_13 (by decide) ?_
      exact B17 _ 1 hv hk (lv_sub hl [] rfl)

-- ClauseLedger$Signature.sortOfSymbol(I)I
abbrev b_Sg_sortOfSymbol : ByteArray := prog_8_method_7_code
def y_Sg_sortOfSymbol : MethodName := ⟨"ClauseLedger$Signature", "sortOfSymbol", "(I)I"⟩
theorem hd_Sg_sortOfSymbol : y_Sg_sortOfSymbol.cls ≠ "java/lang/invoke/MethodHandle" ∧ y_Sg_sortOfSymbol.cls ≠ "java/lang/invoke/VarHandle" ∧ (parseMethodDescriptor y_Sg_sortOfSymbol.desc).map (fun d => d.parameters.length) = some 1 := by decide +kernel
theorem d_Sg_sortOfSymbol_0 : decode b_Sg_sortOfSymbol 0 = .ok (.aload_n 0, 1) := by decide +kernel
theorem d_Sg_sortOfSymbol_1 : decode b_Sg_sortOfSymbol 1 = .ok (.iload_n 1, 1) := by decide +kernel
theorem d_Sg_sortOfSymbol_2 : decode b_Sg_sortOfSymbol 2 = .ok (.invokevirtual 41, 3) := by decide +kernel
theorem d_Sg_sortOfSymbol_5 : decode b_Sg_sortOfSymbol 5 = .ok (.ifCond .eq 12, 3) := by decide +kernel
theorem d_Sg_sortOfSymbol_8 : decode b_Sg_sortOfSymbol 8 = .ok (.aload_n 0, 1) := by decide +kernel
theorem d_Sg_sortOfSymbol_9 : decode b_Sg_sortOfSymbol 9 = .ok (.getfield 11, 3) := by decide +kernel
theorem d_Sg_sortOfSymbol_12 : decode b_Sg_sortOfSymbol 12 = .ok (.iload_n 1, 1) := by decide +kernel
theorem d_Sg_sortOfSymbol_13 : decode b_Sg_sortOfSymbol 13 = .ok (.iaload, 1) := by decide +kernel
theorem d_Sg_sortOfSymbol_14 : decode b_Sg_sortOfSymbol 14 = .ok (.goto 4, 3) := by decide +kernel
theorem d_Sg_sortOfSymbol_17 : decode b_Sg_sortOfSymbol 17 = .ok (.iconst (-1), 1) := by decide +kernel
theorem d_Sg_sortOfSymbol_18 : decode b_Sg_sortOfSymbol 18 = .ok (.ireturn, 1) := by decide +kernel
def f_Sg_sortOfSymbol_18 (s0 : Int32) (σ : St) : Int32 := s0
def k_Sg_sortOfSymbol_18 (s0 : Int32) (σ : St) : Prop := True
def f_Sg_sortOfSymbol (a1 : Int32) (σ : St) : Int32 := if (f_Sg_isSymbol a1 σ) = 0 then (f_Sg_sortOfSymbol_18 (-1) σ) else (f_Sg_sortOfSymbol_18 (σ.1 2 a1.toNatClampNeg) σ)
def k_Sg_sortOfSymbol (a1 : Int32) (σ : St) : Prop := (k_Sg_isSymbol a1 σ) ∧ (((f_Sg_isSymbol a1 σ) = 0 → (k_Sg_sortOfSymbol_18 (-1) σ)) ∧ (¬ (f_Sg_isSymbol a1 σ) = 0 → (vp_in a1 12 ∧ (k_Sg_sortOfSymbol_18 (σ.1 2 a1.toNatClampNeg) σ))))
abbrev w_Sg_sortOfSymbol : List Cond := Cond.code y_Sg_sortOfSymbol b_Sg_sortOfSymbol 2 (some .int) :: gw
abbrev rm_Sg_sortOfSymbol : Room := { frames := 1, cells := 0, slots := 0, locals := 21 }
set_option maxHeartbeats 4000000 in
set_option maxRecDepth 100000 in
theorem c_Sg_sortOfSymbol (l : Launch) (D : va_G) (ty : Nat → ClassId) (h : Nat → Nat) (px : va_W) (σ : St) (a1 : Int32) (hk : k_Sg_sortOfSymbol a1 σ) : Met l y_Sg_sortOfSymbol w_Sg_sortOfSymbol rm_Sg_sortOfSymbol (va_Pc [.ref (h 1), .int a1] (fun U => va_P D classes (Wc ty h σ px) U.heap ∧ va_K D classes (Ta ty) U ∧ NW U)) (k2_QcV (.int (f_Sg_sortOfSymbol a1 σ))) 0 0 (fun _ => False) := by
  refine Met.ofW (cc := b_Sg_sortOfSymbol) (maxL := 2) (ret := (some .int)) (by decide) rfl ?_
  intro p e s m args below meth c s₁ B hml hv
  obtain ⟨ha, hP, hK, hN⟩ := hv
  have hx := B.exec
  have hb := B.bytes
  have hr := B.returns
  have hg : ∀ w ∈ gw, w.before args s = true := fun w h9 => atoms_spec (ws := w_Sg_sortOfSymbol) B.pre w (List.mem_cons_of_mem _ h9)
  have hown : s.vm.findClass "ClauseLedger$Signature" = some m.cls := findClass_of_methodNamed B.named
  have hlocks := B.notSynchronized
  have he : entryFrame m args 2 = entryFrame m ([.ref (h 1), .int a1] : List Value).toArray 2 := by rw [ha]
  rw [he, lg_entry_eq]
  have hl := lv_entry ([.ref (h 1), .int a1]) (n := 2) (Nat.le_of_ble_eq_true rfl)
  generalize (lg_sl ([.ref (h 1), .int a1]) ++ List.replicate (2 - (lg_sl ([.ref (h 1), .int a1])).length) Slot.unset).toArray = ls at hl ⊢
  have hl : lv_has ls 2 [(0, .ref (h 1)), (1, .int a1)] := hl
  generalize hv : f_Sg_sortOfSymbol a1 σ = v
  replace hv := hv.symm
  have B18 : ∀ (ls : Array Slot) (s0 : Int32), v = f_Sg_sortOfSymbol_18 s0 σ → k_Sg_sortOfSymbol_18 s0 σ → lv_has ls 2 [] → W p l e (headSpec w_Sg_sortOfSymbol rm_Sg_sortOfSymbol).room s m args below meth c s.heap [] 0 0 (MQ below (k2_QcV (.int v)) args s 0 0 (fun _ => False)) (F0 m 18 ls [.int s0]) := by
    intro ls s0 hv hk hl
    unfold f_Sg_sortOfSymbol_18 at hv
    unfold k_Sg_sortOfSymbol_18 at hk
    exact W.iret hx hb hr (fun t ht hW => ⟨by rw [hv], ht⟩) (fun q h => nomatch h) d_Sg_sortOfSymbol_18
  unfold f_Sg_sortOfSymbol at hv
  unfold k_Sg_sortOfSymbol at hk
  refine lv_aload_n hx hb d_Sg_sortOfSymbol_0 rfl (lv_at hl 0 rfl) ?_
  refine lv_iload_n hx hb d_Sg_sortOfSymbol_1 rfl (lv_at hl 1 rfl) ?_
  obtain ⟨hk0, hk⟩ := hk
  refine zz_callV (va_runV (As := [.int a1]) (rest := []) ⟨hx, hb, hml, hown, hg⟩ (c_Sg_isSymbol l D ty h px σ a1 hk0) ⟨callB_of 1 hg (gw_C m_599) rfl rfl rfl (hg _ m_2) (hg _ m_596) hd_Sg_isSymbol ⟨Nat.le_of_ble_eq_true rfl, Nat.le_of_ble_eq_true rfl⟩, hg _ m_597, hg _ m_598⟩ (zz_preV hN hK hP 1 rfl rfl) rfl rfl hl.1 rfl (lv_room (Nat.le_of_ble_eq_true rfl)) d_Sg_sortOfSymbol_2 ⟨Nat.le_of_ble_eq_true rfl, Nat.le_of_ble_eq_true rfl⟩) ?_
  refine lv_if_eq (tgt := 17) hx hb d_Sg_sortOfSymbol_5 (by decide) (fun hc => ?_) (fun hc => ?_)
  · have hv := hv.trans (if_pos hc)
    have hk := hk.1 hc
    refine lv_iconst (v := -1) hx hb d_Sg_sortOfSymbol_17 (by decide) ?_
    exact B18 _ (-1) hv hk (lv_sub hl [] rfl)
  · have hv := hv.trans (if_neg hc)
    have hk := hk.2 hc
    refine lv_aload_n hx hb d_Sg_sortOfSymbol_8 rfl (lv_at hl 0 rfl) ?_
    refine va_get (v := .ref (h 2)) (C := R_Sg) (T := T_Sg) (N := 6) hx hb hg in_Sg hown hK hP 1 rfl rfl 0 (by decide) (hg _ m_43) (fun _ h9 => h9) rfl d_Sg_sortOfSymbol_9 ?_
    refine lv_iload_n hx hb d_Sg_sortOfSymbol_12 rfl (lv_at hl 1 rfl) ?_
    obtain ⟨hk0, hk⟩ := hk
    refine va_iald hx hb hK hP 2 0 rfl rfl hk0 d_Sg_sortOfSymbol_13 ?_
    refine lv_goto (tgt := 18) hx hb d_Sg_sortOfSymbol_14 (by decide) ?_
    exact B18 _ (σ.1 2 a1.toNatClampNeg) hv hk (lv_sub hl [] rfl)

-- ClauseLedger$Signature.firstOfSymbol(I)I
abbrev b_Sg_firstOfSymbol : ByteArray := prog_8_method_8_code
def y_Sg_firstOfSymbol : MethodName := ⟨"ClauseLedger$Signature", "firstOfSymbol", "(I)I"⟩
theorem hd_Sg_firstOfSymbol : y_Sg_firstOfSymbol.cls ≠ "java/lang/invoke/MethodHandle" ∧ y_Sg_firstOfSymbol.cls ≠ "java/lang/invoke/VarHandle" ∧ (parseMethodDescriptor y_Sg_firstOfSymbol.desc).map (fun d => d.parameters.length) = some 1 := by decide +kernel
theorem d_Sg_firstOfSymbol_0 : decode b_Sg_firstOfSymbol 0 = .ok (.aload_n 0, 1) := by decide +kernel
theorem d_Sg_firstOfSymbol_1 : decode b_Sg_firstOfSymbol 1 = .ok (.iload_n 1, 1) := by decide +kernel
theorem d_Sg_firstOfSymbol_2 : decode b_Sg_firstOfSymbol 2 = .ok (.invokevirtual 41, 3) := by decide +kernel
theorem d_Sg_firstOfSymbol_5 : decode b_Sg_firstOfSymbol 5 = .ok (.ifCond .eq 12, 3) := by decide +kernel
theorem d_Sg_firstOfSymbol_8 : decode b_Sg_firstOfSymbol 8 = .ok (.aload_n 0, 1) := by decide +kernel
theorem d_Sg_firstOfSymbol_9 : decode b_Sg_firstOfSymbol 9 = .ok (.getfield 15, 3) := by decide +kernel
theorem d_Sg_firstOfSymbol_12 : decode b_Sg_firstOfSymbol 12 = .ok (.iload_n 1, 1) := by decide +kernel
theorem d_Sg_firstOfSymbol_13 : decode b_Sg_firstOfSymbol 13 = .ok (.iaload, 1) := by decide +kernel
theorem d_Sg_firstOfSymbol_14 : decode b_Sg_firstOfSymbol 14 = .ok (.goto 4, 3) := by decide +kernel
theorem d_Sg_firstOfSymbol_17 : decode b_Sg_firstOfSymbol 17 = .ok (.iconst (-1), 1) := by decide +kernel
theorem d_Sg_firstOfSymbol_18 : decode b_Sg_firstOfSymbol 18 = .ok (.ireturn, 1) := by decide +kernel
def f_Sg_firstOfSymbol_18 (s0 : Int32) (σ : St) : Int32 := s0
def k_Sg_firstOfSymbol_18 (s0 : Int32) (σ : St) : Prop := True
def f_Sg_firstOfSymbol (a1 : Int32) (σ : St) : Int32 := if (f_Sg_isSymbol a1 σ) = 0 then (f_Sg_firstOfSymbol_18 (-1) σ) else (f_Sg_firstOfSymbol_18 (σ.1 3 a1.toNatClampNeg) σ)
def k_Sg_firstOfSymbol (a1 : Int32) (σ : St) : Prop := (k_Sg_isSymbol a1 σ) ∧ (((f_Sg_isSymbol a1 σ) = 0 → (k_Sg_firstOfSymbol_18 (-1) σ)) ∧ (¬ (f_Sg_isSymbol a1 σ) = 0 → (vp_in a1 12 ∧ (k_Sg_firstOfSymbol_18 (σ.1 3 a1.toNatClampNeg) σ))))
abbrev w_Sg_firstOfSymbol : List Cond := Cond.code y_Sg_firstOfSymbol b_Sg_firstOfSymbol 2 (some .int) :: gw
abbrev rm_Sg_firstOfSymbol : Room := { frames := 1, cells := 0, slots := 0, locals := 21 }
set_option maxHeartbeats 4000000 in
set_option maxRecDepth 100000 in
theorem c_Sg_firstOfSymbol (l : Launch) (D : va_G) (ty : Nat → ClassId) (h : Nat → Nat) (px : va_W) (σ : St) (a1 : Int32) (hk : k_Sg_firstOfSymbol a1 σ) : Met l y_Sg_firstOfSymbol w_Sg_firstOfSymbol rm_Sg_firstOfSymbol (va_Pc [.ref (h 1), .int a1] (fun U => va_P D classes (Wc ty h σ px) U.heap ∧ va_K D classes (Ta ty) U ∧ NW U)) (k2_QcV (.int (f_Sg_firstOfSymbol a1 σ))) 0 0 (fun _ => False) := by
  refine Met.ofW (cc := b_Sg_firstOfSymbol) (maxL := 2) (ret := (some .int)) (by decide) rfl ?_
  intro p e s m args below meth c s₁ B hml hv
  obtain ⟨ha, hP, hK, hN⟩ := hv
  have hx := B.exec
  have hb := B.bytes
  have hr := B.returns
  have hg : ∀ w ∈ gw, w.before args s = true := fun w h9 => atoms_spec (ws := w_Sg_firstOfSymbol) B.pre w (List.mem_cons_of_mem _ h9)
  have hown : s.vm.findClass "ClauseLedger$Signature" = some m.cls := findClass_of_methodNamed B.named
  have hlocks := B.notSynchronized
  have he : entryFrame m args 2 = entryFrame m ([.ref (h 1), .int a1] : List Value).toArray 2 := by rw [ha]
  rw [he, lg_entry_eq]
  have hl := lv_entry ([.ref (h 1), .int a1]) (n := 2) (Nat.le_of_ble_eq_true rfl)
  generalize (lg_sl ([.ref (h 1), .int a1]) ++ List.replicate (2 - (lg_sl ([.ref (h 1), .int a1])).length) Slot.unset).toArray = ls at hl ⊢
  have hl : lv_has ls 2 [(0, .ref (h 1)), (1, .int a1)] := hl
  generalize hv : f_Sg_firstOfSymbol a1 σ = v
  replace hv := hv.symm
  have B18 : ∀ (ls : Array Slot) (s0 : Int32), v = f_Sg_firstOfSymbol_18 s0 σ → k_Sg_firstOfSymbol_18 s0 σ → lv_has ls 2 [] → W p l e (headSpec w_Sg_firstOfSymbol rm_Sg_firstOfSymbol).room s m args below meth c s.heap [] 0 0 (MQ below (k2_QcV (.int v)) args s 0 0 (fun _ => False)) (F0 m 18 ls [.int s0]) := by
    intro ls s0 hv hk hl
    unfold f_Sg_firstOfSymbol_18 at hv
    unfold k_Sg_firstOfSymbol_18 at hk
    exact W.iret hx hb hr (fun t ht hW => ⟨by rw [hv], ht⟩) (fun q h => nomatch h) d_Sg_firstOfSymbol_18
  unfold f_Sg_firstOfSymbol at hv
  unfold k_Sg_firstOfSymbol at hk
  refine lv_aload_n hx hb d_Sg_firstOfSymbol_0 rfl (lv_at hl 0 rfl) ?_
  refine lv_iload_n hx hb d_Sg_firstOfSymbol_1 rfl (lv_at hl 1 rfl) ?_
  obtain ⟨hk0, hk⟩ := hk
  refine zz_callV (va_runV (As := [.int a1]) (rest := []) ⟨hx, hb, hml, hown, hg⟩ (c_Sg_isSymbol l D ty h px σ a1 hk0) ⟨callB_of 1 hg (gw_C m_599) rfl rfl rfl (hg _ m_2) (hg _ m_596) hd_Sg_isSymbol ⟨Nat.le_of_ble_eq_true rfl, Nat.le_of_ble_eq_true rfl⟩, hg _ m_597, hg _ m_598⟩ (zz_preV hN hK hP 1 rfl rfl) rfl rfl hl.1 rfl (lv_room (Nat.le_of_ble_eq_true rfl)) d_Sg_firstOfSymbol_2 ⟨Nat.le_of_ble_eq_true rfl, Nat.le_of_ble_eq_true rfl⟩) ?_
  refine lv_if_eq (tgt := 17) hx hb d_Sg_firstOfSymbol_5 (by decide) (fun hc => ?_) (fun hc => ?_)
  · have hv := hv.trans (if_pos hc)
    have hk := hk.1 hc
    refine lv_iconst (v := -1) hx hb d_Sg_firstOfSymbol_17 (by decide) ?_
    exact B18 _ (-1) hv hk (lv_sub hl [] rfl)
  · have hv := hv.trans (if_neg hc)
    have hk := hk.2 hc
    refine lv_aload_n hx hb d_Sg_firstOfSymbol_8 rfl (lv_at hl 0 rfl) ?_
    refine va_get (v := .ref (h 3)) (C := R_Sg) (T := T_Sg) (N := 6) hx hb hg in_Sg hown hK hP 1 rfl rfl 1 (by decide) (hg _ m_44) (fun _ h9 => h9) rfl d_Sg_firstOfSymbol_9 ?_
    refine lv_iload_n hx hb d_Sg_firstOfSymbol_12 rfl (lv_at hl 1 rfl) ?_
    obtain ⟨hk0, hk⟩ := hk
    refine va_iald hx hb hK hP 3 0 rfl rfl hk0 d_Sg_firstOfSymbol_13 ?_
    refine lv_goto (tgt := 18) hx hb d_Sg_firstOfSymbol_14 (by decide) ?_
    exact B18 _ (σ.1 3 a1.toNatClampNeg) hv hk (lv_sub hl [] rfl)

-- ClauseLedger$Signature.secondOfSymbol(I)I
abbrev b_Sg_secondOfSymbol : ByteArray := prog_8_method_9_code
def y_Sg_secondOfSymbol : MethodName := ⟨"ClauseLedger$Signature", "secondOfSymbol", "(I)I"⟩
theorem hd_Sg_secondOfSymbol : y_Sg_secondOfSymbol.cls ≠ "java/lang/invoke/MethodHandle" ∧ y_Sg_secondOfSymbol.cls ≠ "java/lang/invoke/VarHandle" ∧ (parseMethodDescriptor y_Sg_secondOfSymbol.desc).map (fun d => d.parameters.length) = some 1 := by decide +kernel
theorem d_Sg_secondOfSymbol_0 : decode b_Sg_secondOfSymbol 0 = .ok (.aload_n 0, 1) := by decide +kernel
theorem d_Sg_secondOfSymbol_1 : decode b_Sg_secondOfSymbol 1 = .ok (.iload_n 1, 1) := by decide +kernel
theorem d_Sg_secondOfSymbol_2 : decode b_Sg_secondOfSymbol 2 = .ok (.invokevirtual 41, 3) := by decide +kernel
theorem d_Sg_secondOfSymbol_5 : decode b_Sg_secondOfSymbol 5 = .ok (.ifCond .eq 12, 3) := by decide +kernel
theorem d_Sg_secondOfSymbol_8 : decode b_Sg_secondOfSymbol 8 = .ok (.aload_n 0, 1) := by decide +kernel
theorem d_Sg_secondOfSymbol_9 : decode b_Sg_secondOfSymbol 9 = .ok (.getfield 18, 3) := by decide +kernel
theorem d_Sg_secondOfSymbol_12 : decode b_Sg_secondOfSymbol 12 = .ok (.iload_n 1, 1) := by decide +kernel
theorem d_Sg_secondOfSymbol_13 : decode b_Sg_secondOfSymbol 13 = .ok (.iaload, 1) := by decide +kernel
theorem d_Sg_secondOfSymbol_14 : decode b_Sg_secondOfSymbol 14 = .ok (.goto 4, 3) := by decide +kernel
theorem d_Sg_secondOfSymbol_17 : decode b_Sg_secondOfSymbol 17 = .ok (.iconst (-1), 1) := by decide +kernel
theorem d_Sg_secondOfSymbol_18 : decode b_Sg_secondOfSymbol 18 = .ok (.ireturn, 1) := by decide +kernel
def f_Sg_secondOfSymbol_18 (s0 : Int32) (σ : St) : Int32 := s0
def k_Sg_secondOfSymbol_18 (s0 : Int32) (σ : St) : Prop := True
def f_Sg_secondOfSymbol (a1 : Int32) (σ : St) : Int32 := if (f_Sg_isSymbol a1 σ) = 0 then (f_Sg_secondOfSymbol_18 (-1) σ) else (f_Sg_secondOfSymbol_18 (σ.1 4 a1.toNatClampNeg) σ)
def k_Sg_secondOfSymbol (a1 : Int32) (σ : St) : Prop := (k_Sg_isSymbol a1 σ) ∧ (((f_Sg_isSymbol a1 σ) = 0 → (k_Sg_secondOfSymbol_18 (-1) σ)) ∧ (¬ (f_Sg_isSymbol a1 σ) = 0 → (vp_in a1 12 ∧ (k_Sg_secondOfSymbol_18 (σ.1 4 a1.toNatClampNeg) σ))))
abbrev w_Sg_secondOfSymbol : List Cond := Cond.code y_Sg_secondOfSymbol b_Sg_secondOfSymbol 2 (some .int) :: gw
abbrev rm_Sg_secondOfSymbol : Room := { frames := 1, cells := 0, slots := 0, locals := 21 }
set_option maxHeartbeats 4000000 in
set_option maxRecDepth 100000 in
theorem c_Sg_secondOfSymbol (l : Launch) (D : va_G) (ty : Nat → ClassId) (h : Nat → Nat) (px : va_W) (σ : St) (a1 : Int32) (hk : k_Sg_secondOfSymbol a1 σ) : Met l y_Sg_secondOfSymbol w_Sg_secondOfSymbol rm_Sg_secondOfSymbol (va_Pc [.ref (h 1), .int a1] (fun U => va_P D classes (Wc ty h σ px) U.heap ∧ va_K D classes (Ta ty) U ∧ NW U)) (k2_QcV (.int (f_Sg_secondOfSymbol a1 σ))) 0 0 (fun _ => False) := by
  refine Met.ofW (cc := b_Sg_secondOfSymbol) (maxL := 2) (ret := (some .int)) (by decide) rfl ?_
  intro p e s m args below meth c s₁ B hml hv
  obtain ⟨ha, hP, hK, hN⟩ := hv
  have hx := B.exec
  have hb := B.bytes
  have hr := B.returns
  have hg : ∀ w ∈ gw, w.before args s = true := fun w h9 => atoms_spec (ws := w_Sg_secondOfSymbol) B.pre w (List.mem_cons_of_mem _ h9)
  have hown : s.vm.findClass "ClauseLedger$Signature" = some m.cls := findClass_of_methodNamed B.named
  have hlocks := B.notSynchronized
  have he : entryFrame m args 2 = entryFrame m ([.ref (h 1), .int a1] : List Value).toArray 2 := by rw [ha]
  rw [he, lg_entry_eq]
  have hl := lv_entry ([.ref (h 1), .int a1]) (n := 2) (Nat.le_of_ble_eq_true rfl)
  generalize (lg_sl ([.ref (h 1), .int a1]) ++ List.replicate (2 - (lg_sl ([.ref (h 1), .int a1])).length) Slot.unset).toArray = ls at hl ⊢
  have hl : lv_has ls 2 [(0, .ref (h 1)), (1, .int a1)] := hl
  generalize hv : f_Sg_secondOfSymbol a1 σ = v
  replace hv := hv.symm
  have B18 : ∀ (ls : Array Slot) (s0 : Int32), v = f_Sg_secondOfSymbol_18 s0 σ → k_Sg_secondOfSymbol_18 s0 σ → lv_has ls 2 [] → W p l e (headSpec w_Sg_secondOfSymbol rm_Sg_secondOfSymbol).room s m args below meth c s.heap [] 0 0 (MQ below (k2_QcV (.int v)) args s 0 0 (fun _ => False)) (F0 m 18 ls [.int s0]) := by
    intro ls s0 hv hk hl
    unfold f_Sg_secondOfSymbol_18 at hv
    unfold k_Sg_secondOfSymbol_18 at hk
    exact W.iret hx hb hr (fun t ht hW => ⟨by rw [hv], ht⟩) (fun q h => nomatch h) d_Sg_secondOfSymbol_18
  unfold f_Sg_secondOfSymbol at hv
  unfold k_Sg_secondOfSymbol at hk
  refine lv_aload_n hx hb d_Sg_secondOfSymbol_0 rfl (lv_at hl 0 rfl) ?_
  refine lv_iload_n hx hb d_Sg_secondOfSymbol_1 rfl (lv_at hl 1 rfl) ?_
  obtain ⟨hk0, hk⟩ := hk
  refine zz_callV (va_runV (As := [.int a1]) (rest := []) ⟨hx, hb, hml, hown, hg⟩ (c_Sg_isSymbol l D ty h px σ a1 hk0) ⟨callB_of 1 hg (gw_C m_599) rfl rfl rfl (hg _ m_2) (hg _ m_596) hd_Sg_isSymbol ⟨Nat.le_of_ble_eq_true rfl, Nat.le_of_ble_eq_true rfl⟩, hg _ m_597, hg _ m_598⟩ (zz_preV hN hK hP 1 rfl rfl) rfl rfl hl.1 rfl (lv_room (Nat.le_of_ble_eq_true rfl)) d_Sg_secondOfSymbol_2 ⟨Nat.le_of_ble_eq_true rfl, Nat.le_of_ble_eq_true rfl⟩) ?_
  refine lv_if_eq (tgt := 17) hx hb d_Sg_secondOfSymbol_5 (by decide) (fun hc => ?_) (fun hc => ?_)
  · have hv := hv.trans (if_pos hc)
    have hk := hk.1 hc
    refine lv_iconst (v := -1) hx hb d_Sg_secondOfSymbol_17 (by decide) ?_
    exact B18 _ (-1) hv hk (lv_sub hl [] rfl)
  · have hv := hv.trans (if_neg hc)
    have hk := hk.2 hc
    refine lv_aload_n hx hb d_Sg_secondOfSymbol_8 rfl (lv_at hl 0 rfl) ?_
    refine va_get (v := .ref (h 4)) (C := R_Sg) (T := T_Sg) (N := 6) hx hb hg in_Sg hown hK hP 1 rfl rfl 2 (by decide) (hg _ m_45) (fun _ h9 => h9) rfl d_Sg_secondOfSymbol_9 ?_
    refine lv_iload_n hx hb d_Sg_secondOfSymbol_12 rfl (lv_at hl 1 rfl) ?_
    obtain ⟨hk0, hk⟩ := hk
    refine va_iald hx hb hK hP 4 0 rfl rfl hk0 d_Sg_secondOfSymbol_13 ?_
    refine lv_goto (tgt := 18) hx hb d_Sg_secondOfSymbol_14 (by decide) ?_
    exact B18 _ (σ.1 4 a1.toNatClampNeg) hv hk (lv_sub hl [] rfl)

-- ClauseLedger$Terms.topOf(I)I
abbrev b_Te_topOf : ByteArray := prog_11_method_10_code
def y_Te_topOf : MethodName := ⟨"ClauseLedger$Terms", "topOf", "(I)I"⟩
theorem hd_Te_topOf : y_Te_topOf.cls ≠ "java/lang/invoke/MethodHandle" ∧ y_Te_topOf.cls ≠ "java/lang/invoke/VarHandle" ∧ (parseMethodDescriptor y_Te_topOf.desc).map (fun d => d.parameters.length) = some 1 := by decide +kernel
theorem d_Te_topOf_0 : decode b_Te_topOf 0 = .ok (.aload_n 0, 1) := by decide +kernel
theorem d_Te_topOf_1 : decode b_Te_topOf 1 = .ok (.iload_n 1, 1) := by decide +kernel
theorem d_Te_topOf_2 : decode b_Te_topOf 2 = .ok (.invokevirtual 57, 3) := by decide +kernel
theorem d_Te_topOf_5 : decode b_Te_topOf 5 = .ok (.ifCond .eq 12, 3) := by decide +kernel
theorem d_Te_topOf_8 : decode b_Te_topOf 8 = .ok (.aload_n 0, 1) := by decide +kernel
theorem d_Te_topOf_9 : decode b_Te_topOf 9 = .ok (.getfield 27, 3) := by decide +kernel
theorem d_Te_topOf_12 : decode b_Te_topOf 12 = .ok (.iload_n 1, 1) := by decide +kernel
theorem d_Te_topOf_13 : decode b_Te_topOf 13 = .ok (.iaload, 1) := by decide +kernel
theorem d_Te_topOf_14 : decode b_Te_topOf 14 = .ok (.goto 4, 3) := by decide +kernel
theorem d_Te_topOf_17 : decode b_Te_topOf 17 = .ok (.iconst 0, 1) := by decide +kernel
theorem d_Te_topOf_18 : decode b_Te_topOf 18 = .ok (.ireturn, 1) := by decide +kernel
def f_Te_topOf_18 (s0 : Int32) (σ : St) : Int32 := s0
def k_Te_topOf_18 (s0 : Int32) (σ : St) : Prop := True
def f_Te_topOf (a1 : Int32) (σ : St) : Int32 := if (f_Te_has a1 σ) = 0 then (f_Te_topOf_18 0 σ) else (f_Te_topOf_18 (σ.1 12 a1.toNatClampNeg) σ)
def k_Te_topOf (a1 : Int32) (σ : St) : Prop := (k_Te_has a1 σ) ∧ (((f_Te_has a1 σ) = 0 → (k_Te_topOf_18 0 σ)) ∧ (¬ (f_Te_has a1 σ) = 0 → (vp_in a1 208 ∧ (k_Te_topOf_18 (σ.1 12 a1.toNatClampNeg) σ))))
abbrev w_Te_topOf : List Cond := Cond.code y_Te_topOf b_Te_topOf 2 (some .int) :: gw
abbrev rm_Te_topOf : Room := { frames := 1, cells := 0, slots := 0, locals := 21 }
set_option maxHeartbeats 4000000 in
set_option maxRecDepth 100000 in
theorem c_Te_topOf (l : Launch) (D : va_G) (ty : Nat → ClassId) (h : Nat → Nat) (px : va_W) (σ : St) (a1 : Int32) (hk : k_Te_topOf a1 σ) : Met l y_Te_topOf w_Te_topOf rm_Te_topOf (va_Pc [.ref (h 6), .int a1] (fun U => va_P D classes (Wc ty h σ px) U.heap ∧ va_K D classes (Ta ty) U ∧ NW U)) (k2_QcV (.int (f_Te_topOf a1 σ))) 0 0 (fun _ => False) := by
  refine Met.ofW (cc := b_Te_topOf) (maxL := 2) (ret := (some .int)) (by decide) rfl ?_
  intro p e s m args below meth c s₁ B hml hv
  obtain ⟨ha, hP, hK, hN⟩ := hv
  have hx := B.exec
  have hb := B.bytes
  have hr := B.returns
  have hg : ∀ w ∈ gw, w.before args s = true := fun w h9 => atoms_spec (ws := w_Te_topOf) B.pre w (List.mem_cons_of_mem _ h9)
  have hown : s.vm.findClass "ClauseLedger$Terms" = some m.cls := findClass_of_methodNamed B.named
  have hlocks := B.notSynchronized
  have he : entryFrame m args 2 = entryFrame m ([.ref (h 6), .int a1] : List Value).toArray 2 := by rw [ha]
  rw [he, lg_entry_eq]
  have hl := lv_entry ([.ref (h 6), .int a1]) (n := 2) (Nat.le_of_ble_eq_true rfl)
  generalize (lg_sl ([.ref (h 6), .int a1]) ++ List.replicate (2 - (lg_sl ([.ref (h 6), .int a1])).length) Slot.unset).toArray = ls at hl ⊢
  have hl : lv_has ls 2 [(0, .ref (h 6)), (1, .int a1)] := hl
  generalize hv : f_Te_topOf a1 σ = v
  replace hv := hv.symm
  have B18 : ∀ (ls : Array Slot) (s0 : Int32), v = f_Te_topOf_18 s0 σ → k_Te_topOf_18 s0 σ → lv_has ls 2 [] → W p l e (headSpec w_Te_topOf rm_Te_topOf).room s m args below meth c s.heap [] 0 0 (MQ below (k2_QcV (.int v)) args s 0 0 (fun _ => False)) (F0 m 18 ls [.int s0]) := by
    intro ls s0 hv hk hl
    unfold f_Te_topOf_18 at hv
    unfold k_Te_topOf_18 at hk
    exact W.iret hx hb hr (fun t ht hW => ⟨by rw [hv], ht⟩) (fun q h => nomatch h) d_Te_topOf_18
  unfold f_Te_topOf at hv
  unfold k_Te_topOf at hk
  refine lv_aload_n hx hb d_Te_topOf_0 rfl (lv_at hl 0 rfl) ?_
  refine lv_iload_n hx hb d_Te_topOf_1 rfl (lv_at hl 1 rfl) ?_
  obtain ⟨hk0, hk⟩ := hk
  refine zz_callV (va_runV (As := [.int a1]) (rest := []) ⟨hx, hb, hml, hown, hg⟩ (c_Te_has l D ty h px σ a1 hk0) ⟨callB_of 1 hg (gw_C m_430) rfl rfl rfl (hg _ m_3) (hg _ m_435) hd_Te_has ⟨Nat.le_of_ble_eq_true rfl, Nat.le_of_ble_eq_true rfl⟩, hg _ m_428, hg _ m_429⟩ (zz_preV hN hK hP 6 rfl rfl) rfl rfl hl.1 rfl (lv_room (Nat.le_of_ble_eq_true rfl)) d_Te_topOf_2 ⟨Nat.le_of_ble_eq_true rfl, Nat.le_of_ble_eq_true rfl⟩) ?_
  refine lv_if_eq (tgt := 17) hx hb d_Te_topOf_5 (by decide) (fun hc => ?_) (fun hc => ?_)
  · have hv := hv.trans (if_pos hc)
    have hk := hk.1 hc
    refine lv_iconst (v := 0) hx hb d_Te_topOf_17 (by decide) ?_
    exact B18 _ 0 hv hk (lv_sub hl [] rfl)
  · have hv := hv.trans (if_neg hc)
    have hk := hk.2 hc
    refine lv_aload_n hx hb d_Te_topOf_8 rfl (lv_at hl 0 rfl) ?_
    refine va_get (v := .ref (h 12)) (C := R_Te) (T := T_Te) (N := 14) hx hb hg in_Te hown hK hP 6 rfl rfl 5 (by decide) (hg _ m_74) (fun _ h9 => h9) rfl d_Te_topOf_9 ?_
    refine lv_iload_n hx hb d_Te_topOf_12 rfl (lv_at hl 1 rfl) ?_
    obtain ⟨hk0, hk⟩ := hk
    refine va_iald hx hb hK hP 12 0 rfl rfl hk0 d_Te_topOf_13 ?_
    refine lv_goto (tgt := 18) hx hb d_Te_topOf_14 (by decide) ?_
    exact B18 _ (σ.1 12 a1.toNatClampNeg) hv hk (lv_sub hl [] rfl)

-- ClauseLedger$Terms.bottomOf(I)I
abbrev b_Te_bottomOf : ByteArray := prog_11_method_11_code
def y_Te_bottomOf : MethodName := ⟨"ClauseLedger$Terms", "bottomOf", "(I)I"⟩
theorem hd_Te_bottomOf : y_Te_bottomOf.cls ≠ "java/lang/invoke/MethodHandle" ∧ y_Te_bottomOf.cls ≠ "java/lang/invoke/VarHandle" ∧ (parseMethodDescriptor y_Te_bottomOf.desc).map (fun d => d.parameters.length) = some 1 := by decide +kernel
theorem d_Te_bottomOf_0 : decode b_Te_bottomOf 0 = .ok (.aload_n 0, 1) := by decide +kernel
theorem d_Te_bottomOf_1 : decode b_Te_bottomOf 1 = .ok (.iload_n 1, 1) := by decide +kernel
theorem d_Te_bottomOf_2 : decode b_Te_bottomOf 2 = .ok (.invokevirtual 57, 3) := by decide +kernel
theorem d_Te_bottomOf_5 : decode b_Te_bottomOf 5 = .ok (.ifCond .eq 12, 3) := by decide +kernel
theorem d_Te_bottomOf_8 : decode b_Te_bottomOf 8 = .ok (.aload_n 0, 1) := by decide +kernel
theorem d_Te_bottomOf_9 : decode b_Te_bottomOf 9 = .ok (.getfield 30, 3) := by decide +kernel
theorem d_Te_bottomOf_12 : decode b_Te_bottomOf 12 = .ok (.iload_n 1, 1) := by decide +kernel
theorem d_Te_bottomOf_13 : decode b_Te_bottomOf 13 = .ok (.iaload, 1) := by decide +kernel
theorem d_Te_bottomOf_14 : decode b_Te_bottomOf 14 = .ok (.goto 4, 3) := by decide +kernel
theorem d_Te_bottomOf_17 : decode b_Te_bottomOf 17 = .ok (.iconst 1, 1) := by decide +kernel
theorem d_Te_bottomOf_18 : decode b_Te_bottomOf 18 = .ok (.ireturn, 1) := by decide +kernel
def f_Te_bottomOf_18 (s0 : Int32) (σ : St) : Int32 := s0
def k_Te_bottomOf_18 (s0 : Int32) (σ : St) : Prop := True
def f_Te_bottomOf (a1 : Int32) (σ : St) : Int32 := if (f_Te_has a1 σ) = 0 then (f_Te_bottomOf_18 1 σ) else (f_Te_bottomOf_18 (σ.1 13 a1.toNatClampNeg) σ)
def k_Te_bottomOf (a1 : Int32) (σ : St) : Prop := (k_Te_has a1 σ) ∧ (((f_Te_has a1 σ) = 0 → (k_Te_bottomOf_18 1 σ)) ∧ (¬ (f_Te_has a1 σ) = 0 → (vp_in a1 208 ∧ (k_Te_bottomOf_18 (σ.1 13 a1.toNatClampNeg) σ))))
abbrev w_Te_bottomOf : List Cond := Cond.code y_Te_bottomOf b_Te_bottomOf 2 (some .int) :: gw
abbrev rm_Te_bottomOf : Room := { frames := 1, cells := 0, slots := 0, locals := 21 }
set_option maxHeartbeats 4000000 in
set_option maxRecDepth 100000 in
theorem c_Te_bottomOf (l : Launch) (D : va_G) (ty : Nat → ClassId) (h : Nat → Nat) (px : va_W) (σ : St) (a1 : Int32) (hk : k_Te_bottomOf a1 σ) : Met l y_Te_bottomOf w_Te_bottomOf rm_Te_bottomOf (va_Pc [.ref (h 6), .int a1] (fun U => va_P D classes (Wc ty h σ px) U.heap ∧ va_K D classes (Ta ty) U ∧ NW U)) (k2_QcV (.int (f_Te_bottomOf a1 σ))) 0 0 (fun _ => False) := by
  refine Met.ofW (cc := b_Te_bottomOf) (maxL := 2) (ret := (some .int)) (by decide) rfl ?_
  intro p e s m args below meth c s₁ B hml hv
  obtain ⟨ha, hP, hK, hN⟩ := hv
  have hx := B.exec
  have hb := B.bytes
  have hr := B.returns
  have hg : ∀ w ∈ gw, w.before args s = true := fun w h9 => atoms_spec (ws := w_Te_bottomOf) B.pre w (List.mem_cons_of_mem _ h9)
  have hown : s.vm.findClass "ClauseLedger$Terms" = some m.cls := findClass_of_methodNamed B.named
  have hlocks := B.notSynchronized
  have he : entryFrame m args 2 = entryFrame m ([.ref (h 6), .int a1] : List Value).toArray 2 := by rw [ha]
  rw [he, lg_entry_eq]
  have hl := lv_entry ([.ref (h 6), .int a1]) (n := 2) (Nat.le_of_ble_eq_true rfl)
  generalize (lg_sl ([.ref (h 6), .int a1]) ++ List.replicate (2 - (lg_sl ([.ref (h 6), .int a1])).length) Slot.unset).toArray = ls at hl ⊢
  have hl : lv_has ls 2 [(0, .ref (h 6)), (1, .int a1)] := hl
  generalize hv : f_Te_bottomOf a1 σ = v
  replace hv := hv.symm
  have B18 : ∀ (ls : Array Slot) (s0 : Int32), v = f_Te_bottomOf_18 s0 σ → k_Te_bottomOf_18 s0 σ → lv_has ls 2 [] → W p l e (headSpec w_Te_bottomOf rm_Te_bottomOf).room s m args below meth c s.heap [] 0 0 (MQ below (k2_QcV (.int v)) args s 0 0 (fun _ => False)) (F0 m 18 ls [.int s0]) := by
    intro ls s0 hv hk hl
    unfold f_Te_bottomOf_18 at hv
    unfold k_Te_bottomOf_18 at hk
    exact W.iret hx hb hr (fun t ht hW => ⟨by rw [hv], ht⟩) (fun q h => nomatch h) d_Te_bottomOf_18
  unfold f_Te_bottomOf at hv
  unfold k_Te_bottomOf at hk
  refine lv_aload_n hx hb d_Te_bottomOf_0 rfl (lv_at hl 0 rfl) ?_
  refine lv_iload_n hx hb d_Te_bottomOf_1 rfl (lv_at hl 1 rfl) ?_
  obtain ⟨hk0, hk⟩ := hk
  refine zz_callV (va_runV (As := [.int a1]) (rest := []) ⟨hx, hb, hml, hown, hg⟩ (c_Te_has l D ty h px σ a1 hk0) ⟨callB_of 1 hg (gw_C m_430) rfl rfl rfl (hg _ m_3) (hg _ m_435) hd_Te_has ⟨Nat.le_of_ble_eq_true rfl, Nat.le_of_ble_eq_true rfl⟩, hg _ m_428, hg _ m_429⟩ (zz_preV hN hK hP 6 rfl rfl) rfl rfl hl.1 rfl (lv_room (Nat.le_of_ble_eq_true rfl)) d_Te_bottomOf_2 ⟨Nat.le_of_ble_eq_true rfl, Nat.le_of_ble_eq_true rfl⟩) ?_
  refine lv_if_eq (tgt := 17) hx hb d_Te_bottomOf_5 (by decide) (fun hc => ?_) (fun hc => ?_)
  · have hv := hv.trans (if_pos hc)
    have hk := hk.1 hc
    refine lv_iconst (v := 1) hx hb d_Te_bottomOf_17 (by decide) ?_
    exact B18 _ 1 hv hk (lv_sub hl [] rfl)
  · have hv := hv.trans (if_neg hc)
    have hk := hk.2 hc
    refine lv_aload_n hx hb d_Te_bottomOf_8 rfl (lv_at hl 0 rfl) ?_
    refine va_get (v := .ref (h 13)) (C := R_Te) (T := T_Te) (N := 14) hx hb hg in_Te hown hK hP 6 rfl rfl 6 (by decide) (hg _ m_75) (fun _ h9 => h9) rfl d_Te_bottomOf_9 ?_
    refine lv_iload_n hx hb d_Te_bottomOf_12 rfl (lv_at hl 1 rfl) ?_
    obtain ⟨hk0, hk⟩ := hk
    refine va_iald hx hb hK hP 13 0 rfl rfl hk0 d_Te_bottomOf_13 ?_
    refine lv_goto (tgt := 18) hx hb d_Te_bottomOf_14 (by decide) ?_
    exact B18 _ (σ.1 13 a1.toNatClampNeg) hv hk (lv_sub hl [] rfl)

-- ClauseLedger$Terms.isFree(II)Z
abbrev b_Te_isFree : ByteArray := prog_11_method_14_code
def y_Te_isFree : MethodName := ⟨"ClauseLedger$Terms", "isFree", "(II)Z"⟩
theorem hd_Te_isFree : y_Te_isFree.cls ≠ "java/lang/invoke/MethodHandle" ∧ y_Te_isFree.cls ≠ "java/lang/invoke/VarHandle" ∧ (parseMethodDescriptor y_Te_isFree.desc).map (fun d => d.parameters.length) = some 2 := by decide +kernel
theorem d_Te_isFree_0 : decode b_Te_isFree 0 = .ok (.aload_n 0, 1) := by decide +kernel
theorem d_Te_isFree_1 : decode b_Te_isFree 1 = .ok (.iload_n 2, 1) := by decide +kernel
theorem d_Te_isFree_2 : decode b_Te_isFree 2 = .ok (.invokevirtual 65, 3) := by decide +kernel
theorem d_Te_isFree_5 : decode b_Te_isFree 5 = .ok (.iconst 1, 1) := by decide +kernel
theorem d_Te_isFree_6 : decode b_Te_isFree 6 = .ok (.iload_n 1, 1) := by decide +kernel
theorem d_Te_isFree_7 : decode b_Te_isFree 7 = .ok (.ishl, 1) := by decide +kernel
theorem d_Te_isFree_8 : decode b_Te_isFree 8 = .ok (.iand, 1) := by decide +kernel
theorem d_Te_isFree_9 : decode b_Te_isFree 9 = .ok (.ifCond .eq 7, 3) := by decide +kernel
theorem d_Te_isFree_12 : decode b_Te_isFree 12 = .ok (.iconst 1, 1) := by decide +kernel
theorem d_Te_isFree_13 : decode b_Te_isFree 13 = .ok (.goto 4, 3) := by decide +kernel
theorem d_Te_isFree_16 : decode b_Te_isFree 16 = .ok (.iconst 0, 1) := by decide +kernel
theorem d_Te_isFree_17 : decode b_Te_isFree 17 = .ok (.ireturn, 1) := by decide +kernel
def f_Te_isFree_17 (s0 : Int32) (σ : St) : Int32 := s0
def k_Te_isFree_17 (s0 : Int32) (σ : St) : Prop := (narrow .boolean (.int s0) = .int s0) ∧ True
def f_Te_isFree (a1 : Int32) (a2 : Int32) (σ : St) : Int32 := if ((f_Te_freeOf a2 σ) &&& (1 <<< (a1 &&& 31))) = 0 then (f_Te_isFree_17 0 σ) else (f_Te_isFree_17 1 σ)
def k_Te_isFree (a1 : Int32) (a2 : Int32) (σ : St) : Prop := (k_Te_freeOf a2 σ) ∧ ((((f_Te_freeOf a2 σ) &&& (1 <<< (a1 &&& 31))) = 0 → (k_Te_isFree_17 0 σ)) ∧ (¬ ((f_Te_freeOf a2 σ) &&& (1 <<< (a1 &&& 31))) = 0 → (k_Te_isFree_17 1 σ)))
abbrev w_Te_isFree : List Cond := Cond.code y_Te_isFree b_Te_isFree 3 (some .boolean) :: gw
abbrev rm_Te_isFree : Room := { frames := 2, cells := 0, slots := 0, locals := 42 }
set_option maxHeartbeats 4000000 in
set_option maxRecDepth 100000 in
theorem c_Te_isFree (l : Launch) (D : va_G) (ty : Nat → ClassId) (h : Nat → Nat) (px : va_W) (σ : St) (a1 : Int32) (a2 : Int32) (hk : k_Te_isFree a1 a2 σ) : Met l y_Te_isFree w_Te_isFree rm_Te_isFree (va_Pc [.ref (h 6), .int a1, .int a2] (fun U => va_P D classes (Wc ty h σ px) U.heap ∧ va_K D classes (Ta ty) U ∧ NW U)) (k2_QcV (.int (f_Te_isFree a1 a2 σ))) 0 0 (fun _ => False) := by
  refine Met.ofW (cc := b_Te_isFree) (maxL := 3) (ret := (some .boolean)) (by decide) rfl ?_
  intro p e s m args below meth c s₁ B hml hv
  obtain ⟨ha, hP, hK, hN⟩ := hv
  have hx := B.exec
  have hb := B.bytes
  have hr := B.returns
  have hg : ∀ w ∈ gw, w.before args s = true := fun w h9 => atoms_spec (ws := w_Te_isFree) B.pre w (List.mem_cons_of_mem _ h9)
  have hown : s.vm.findClass "ClauseLedger$Terms" = some m.cls := findClass_of_methodNamed B.named
  have hlocks := B.notSynchronized
  have he : entryFrame m args 3 = entryFrame m ([.ref (h 6), .int a1, .int a2] : List Value).toArray 3 := by rw [ha]
  rw [he, lg_entry_eq]
  have hl := lv_entry ([.ref (h 6), .int a1, .int a2]) (n := 3) (Nat.le_of_ble_eq_true rfl)
  generalize (lg_sl ([.ref (h 6), .int a1, .int a2]) ++ List.replicate (3 - (lg_sl ([.ref (h 6), .int a1, .int a2])).length) Slot.unset).toArray = ls at hl ⊢
  have hl : lv_has ls 3 [(0, .ref (h 6)), (1, .int a1), (2, .int a2)] := hl
  generalize hv : f_Te_isFree a1 a2 σ = v
  replace hv := hv.symm
  have B17 : ∀ (ls : Array Slot) (s0 : Int32), v = f_Te_isFree_17 s0 σ → k_Te_isFree_17 s0 σ → lv_has ls 3 [] → W p l e (headSpec w_Te_isFree rm_Te_isFree).room s m args below meth c s.heap [] 0 0 (MQ below (k2_QcV (.int v)) args s 0 0 (fun _ => False)) (F0 m 17 ls [.int s0]) := by
    intro ls s0 hv hk hl
    unfold f_Te_isFree_17 at hv
    unfold k_Te_isFree_17 at hk
    obtain ⟨hk0, hk⟩ := hk
    exact W.zret hx hb hr hk0 (fun t ht hW => ⟨by rw [hv], ht⟩) (fun q h => nomatch h) d_Te_isFree_17
  unfold f_Te_isFree at hv
  unfold k_Te_isFree at hk
  refine lv_aload_n hx hb d_Te_isFree_0 rfl (lv_at hl 0 rfl) ?_
  refine lv_iload_n hx hb d_Te_isFree_1 rfl (lv_at hl 2 rfl) ?_
  obtain ⟨hk0, hk⟩ := hk
  refine zz_callV (va_runV (As := [.int a2]) (rest := []) ⟨hx, hb, hml, hown, hg⟩ (c_Te_freeOf l D ty h px σ a2 hk0) ⟨callB_of 1 hg (gw_C m_650) rfl rfl rfl (hg _ m_3) (hg _ m_647) hd_Te_freeOf ⟨Nat.le_of_ble_eq_true rfl, Nat.le_of_ble_eq_true rfl⟩, hg _ m_649, hg _ ms_16⟩ (zz_preV hN hK hP 6 rfl rfl) rfl rfl hl.1 rfl (lv_room (Nat.le_of_ble_eq_true rfl)) d_Te_isFree_2 ⟨Nat.le_of_ble_eq_true rfl, Nat.le_of_ble_eq_true rfl⟩) ?_
  refine lv_iconst (v := 1) hx hb d_Te_isFree_5 (by decide) ?_
  refine lv_iload_n hx hb d_Te_isFree_6 rfl (lv_at hl 1 rfl) ?_
  refine lv_ishl hx hb d_Te_isFree_7 ?_
  refine lv_iand hx hb d_Te_isFree_8 ?_
  refine lv_if_eq (tgt := 16) hx hb d_Te_isFree_9 (by decide) (fun hc => ?_) (fun hc => ?_)
  · have hv := hv.trans (if_pos hc)
    have hk := hk.1 hc
    refine lv_iconst (v := 0) hx hb d_Te_isFree_16 (by decide) ?_
    exact B17 _ 0 hv hk (lv_sub hl [] rfl)
  · have hv := hv.trans (if_neg hc)
    have hk := hk.2 hc
    refine lv_iconst (v := 1) hx hb d_Te_isFree_12 (by decide) ?_
    refine lv_goto (tgt := 17) hx hb d_Te_isFree_13 (by decide) ?_
    exact B17 _ 1 hv hk (lv_sub hl [] rfl)

-- ClauseLedger$Writer.digitsOf(I)I
abbrev b_Wr_digitsOf : ByteArray := prog_12_method_10_code
def y_Wr_digitsOf : MethodName := ⟨"ClauseLedger$Writer", "digitsOf", "(I)I"⟩
theorem hd_Wr_digitsOf : y_Wr_digitsOf.cls ≠ "java/lang/invoke/MethodHandle" ∧ y_Wr_digitsOf.cls ≠ "java/lang/invoke/VarHandle" ∧ (parseMethodDescriptor y_Wr_digitsOf.desc).map (fun d => d.parameters.length) = some 1 := by decide +kernel
theorem d_Wr_digitsOf_0 : decode b_Wr_digitsOf 0 = .ok (.iconst 1, 1) := by decide +kernel
theorem d_Wr_digitsOf_1 : decode b_Wr_digitsOf 1 = .ok (.istore_n 1, 1) := by decide +kernel
theorem d_Wr_digitsOf_2 : decode b_Wr_digitsOf 2 = .ok (.iload_n 0, 1) := by decide +kernel
theorem d_Wr_digitsOf_3 : decode b_Wr_digitsOf 3 = .ok (.bipush 10, 2) := by decide +kernel
theorem d_Wr_digitsOf_5 : decode b_Wr_digitsOf 5 = .ok (.idiv, 1) := by decide +kernel
theorem d_Wr_digitsOf_6 : decode b_Wr_digitsOf 6 = .ok (.istore_n 2, 1) := by decide +kernel
theorem d_Wr_digitsOf_7 : decode b_Wr_digitsOf 7 = .ok (.iload_n 2, 1) := by decide +kernel
theorem d_Wr_digitsOf_8 : decode b_Wr_digitsOf 8 = .ok (.ifCond .le 20, 3) := by decide +kernel
theorem d_Wr_digitsOf_11 : decode b_Wr_digitsOf 11 = .ok (.iload_n 1, 1) := by decide +kernel
theorem d_Wr_digitsOf_12 : decode b_Wr_digitsOf 12 = .ok (.bipush 10, 2) := by decide +kernel
theorem d_Wr_digitsOf_14 : decode b_Wr_digitsOf 14 = .ok (.if_icmp .ge 14, 3) := by decide +kernel
theorem d_Wr_digitsOf_17 : decode b_Wr_digitsOf 17 = .ok (.iinc 1 1, 3) := by decide +kernel
theorem d_Wr_digitsOf_20 : decode b_Wr_digitsOf 20 = .ok (.iload_n 2, 1) := by decide +kernel
theorem d_Wr_digitsOf_21 : decode b_Wr_digitsOf 21 = .ok (.bipush 10, 2) := by decide +kernel
theorem d_Wr_digitsOf_23 : decode b_Wr_digitsOf 23 = .ok (.idiv, 1) := by decide +kernel
theorem d_Wr_digitsOf_24 : decode b_Wr_digitsOf 24 = .ok (.istore_n 2, 1) := by decide +kernel
theorem d_Wr_digitsOf_25 : decode b_Wr_digitsOf 25 = .ok (.goto (-18), 3) := by decide +kernel
theorem d_Wr_digitsOf_28 : decode b_Wr_digitsOf 28 = .ok (.iload_n 1, 1) := by decide +kernel
theorem d_Wr_digitsOf_29 : decode b_Wr_digitsOf 29 = .ok (.ireturn, 1) := by decide +kernel
def f_Wr_digitsOf_25 (F7 : (Int32 → Int32 → St → Int32)) (x1 : Int32) (x2 : Int32) (σ : St) : Int32 := F7 x1 x2 σ
def k_Wr_digitsOf_25 (K7 : (Int32 → Int32 → St → Prop)) (x1 : Int32) (x2 : Int32) (σ : St) : Prop := K7 x1 x2 σ
def f_Wr_digitsOf_28 (x1 : Int32) (σ : St) : Int32 := x1
def k_Wr_digitsOf_28 (x1 : Int32) (σ : St) : Prop := True
def f_Wr_digitsOf_7 : Nat → Int32 → Int32 → St → Int32
  | 0, _, _, σ => 0
  | n + 1, x1, x2, σ => if x2 ≤ 0 then (f_Wr_digitsOf_28 x1 σ) else (if 10 ≤ x1 then (f_Wr_digitsOf_28 x1 σ) else (f_Wr_digitsOf_25 (f_Wr_digitsOf_7 n) (x1 + 1) (x2 / 10) σ))
def k_Wr_digitsOf_7 : Nat → Int32 → Int32 → St → Prop
  | 0, _, _, _ => False
  | n + 1, x1, x2, σ => (x2 ≤ 0 → (k_Wr_digitsOf_28 x1 σ)) ∧ (¬ x2 ≤ 0 → ((10 ≤ x1 → (k_Wr_digitsOf_28 x1 σ)) ∧ (¬ 10 ≤ x1 → ((¬ (10 : Int32) = 0) ∧ (k_Wr_digitsOf_25 (k_Wr_digitsOf_7 n) (x1 + 1) (x2 / 10) σ)))))
def f_Wr_digitsOf (a0 : Int32) (σ : St) : Int32 := f_Wr_digitsOf_7 1000 1 (a0 / 10) σ
def k_Wr_digitsOf (a0 : Int32) (σ : St) : Prop := (¬ (10 : Int32) = 0) ∧ (k_Wr_digitsOf_7 1000 1 (a0 / 10) σ)
abbrev w_Wr_digitsOf : List Cond := Cond.code y_Wr_digitsOf b_Wr_digitsOf 3 (some .int) :: gw
abbrev rm_Wr_digitsOf : Room := { frames := 0, cells := 0, slots := 0, locals := 0 }
set_option maxHeartbeats 4000000 in
set_option maxRecDepth 100000 in
theorem c_Wr_digitsOf (l : Launch) (D : va_G) (ty : Nat → ClassId) (h : Nat → Nat) (px : va_W) (σ : St) (a0 : Int32) (hk : k_Wr_digitsOf a0 σ) : Met l y_Wr_digitsOf w_Wr_digitsOf rm_Wr_digitsOf (va_Pc [.int a0] (fun U => va_P D classes (Wc ty h σ px) U.heap ∧ va_K D classes (Ta ty) U ∧ NW U)) (k2_QcV (.int (f_Wr_digitsOf a0 σ))) 0 0 (fun _ => False) := by
  refine Met.ofW (cc := b_Wr_digitsOf) (maxL := 3) (ret := (some .int)) (by decide) rfl ?_
  intro p e s m args below meth c s₁ B hml hv
  obtain ⟨ha, hP, hK, hN⟩ := hv
  have hx := B.exec
  have hb := B.bytes
  have hr := B.returns
  have hg : ∀ w ∈ gw, w.before args s = true := fun w h9 => atoms_spec (ws := w_Wr_digitsOf) B.pre w (List.mem_cons_of_mem _ h9)
  have hown : s.vm.findClass "ClauseLedger$Writer" = some m.cls := findClass_of_methodNamed B.named
  have hlocks := B.notSynchronized
  have he : entryFrame m args 3 = entryFrame m ([.int a0] : List Value).toArray 3 := by rw [ha]
  rw [he, lg_entry_eq]
  have hl := lv_entry ([.int a0]) (n := 3) (Nat.le_of_ble_eq_true rfl)
  generalize (lg_sl ([.int a0]) ++ List.replicate (3 - (lg_sl ([.int a0])).length) Slot.unset).toArray = ls at hl ⊢
  have hl : lv_has ls 3 [(0, .int a0)] := hl
  generalize hv : f_Wr_digitsOf a0 σ = v
  replace hv := hv.symm
  have B28 : ∀ (ls : Array Slot) (x1 : Int32), v = f_Wr_digitsOf_28 x1 σ → k_Wr_digitsOf_28 x1 σ → lv_has ls 3 [(1, .int x1)] → W p l e (headSpec w_Wr_digitsOf rm_Wr_digitsOf).room s m args below meth c s.heap [] 0 0 (MQ below (k2_QcV (.int v)) args s 0 0 (fun _ => False)) (F0 m 28 ls []) := by
    intro ls x1 hv hk hl
    unfold f_Wr_digitsOf_28 at hv
    unfold k_Wr_digitsOf_28 at hk
    refine lv_iload_n hx hb d_Wr_digitsOf_28 rfl (lv_at hl 0 rfl) ?_
    exact W.iret hx hb hr (fun t ht hW => ⟨by rw [hv], ht⟩) (fun q h => nomatch h) d_Wr_digitsOf_29
  have B7 : ∀ (n7 : Nat) (ls : Array Slot) (x1 : Int32) (x2 : Int32), v = f_Wr_digitsOf_7 n7 x1 x2 σ → k_Wr_digitsOf_7 n7 x1 x2 σ → lv_has ls 3 [(1, .int x1), (2, .int x2)] → W p l e (headSpec w_Wr_digitsOf rm_Wr_digitsOf).room s m args below meth c s.heap [] 0 0 (MQ below (k2_QcV (.int v)) args s 0 0 (fun _ => False)) (F0 m 7 ls []) := by
    intro n7
    induction n7 with
    | zero => intro ls x1 x2 hv hk hl; exact hk.elim
    | succ n7 ih7 =>
      have B25 : ∀ (ls : Array Slot) (x1 : Int32) (x2 : Int32), v = f_Wr_digitsOf_25 (f_Wr_digitsOf_7 n7) x1 x2 σ → k_Wr_digitsOf_25 (k_Wr_digitsOf_7 n7) x1 x2 σ → lv_has ls 3 [(1, .int x1), (2, .int x2)] → W p l e (headSpec w_Wr_digitsOf rm_Wr_digitsOf).room s m args below meth c s.heap [] 0 0 (MQ below (k2_QcV (.int v)) args s 0 0 (fun _ => False)) (F0 m 25 ls []) := by
        intro ls x1 x2 hv hk hl
        unfold f_Wr_digitsOf_25 at hv
        unfold k_Wr_digitsOf_25 at hk
        refine lv_goto (tgt := 7) hx hb d_Wr_digitsOf_25 (by decide) ?_
        exact ih7 _ x1 x2 hv hk (lv_sub hl [0, 1] rfl)
      intro ls x1 x2 hv hk hl
      rw [f_Wr_digitsOf_7] at hv
      rw [k_Wr_digitsOf_7] at hk
      refine lv_iload_n hx hb d_Wr_digitsOf_7 rfl (lv_at hl 1 rfl) ?_
      refine lv_if_le (tgt := 28) hx hb d_Wr_digitsOf_8 (by decide) (fun hc => ?_) (fun hc => ?_)
      · have hv := hv.trans (if_pos hc)
        have hk := hk.1 hc
        exact B28 _ x1 hv hk (lv_sub hl [0] rfl)
      · have hv := hv.trans (if_neg hc)
        have hk := hk.2 hc
        refine lv_iload_n hx hb d_Wr_digitsOf_11 rfl (lv_at hl 0 rfl) ?_
        refine lv_bipush (v := 10) hx hb d_Wr_digitsOf_12 (by decide) ?_
        refine lv_icmp_ge (tgt := 28) hx hb d_Wr_digitsOf_14 (by decide) (fun hc => ?_) (fun hc => ?_)
        · have hv := hv.trans (if_pos hc)
          have hk := hk.1 hc
          exact B28 _ x1 hv hk (lv_sub hl [0] rfl)
        · have hv := hv.trans (if_neg hc)
          have hk := hk.2 hc
          refine lv_iinc (k := 0) (v := x1 + 1) (lv' := [(1, .int (x1 + 1)), (2, .int x2)]) hx hb d_Wr_digitsOf_17 hl rfl (by first | rfl | simp [lit1, litm1]) (by decide) rfl (fun ls hl => ?_)
          refine lv_iload_n hx hb d_Wr_digitsOf_20 rfl (lv_at hl 1 rfl) ?_
          refine lv_bipush (v := 10) hx hb d_Wr_digitsOf_21 (by decide) ?_
          obtain ⟨hk0, hk⟩ := hk
          refine lv_idiv hx hb d_Wr_digitsOf_23 hk0 ?_
          refine lv_istore_n (lv' := [(2, .int (x2 / 10)), (1, .int (x1 + 1))]) hx hb d_Wr_digitsOf_24 rfl hl (by decide) rfl (fun ls hl => ?_)
          exact B25 _ (x1 + 1) (x2 / 10) hv hk (lv_sub hl [1, 0] rfl)
  unfold f_Wr_digitsOf at hv
  unfold k_Wr_digitsOf at hk
  refine lv_iconst (v := 1) hx hb d_Wr_digitsOf_0 (by decide) ?_
  refine lv_istore_n (lv' := [(1, .int 1), (0, .int a0)]) hx hb d_Wr_digitsOf_1 rfl hl (by decide) rfl (fun ls hl => ?_)
  refine lv_iload_n hx hb d_Wr_digitsOf_2 rfl (lv_at hl 1 rfl) ?_
  refine lv_bipush (v := 10) hx hb d_Wr_digitsOf_3 (by decide) ?_
  obtain ⟨hk0, hk⟩ := hk
  refine lv_idiv hx hb d_Wr_digitsOf_5 hk0 ?_
  refine lv_istore_n (lv' := [(2, .int (a0 / 10)), (1, .int 1), (0, .int a0)]) hx hb d_Wr_digitsOf_6 rfl hl (by decide) rfl (fun ls hl => ?_)
  exact B7 1000 _ 1 (a0 / 10) hv hk (lv_sub hl [1, 0] rfl)

-- ClauseLedger$Writer.lengthOfConstant(II)I
abbrev b_Wr_lengthOfConstant : ByteArray := prog_12_method_3_code
def y_Wr_lengthOfConstant : MethodName := ⟨"ClauseLedger$Writer", "lengthOfConstant", "(II)I"⟩
theorem hd_Wr_lengthOfConstant : y_Wr_lengthOfConstant.cls ≠ "java/lang/invoke/MethodHandle" ∧ y_Wr_lengthOfConstant.cls ≠ "java/lang/invoke/VarHandle" ∧ (parseMethodDescriptor y_Wr_lengthOfConstant.desc).map (fun d => d.parameters.length) = some 2 := by decide +kernel
theorem d_Wr_lengthOfConstant_0 : decode b_Wr_lengthOfConstant 0 = .ok (.iload_n 0, 1) := by decide +kernel
theorem d_Wr_lengthOfConstant_1 : decode b_Wr_lengthOfConstant 1 = .ok (.ifCond .ge 7, 3) := by decide +kernel
theorem d_Wr_lengthOfConstant_4 : decode b_Wr_lengthOfConstant 4 = .ok (.iconst 1, 1) := by decide +kernel
theorem d_Wr_lengthOfConstant_5 : decode b_Wr_lengthOfConstant 5 = .ok (.goto 4, 3) := by decide +kernel
theorem d_Wr_lengthOfConstant_8 : decode b_Wr_lengthOfConstant 8 = .ok (.iconst 0, 1) := by decide +kernel
theorem d_Wr_lengthOfConstant_9 : decode b_Wr_lengthOfConstant 9 = .ok (.iload_n 0, 1) := by decide +kernel
theorem d_Wr_lengthOfConstant_10 : decode b_Wr_lengthOfConstant 10 = .ok (.invokestatic 19, 3) := by decide +kernel
theorem d_Wr_lengthOfConstant_13 : decode b_Wr_lengthOfConstant 13 = .ok (.invokestatic 24, 3) := by decide +kernel
theorem d_Wr_lengthOfConstant_16 : decode b_Wr_lengthOfConstant 16 = .ok (.iadd, 1) := by decide +kernel
theorem d_Wr_lengthOfConstant_17 : decode b_Wr_lengthOfConstant 17 = .ok (.istore_n 2, 1) := by decide +kernel
theorem d_Wr_lengthOfConstant_18 : decode b_Wr_lengthOfConstant 18 = .ok (.iload_n 1, 1) := by decide +kernel
theorem d_Wr_lengthOfConstant_19 : decode b_Wr_lengthOfConstant 19 = .ok (.iconst 1, 1) := by decide +kernel
theorem d_Wr_lengthOfConstant_20 : decode b_Wr_lengthOfConstant 20 = .ok (.if_icmp .ne 7, 3) := by decide +kernel
theorem d_Wr_lengthOfConstant_23 : decode b_Wr_lengthOfConstant 23 = .ok (.iload_n 2, 1) := by decide +kernel
theorem d_Wr_lengthOfConstant_24 : decode b_Wr_lengthOfConstant 24 = .ok (.goto 11, 3) := by decide +kernel
theorem d_Wr_lengthOfConstant_27 : decode b_Wr_lengthOfConstant 27 = .ok (.iload_n 2, 1) := by decide +kernel
theorem d_Wr_lengthOfConstant_28 : decode b_Wr_lengthOfConstant 28 = .ok (.iconst 1, 1) := by decide +kernel
theorem d_Wr_lengthOfConstant_29 : decode b_Wr_lengthOfConstant 29 = .ok (.iadd, 1) := by decide +kernel
theorem d_Wr_lengthOfConstant_30 : decode b_Wr_lengthOfConstant 30 = .ok (.iload_n 1, 1) := by decide +kernel
theorem d_Wr_lengthOfConstant_31 : decode b_Wr_lengthOfConstant 31 = .ok (.invokestatic 24, 3) := by decide +kernel
theorem d_Wr_lengthOfConstant_34 : decode b_Wr_lengthOfConstant 34 = .ok (.iadd, 1) := by decide +kernel
theorem d_Wr_lengthOfConstant_35 : decode b_Wr_lengthOfConstant 35 = .ok (.ireturn, 1) := by decide +kernel
def f_Wr_lengthOfConstant_35 (s0 : Int32) (σ : St) : Int32 := s0
def k_Wr_lengthOfConstant_35 (s0 : Int32) (σ : St) : Prop := True
def f_Wr_lengthOfConstant_18 (x1 : Int32) (x2 : Int32) (σ : St) : Int32 := if x1 = 1 then (f_Wr_lengthOfConstant_35 x2 σ) else (f_Wr_lengthOfConstant_35 ((x2 + 1) + (f_Wr_digitsOf x1 σ)) σ)
def k_Wr_lengthOfConstant_18 (x1 : Int32) (x2 : Int32) (σ : St) : Prop := (x1 = 1 → (k_Wr_lengthOfConstant_35 x2 σ)) ∧ (¬ x1 = 1 → ((k_Wr_digitsOf x1 σ) ∧ (k_Wr_lengthOfConstant_35 ((x2 + 1) + (f_Wr_digitsOf x1 σ)) σ)))
def f_Wr_lengthOfConstant_9 (x0 : Int32) (x1 : Int32) (s0 : Int32) (σ : St) : Int32 := f_Wr_lengthOfConstant_18 x1 (s0 + (f_Wr_digitsOf (if 0 ≤ x0 then x0 else 0 - x0) σ)) σ
def k_Wr_lengthOfConstant_9 (x0 : Int32) (x1 : Int32) (s0 : Int32) (σ : St) : Prop := (k_Wr_digitsOf (if 0 ≤ x0 then x0 else 0 - x0) σ) ∧ (k_Wr_lengthOfConstant_18 x1 (s0 + (f_Wr_digitsOf (if 0 ≤ x0 then x0 else 0 - x0) σ)) σ)
def f_Wr_lengthOfConstant (a0 : Int32) (a1 : Int32) (σ : St) : Int32 := if 0 ≤ a0 then (f_Wr_lengthOfConstant_9 a0 a1 0 σ) else (f_Wr_lengthOfConstant_9 a0 a1 1 σ)
def k_Wr_lengthOfConstant (a0 : Int32) (a1 : Int32) (σ : St) : Prop := (0 ≤ a0 → (k_Wr_lengthOfConstant_9 a0 a1 0 σ)) ∧ (¬ 0 ≤ a0 → (k_Wr_lengthOfConstant_9 a0 a1 1 σ))
abbrev w_Wr_lengthOfConstant : List Cond := Cond.code y_Wr_lengthOfConstant b_Wr_lengthOfConstant 3 (some .int) :: gw
abbrev rm_Wr_lengthOfConstant : Room := { frames := 1, cells := 0, slots := 0, locals := 22 }
set_option maxHeartbeats 4000000 in
set_option maxRecDepth 100000 in
theorem c_Wr_lengthOfConstant (l : Launch) (D : va_G) (ty : Nat → ClassId) (h : Nat → Nat) (px : va_W) (σ : St) (a0 : Int32) (a1 : Int32) (hk : k_Wr_lengthOfConstant a0 a1 σ) : Met l y_Wr_lengthOfConstant w_Wr_lengthOfConstant rm_Wr_lengthOfConstant (va_Pc [.int a0, .int a1] (fun U => va_P D classes (Wc ty h σ px) U.heap ∧ va_K D classes (Ta ty) U ∧ NW U)) (k2_QcV (.int (f_Wr_lengthOfConstant a0 a1 σ))) 0 0 (fun _ => False) := by
  refine Met.ofW (cc := b_Wr_lengthOfConstant) (maxL := 3) (ret := (some .int)) (by decide) rfl ?_
  intro p e s m args below meth c s₁ B hml hv
  obtain ⟨ha, hP, hK, hN⟩ := hv
  have hx := B.exec
  have hb := B.bytes
  have hr := B.returns
  have hg : ∀ w ∈ gw, w.before args s = true := fun w h9 => atoms_spec (ws := w_Wr_lengthOfConstant) B.pre w (List.mem_cons_of_mem _ h9)
  have hown : s.vm.findClass "ClauseLedger$Writer" = some m.cls := findClass_of_methodNamed B.named
  have hlocks := B.notSynchronized
  have he : entryFrame m args 3 = entryFrame m ([.int a0, .int a1] : List Value).toArray 3 := by rw [ha]
  rw [he, lg_entry_eq]
  have hl := lv_entry ([.int a0, .int a1]) (n := 3) (Nat.le_of_ble_eq_true rfl)
  generalize (lg_sl ([.int a0, .int a1]) ++ List.replicate (3 - (lg_sl ([.int a0, .int a1])).length) Slot.unset).toArray = ls at hl ⊢
  have hl : lv_has ls 3 [(0, .int a0), (1, .int a1)] := hl
  generalize hv : f_Wr_lengthOfConstant a0 a1 σ = v
  replace hv := hv.symm
  have B35 : ∀ (ls : Array Slot) (s0 : Int32), v = f_Wr_lengthOfConstant_35 s0 σ → k_Wr_lengthOfConstant_35 s0 σ → lv_has ls 3 [] → W p l e (headSpec w_Wr_lengthOfConstant rm_Wr_lengthOfConstant).room s m args below meth c s.heap [] 0 0 (MQ below (k2_QcV (.int v)) args s 0 0 (fun _ => False)) (F0 m 35 ls [.int s0]) := by
    intro ls s0 hv hk hl
    unfold f_Wr_lengthOfConstant_35 at hv
    unfold k_Wr_lengthOfConstant_35 at hk
    exact W.iret hx hb hr (fun t ht hW => ⟨by rw [hv], ht⟩) (fun q h => nomatch h) d_Wr_lengthOfConstant_35
  have B18 : ∀ (ls : Array Slot) (x1 : Int32) (x2 : Int32), v = f_Wr_lengthOfConstant_18 x1 x2 σ → k_Wr_lengthOfConstant_18 x1 x2 σ → lv_has ls 3 [(1, .int x1), (2, .int x2)] → W p l e (headSpec w_Wr_lengthOfConstant rm_Wr_lengthOfConstant).room s m args below meth c s.heap [] 0 0 (MQ below (k2_QcV (.int v)) args s 0 0 (fun _ => False)) (F0 m 18 ls []) := by
    intro ls x1 x2 hv hk hl
    unfold f_Wr_lengthOfConstant_18 at hv
    unfold k_Wr_lengthOfConstant_18 at hk
    refine lv_iload_n hx hb d_Wr_lengthOfConstant_18 rfl (lv_at hl 0 rfl) ?_
    refine lv_iconst (v := 1) hx hb d_Wr_lengthOfConstant_19 (by decide) ?_
    refine lv_icmp_ne (tgt := 27) hx hb d_Wr_lengthOfConstant_20 (by decide) (fun hc => ?_) (fun hc => ?_)
    · have hv := hv.trans (if_neg hc)
      have hk := hk.2 hc
      refine lv_iload_n hx hb d_Wr_lengthOfConstant_27 rfl (lv_at hl 1 rfl) ?_
      refine lv_iconst (v := 1) hx hb d_Wr_lengthOfConstant_28 (by decide) ?_
      refine lv_iadd hx hb d_Wr_lengthOfConstant_29 ?_
      refine lv_iload_n hx hb d_Wr_lengthOfConstant_30 rfl (lv_at hl 0 rfl) ?_
      obtain ⟨hk0, hk⟩ := hk
      refine zz_callV (va_runS (As := [.int x1]) (rest := [.int (x2 + 1)]) ⟨hx, hb, hml, hown, hg⟩ (c_Wr_digitsOf l D ty h px σ x1 hk0) ⟨callB_of 1 hg (gw_C m_553) rfl rfl rfl (hg _ m_6) (hg _ m_551) hd_Wr_digitsOf ⟨Nat.le_of_ble_eq_true rfl, Nat.le_of_ble_eq_true rfl⟩, hg _ m_552⟩ (zz_preS hN hK hP) rfl rfl hl.1 rfl (lv_room (Nat.le_of_ble_eq_true rfl)) d_Wr_lengthOfConstant_31 ⟨Nat.le_of_ble_eq_true rfl, Nat.le_of_ble_eq_true rfl⟩) ?_
      refine lv_iadd hx hb d_Wr_lengthOfConstant_34 ?_
      exact B35 _ ((x2 + 1) + (f_Wr_digitsOf x1 σ)) hv hk (lv_sub hl [] rfl)
    · have hv := hv.trans (if_pos hc)
      have hk := hk.1 hc
      refine lv_iload_n hx hb d_Wr_lengthOfConstant_23 rfl (lv_at hl 1 rfl) ?_
      refine lv_goto (tgt := 35) hx hb d_Wr_lengthOfConstant_24 (by decide) ?_
      exact B35 _ x2 hv hk (lv_sub hl [] rfl)
  have B9 : ∀ (ls : Array Slot) (x0 : Int32) (x1 : Int32) (s0 : Int32), v = f_Wr_lengthOfConstant_9 x0 x1 s0 σ → k_Wr_lengthOfConstant_9 x0 x1 s0 σ → lv_has ls 3 [(0, .int x0), (1, .int x1)] → W p l e (headSpec w_Wr_lengthOfConstant rm_Wr_lengthOfConstant).room s m args below meth c s.heap [] 0 0 (MQ below (k2_QcV (.int v)) args s 0 0 (fun _ => False)) (F0 m 9 ls [.int s0]) := by
    intro ls x0 x1 s0 hv hk hl
    unfold f_Wr_lengthOfConstant_9 at hv
    unfold k_Wr_lengthOfConstant_9 at hk
    refine lv_iload_n hx hb d_Wr_lengthOfConstant_9 rfl (lv_at hl 0 rfl) ?_
    refine va_mabs hx hb (hml.trans hl.1.symm) hown (hg _ m_548) (hg _ m_549) (hg _ m_14) (hg _ m_550) (Nat.le_of_ble_eq_true rfl) (Nat.le_of_ble_eq_true rfl) (Nat.le_of_ble_eq_true rfl) (Nat.le_of_ble_eq_true rfl) d_Wr_lengthOfConstant_10 ?_
    obtain ⟨hk0, hk⟩ := hk
    refine zz_callV (va_runS (As := [.int (if 0 ≤ x0 then x0 else 0 - x0)]) (rest := [.int s0]) ⟨hx, hb, hml, hown, hg⟩ (c_Wr_digitsOf l D ty h px σ (if 0 ≤ x0 then x0 else 0 - x0) hk0) ⟨callB_of 1 hg (gw_C m_553) rfl rfl rfl (hg _ m_6) (hg _ m_551) hd_Wr_digitsOf ⟨Nat.le_of_ble_eq_true rfl, Nat.le_of_ble_eq_true rfl⟩, hg _ m_552⟩ (zz_preS hN hK hP) rfl rfl hl.1 rfl (lv_room (Nat.le_of_ble_eq_true rfl)) d_Wr_lengthOfConstant_13 ⟨Nat.le_of_ble_eq_true rfl, Nat.le_of_ble_eq_true rfl⟩) ?_
    refine lv_iadd hx hb d_Wr_lengthOfConstant_16 ?_
    refine lv_istore_n (lv' := [(2, .int (s0 + (f_Wr_digitsOf (if 0 ≤ x0 then x0 else 0 - x0) σ))), (0, .int x0), (1, .int x1)]) hx hb d_Wr_lengthOfConstant_17 rfl hl (by decide) rfl (fun ls hl => ?_)
    exact B18 _ x1 (s0 + (f_Wr_digitsOf (if 0 ≤ x0 then x0 else 0 - x0) σ)) hv hk (lv_sub hl [2, 0] rfl)
  unfold f_Wr_lengthOfConstant at hv
  unfold k_Wr_lengthOfConstant at hk
  refine lv_iload_n hx hb d_Wr_lengthOfConstant_0 rfl (lv_at hl 0 rfl) ?_
  refine lv_if_ge (tgt := 8) hx hb d_Wr_lengthOfConstant_1 (by decide) (fun hc => ?_) (fun hc => ?_)
  · have hv := hv.trans (if_pos hc)
    have hk := hk.1 hc
    refine lv_iconst (v := 0) hx hb d_Wr_lengthOfConstant_8 (by decide) ?_
    exact B9 _ a0 a1 0 hv hk (lv_sub hl [0, 1] rfl)
  · have hv := hv.trans (if_neg hc)
    have hk := hk.2 hc
    refine lv_iconst (v := 1) hx hb d_Wr_lengthOfConstant_4 (by decide) ?_
    refine lv_goto (tgt := 9) hx hb d_Wr_lengthOfConstant_5 (by decide) ?_
    exact B9 _ a0 a1 1 hv hk (lv_sub hl [0, 1] rfl)

-- ClauseLedger$Terms.makeConstant(II)I
abbrev b_Te_makeConstant : ByteArray := prog_11_method_20_code
def y_Te_makeConstant : MethodName := ⟨"ClauseLedger$Terms", "makeConstant", "(II)I"⟩
theorem hd_Te_makeConstant : y_Te_makeConstant.cls ≠ "java/lang/invoke/MethodHandle" ∧ y_Te_makeConstant.cls ≠ "java/lang/invoke/VarHandle" ∧ (parseMethodDescriptor y_Te_makeConstant.desc).map (fun d => d.parameters.length) = some 2 := by decide +kernel
theorem d_Te_makeConstant_0 : decode b_Te_makeConstant 0 = .ok (.iconst 2, 1) := by decide +kernel
theorem d_Te_makeConstant_1 : decode b_Te_makeConstant 1 = .ok (.iconst (-1), 1) := by decide +kernel
theorem d_Te_makeConstant_2 : decode b_Te_makeConstant 2 = .ok (.iload_n 1, 1) := by decide +kernel
theorem d_Te_makeConstant_3 : decode b_Te_makeConstant 3 = .ok (.iload_n 2, 1) := by decide +kernel
theorem d_Te_makeConstant_4 : decode b_Te_makeConstant 4 = .ok (.invokestatic 68, 3) := by decide +kernel
theorem d_Te_makeConstant_7 : decode b_Te_makeConstant 7 = .ok (.lstore_n 3, 1) := by decide +kernel
theorem d_Te_makeConstant_8 : decode b_Te_makeConstant 8 = .ok (.aload_n 0, 1) := by decide +kernel
theorem d_Te_makeConstant_9 : decode b_Te_makeConstant 9 = .ok (.lload_n 3, 1) := by decide +kernel
theorem d_Te_makeConstant_10 : decode b_Te_makeConstant 10 = .ok (.iconst 0, 1) := by decide +kernel
theorem d_Te_makeConstant_11 : decode b_Te_makeConstant 11 = .ok (.invokevirtual 78, 3) := by decide +kernel
theorem d_Te_makeConstant_14 : decode b_Te_makeConstant 14 = .ok (.istore 5, 2) := by decide +kernel
theorem d_Te_makeConstant_16 : decode b_Te_makeConstant 16 = .ok (.iload 5, 2) := by decide +kernel
theorem d_Te_makeConstant_18 : decode b_Te_makeConstant 18 = .ok (.iconst (-1), 1) := by decide +kernel
theorem d_Te_makeConstant_19 : decode b_Te_makeConstant 19 = .ok (.if_icmp .eq 6, 3) := by decide +kernel
theorem d_Te_makeConstant_22 : decode b_Te_makeConstant 22 = .ok (.iload 5, 2) := by decide +kernel
theorem d_Te_makeConstant_24 : decode b_Te_makeConstant 24 = .ok (.ireturn, 1) := by decide +kernel
theorem d_Te_makeConstant_25 : decode b_Te_makeConstant 25 = .ok (.aload_n 0, 1) := by decide +kernel
theorem d_Te_makeConstant_26 : decode b_Te_makeConstant 26 = .ok (.lload_n 3, 1) := by decide +kernel
theorem d_Te_makeConstant_27 : decode b_Te_makeConstant 27 = .ok (.iconst 2, 1) := by decide +kernel
theorem d_Te_makeConstant_28 : decode b_Te_makeConstant 28 = .ok (.iconst 1, 1) := by decide +kernel
theorem d_Te_makeConstant_29 : decode b_Te_makeConstant 29 = .ok (.iconst (-1), 1) := by decide +kernel
theorem d_Te_makeConstant_30 : decode b_Te_makeConstant 30 = .ok (.invokevirtual 82, 3) := by decide +kernel
theorem d_Te_makeConstant_33 : decode b_Te_makeConstant 33 = .ok (.istore 6, 2) := by decide +kernel
theorem d_Te_makeConstant_35 : decode b_Te_makeConstant 35 = .ok (.aload_n 0, 1) := by decide +kernel
theorem d_Te_makeConstant_36 : decode b_Te_makeConstant 36 = .ok (.getfield 21, 3) := by decide +kernel
theorem d_Te_makeConstant_39 : decode b_Te_makeConstant 39 = .ok (.iload 6, 2) := by decide +kernel
theorem d_Te_makeConstant_41 : decode b_Te_makeConstant 41 = .ok (.iconst (-1), 1) := by decide +kernel
theorem d_Te_makeConstant_42 : decode b_Te_makeConstant 42 = .ok (.iastore, 1) := by decide +kernel
theorem d_Te_makeConstant_43 : decode b_Te_makeConstant 43 = .ok (.aload_n 0, 1) := by decide +kernel
theorem d_Te_makeConstant_44 : decode b_Te_makeConstant 44 = .ok (.getfield 24, 3) := by decide +kernel
theorem d_Te_makeConstant_47 : decode b_Te_makeConstant 47 = .ok (.iload 6, 2) := by decide +kernel
theorem d_Te_makeConstant_49 : decode b_Te_makeConstant 49 = .ok (.iconst (-1), 1) := by decide +kernel
theorem d_Te_makeConstant_50 : decode b_Te_makeConstant 50 = .ok (.iastore, 1) := by decide +kernel
theorem d_Te_makeConstant_51 : decode b_Te_makeConstant 51 = .ok (.aload_n 0, 1) := by decide +kernel
theorem d_Te_makeConstant_52 : decode b_Te_makeConstant 52 = .ok (.getfield 27, 3) := by decide +kernel
theorem d_Te_makeConstant_55 : decode b_Te_makeConstant 55 = .ok (.iload 6, 2) := by decide +kernel
theorem d_Te_makeConstant_57 : decode b_Te_makeConstant 57 = .ok (.iload_n 1, 1) := by decide +kernel
theorem d_Te_makeConstant_58 : decode b_Te_makeConstant 58 = .ok (.iastore, 1) := by decide +kernel
theorem d_Te_makeConstant_59 : decode b_Te_makeConstant 59 = .ok (.aload_n 0, 1) := by decide +kernel
theorem d_Te_makeConstant_60 : decode b_Te_makeConstant 60 = .ok (.getfield 30, 3) := by decide +kernel
theorem d_Te_makeConstant_63 : decode b_Te_makeConstant 63 = .ok (.iload 6, 2) := by decide +kernel
theorem d_Te_makeConstant_65 : decode b_Te_makeConstant 65 = .ok (.iload_n 2, 1) := by decide +kernel
theorem d_Te_makeConstant_66 : decode b_Te_makeConstant 66 = .ok (.iastore, 1) := by decide +kernel
theorem d_Te_makeConstant_67 : decode b_Te_makeConstant 67 = .ok (.aload_n 0, 1) := by decide +kernel
theorem d_Te_makeConstant_68 : decode b_Te_makeConstant 68 = .ok (.getfield 33, 3) := by decide +kernel
theorem d_Te_makeConstant_71 : decode b_Te_makeConstant 71 = .ok (.iload 6, 2) := by decide +kernel
theorem d_Te_makeConstant_73 : decode b_Te_makeConstant 73 = .ok (.iconst 1, 1) := by decide +kernel
theorem d_Te_makeConstant_74 : decode b_Te_makeConstant 74 = .ok (.iastore, 1) := by decide +kernel
theorem d_Te_makeConstant_75 : decode b_Te_makeConstant 75 = .ok (.aload_n 0, 1) := by decide +kernel
theorem d_Te_makeConstant_76 : decode b_Te_makeConstant 76 = .ok (.getfield 36, 3) := by decide +kernel
theorem d_Te_makeConstant_79 : decode b_Te_makeConstant 79 = .ok (.iload 6, 2) := by decide +kernel
theorem d_Te_makeConstant_81 : decode b_Te_makeConstant 81 = .ok (.iload_n 1, 1) := by decide +kernel
theorem d_Te_makeConstant_82 : decode b_Te_makeConstant 82 = .ok (.iload_n 2, 1) := by decide +kernel
theorem d_Te_makeConstant_83 : decode b_Te_makeConstant 83 = .ok (.invokestatic 102, 3) := by decide +kernel
theorem d_Te_makeConstant_86 : decode b_Te_makeConstant 86 = .ok (.iastore, 1) := by decide +kernel
theorem d_Te_makeConstant_87 : decode b_Te_makeConstant 87 = .ok (.aload_n 0, 1) := by decide +kernel
theorem d_Te_makeConstant_88 : decode b_Te_makeConstant 88 = .ok (.getfield 39, 3) := by decide +kernel
theorem d_Te_makeConstant_91 : decode b_Te_makeConstant 91 = .ok (.iload 6, 2) := by decide +kernel
theorem d_Te_makeConstant_93 : decode b_Te_makeConstant 93 = .ok (.iconst 0, 1) := by decide +kernel
theorem d_Te_makeConstant_94 : decode b_Te_makeConstant 94 = .ok (.iastore, 1) := by decide +kernel
theorem d_Te_makeConstant_95 : decode b_Te_makeConstant 95 = .ok (.iload 6, 2) := by decide +kernel
theorem d_Te_makeConstant_97 : decode b_Te_makeConstant 97 = .ok (.ireturn, 1) := by decide +kernel
def f_Te_makeConstant_95 (x6 : Int32) (σ : St) : Int32 × St := (x6, σ)
def k_Te_makeConstant_95 (x6 : Int32) (σ : St) : Prop := True
def f_Te_makeConstant_87 (x6 : Int32) (σ : St) : Int32 × St := f_Te_makeConstant_95 x6 (sA σ 16 x6 0)
def k_Te_makeConstant_87 (x6 : Int32) (σ : St) : Prop := vp_in x6 208 ∧ (k_Te_makeConstant_95 x6 (sA σ 16 x6 0))
def f_Te_makeConstant_75 (x1 : Int32) (x2 : Int32) (x6 : Int32) (σ : St) : Int32 × St := f_Te_makeConstant_87 x6 (sA σ 15 x6 (f_Wr_lengthOfConstant x1 x2 σ))
def k_Te_makeConstant_75 (x1 : Int32) (x2 : Int32) (x6 : Int32) (σ : St) : Prop := (k_Wr_lengthOfConstant x1 x2 σ) ∧ (vp_in x6 208 ∧ (k_Te_makeConstant_87 x6 (sA σ 15 x6 (f_Wr_lengthOfConstant x1 x2 σ))))
def f_Te_makeConstant_67 (x1 : Int32) (x2 : Int32) (x6 : Int32) (σ : St) : Int32 × St := f_Te_makeConstant_75 x1 x2 x6 (sA σ 14 x6 1)
def k_Te_makeConstant_67 (x1 : Int32) (x2 : Int32) (x6 : Int32) (σ : St) : Prop := vp_in x6 208 ∧ (k_Te_makeConstant_75 x1 x2 x6 (sA σ 14 x6 1))
def f_Te_makeConstant_59 (x1 : Int32) (x2 : Int32) (x6 : Int32) (σ : St) : Int32 × St := f_Te_makeConstant_67 x1 x2 x6 (sA σ 13 x6 x2)
def k_Te_makeConstant_59 (x1 : Int32) (x2 : Int32) (x6 : Int32) (σ : St) : Prop := vp_in x6 208 ∧ (k_Te_makeConstant_67 x1 x2 x6 (sA σ 13 x6 x2))
def f_Te_makeConstant_51 (x1 : Int32) (x2 : Int32) (x6 : Int32) (σ : St) : Int32 × St := f_Te_makeConstant_59 x1 x2 x6 (sA σ 12 x6 x1)
def k_Te_makeConstant_51 (x1 : Int32) (x2 : Int32) (x6 : Int32) (σ : St) : Prop := vp_in x6 208 ∧ (k_Te_makeConstant_59 x1 x2 x6 (sA σ 12 x6 x1))
def f_Te_makeConstant_43 (x1 : Int32) (x2 : Int32) (x6 : Int32) (σ : St) : Int32 × St := f_Te_makeConstant_51 x1 x2 x6 (sA σ 11 x6 (-1))
def k_Te_makeConstant_43 (x1 : Int32) (x2 : Int32) (x6 : Int32) (σ : St) : Prop := vp_in x6 208 ∧ (k_Te_makeConstant_51 x1 x2 x6 (sA σ 11 x6 (-1)))
def f_Te_makeConstant_35 (x1 : Int32) (x2 : Int32) (x6 : Int32) (σ : St) : Int32 × St := f_Te_makeConstant_43 x1 x2 x6 (sA σ 10 x6 (-1))
def k_Te_makeConstant_35 (x1 : Int32) (x2 : Int32) (x6 : Int32) (σ : St) : Prop := vp_in x6 208 ∧ (k_Te_makeConstant_43 x1 x2 x6 (sA σ 10 x6 (-1)))
def f_Te_makeConstant_33 (x1 : Int32) (x2 : Int32) (s0 : Int32) (σ : St) : Int32 × St := f_Te_makeConstant_35 x1 x2 s0 σ
def k_Te_makeConstant_33 (x1 : Int32) (x2 : Int32) (s0 : Int32) (σ : St) : Prop := k_Te_makeConstant_35 x1 x2 s0 σ
def f_Te_makeConstant_16 (x1 : Int32) (x2 : Int32) (x3 : Int64) (x5 : Int32) (σ : St) : Int32 × St := if x5 = (-1) then (f_Te_makeConstant_33 x1 x2 ((f_Te_append x3 2 1 (-1) σ).1) ((f_Te_append x3 2 1 (-1) σ).2)) else (x5, σ)
def k_Te_makeConstant_16 (x1 : Int32) (x2 : Int32) (x3 : Int64) (x5 : Int32) (σ : St) : Prop := (x5 = (-1) → ((k_Te_append x3 2 1 (-1) σ) ∧ (k_Te_makeConstant_33 x1 x2 ((f_Te_append x3 2 1 (-1) σ).1) ((f_Te_append x3 2 1 (-1) σ).2)))) ∧ (¬ x5 = (-1) → True)
def f_Te_makeConstant_8 (x1 : Int32) (x2 : Int32) (x3 : Int64) (σ : St) : Int32 × St := f_Te_makeConstant_16 x1 x2 x3 (f_Te_find x3 0 σ) σ
def k_Te_makeConstant_8 (x1 : Int32) (x2 : Int32) (x3 : Int64) (σ : St) : Prop := (k_Te_find x3 0 σ) ∧ (k_Te_makeConstant_16 x1 x2 x3 (f_Te_find x3 0 σ) σ)
def f_Te_makeConstant (a1 : Int32) (a2 : Int32) (σ : St) : Int32 × St := f_Te_makeConstant_8 a1 a2 (f_Te_keyOf 2 (-1) a1 a2 σ) σ
def k_Te_makeConstant (a1 : Int32) (a2 : Int32) (σ : St) : Prop := (k_Te_keyOf 2 (-1) a1 a2 σ) ∧ (k_Te_makeConstant_8 a1 a2 (f_Te_keyOf 2 (-1) a1 a2 σ) σ)
abbrev w_Te_makeConstant : List Cond := Cond.code y_Te_makeConstant b_Te_makeConstant 7 (some .int) :: gw
abbrev rm_Te_makeConstant : Room := { frames := 2, cells := 0, slots := 0, locals := 47 }
set_option maxHeartbeats 4000000 in
set_option maxRecDepth 100000 in
theorem c_Te_makeConstant (l : Launch) (D : va_G) (ty : Nat → ClassId) (h : Nat → Nat) (px : va_W) (σ : St) (sz : Nat) (a1 : Int32) (a2 : Int32) (hk : k_Te_makeConstant a1 a2 σ) : Met l y_Te_makeConstant w_Te_makeConstant rm_Te_makeConstant (va_Pc [.ref (h 6), .int a1, .int a2] (fun U => U.heap.size = sz ∧ va_P D classes (Wc ty h σ px) U.heap ∧ va_K D classes (Ta ty) U ∧ NW U ∧ va_D (fun _ => True) (Wc ty h σ px))) (va_Qi (fun r (u : St) => (r, u) = f_Te_makeConstant a1 a2 σ) (fun u t => va_P D classes (Wc ty h u px) t.heap) (va_A (Wc ty h σ px) sz)) 0 0 (va_A (Wc ty h σ px) sz) := by
  refine Met.ofW (cc := b_Te_makeConstant) (maxL := 7) (ret := (some .int)) (by decide) rfl ?_
  intro p e s m args below meth c s₁ B hml hv
  obtain ⟨ha, hsz, hP, hK, hN, hD0⟩ := hv
  have hx := B.exec
  have hb := B.bytes
  have hr := B.returns
  have hg : ∀ w ∈ gw, w.before args s = true := fun w h9 => atoms_spec (ws := w_Te_makeConstant) B.pre w (List.mem_cons_of_mem _ h9)
  have hown : s.vm.findClass "ClauseLedger$Terms" = some m.cls := findClass_of_methodNamed B.named
  have hlocks := B.notSynchronized
  subst hsz
  have hD := hD0.self (sz := s.heap.size)
  generalize hAe : va_A (Wc ty h σ px) s.heap.size = A at hD ⊢
  have hA : ∀ q : Nat, s.heap.size ≤ q → A q := fun q h9 => by rw [← hAe]; exact Or.inr h9
  have hS : va_S A s.heap s.heap [] := va_S.rf
  have he : entryFrame m args 7 = entryFrame m ([.ref (h 6), .int a1, .int a2] : List Value).toArray 7 := by rw [ha]
  rw [he, lg_entry_eq]
  have hl := lv_entry ([.ref (h 6), .int a1, .int a2]) (n := 7) (Nat.le_of_ble_eq_true rfl)
  generalize (lg_sl ([.ref (h 6), .int a1, .int a2]) ++ List.replicate (7 - (lg_sl ([.ref (h 6), .int a1, .int a2])).length) Slot.unset).toArray = ls at hl ⊢
  have hl : lv_has ls 7 [(0, .ref (h 6)), (1, .int a1), (2, .int a2)] := hl
  generalize hv : f_Te_makeConstant a1 a2 σ = v
  replace hv := hv.symm
  have B95 : ∀ (H : Heap) (locs : List Loc) (ls : Array Slot) (x6 : Int32) (σ : St), v = f_Te_makeConstant_95 x6 σ → k_Te_makeConstant_95 x6 σ → lv_has ls 7 [(6, .int x6)] → va_P D classes (Wc ty h σ px) H → va_D A (Wc ty h σ px) → va_S A s.heap H locs → W p l e (headSpec w_Te_makeConstant rm_Te_makeConstant).room s m args below meth c H locs 0 0 (MQ below (va_Qi (fun r (u : St) => (r, u) = v) (fun u t => va_P D classes (Wc ty h u px) t.heap) A) args s 0 0 A) (F0 m 95 ls []) := by
    intro H locs ls x6 σ hv hk hl hP hD hS
    unfold f_Te_makeConstant_95 at hv
    unfold k_Te_makeConstant_95 at hk
    refine lv_iload hx hb d_Te_makeConstant_95 (lv_at hl 0 rfl) ?_
    exact W.iret hx hb hr (fun t ht hW => ⟨⟨_, _, rfl, hv.symm, by dsimp only; rw [ht]; exact hP⟩, hS.F ht⟩) hS.2.2 d_Te_makeConstant_97
  have B87 : ∀ (H : Heap) (locs : List Loc) (ls : Array Slot) (x6 : Int32) (σ : St), v = f_Te_makeConstant_87 x6 σ → k_Te_makeConstant_87 x6 σ → lv_has ls 7 [(0, .ref (h 6)), (6, .int x6)] → va_P D classes (Wc ty h σ px) H → va_D A (Wc ty h σ px) → va_S A s.heap H locs → W p l e (headSpec w_Te_makeConstant rm_Te_makeConstant).room s m args below meth c H locs 0 0 (MQ below (va_Qi (fun r (u : St) => (r, u) = v) (fun u t => va_P D classes (Wc ty h u px) t.heap) A) args s 0 0 A) (F0 m 87 ls []) := by
    intro H locs ls x6 σ hv hk hl hP hD hS
    unfold f_Te_makeConstant_87 at hv
    unfold k_Te_makeConstant_87 at hk
    refine lv_aload_n hx hb d_Te_makeConstant_87 rfl (lv_at hl 0 rfl) ?_
    refine va_get (v := .ref (h 16)) (C := R_Te) (T := T_Te) (N := 14) hx hb hg in_Te hown hK hP 6 rfl rfl 9 (by decide) (hg _ m_78) (fun _ h9 => h9) rfl d_Te_makeConstant_88 ?_
    refine lv_iload hx hb d_Te_makeConstant_91 (lv_at hl 1 rfl) ?_
    refine lv_iconst (v := 0) hx hb d_Te_makeConstant_93 (by decide) ?_
    obtain ⟨hk0, hk⟩ := hk
    refine va_iast hx hb hK hP hD hS 16 0 rfl rfl hk0 d_Te_makeConstant_94 (fun H locs hP hD hS => ?_)
    have hP : va_P D classes (Wc ty h (sA σ 16 x6 0) px) H := hP
    have hD : va_D A (Wc ty h (sA σ 16 x6 0) px) := hD
    exact B95 _ _ _ x6 (sA σ 16 x6 0) hv hk (lv_sub hl [1] rfl) hP hD hS
  have B75 : ∀ (H : Heap) (locs : List Loc) (ls : Array Slot) (x1 : Int32) (x2 : Int32) (x6 : Int32) (σ : St), v = f_Te_makeConstant_75 x1 x2 x6 σ → k_Te_makeConstant_75 x1 x2 x6 σ → lv_has ls 7 [(0, .ref (h 6)), (1, .int x1), (2, .int x2), (6, .int x6)] → va_P D classes (Wc ty h σ px) H → va_D A (Wc ty h σ px) → va_S A s.heap H locs → W p l e (headSpec w_Te_makeConstant rm_Te_makeConstant).room s m args below meth c H locs 0 0 (MQ below (va_Qi (fun r (u : St) => (r, u) = v) (fun u t => va_P D classes (Wc ty h u px) t.heap) A) args s 0 0 A) (F0 m 75 ls []) := by
    intro H locs ls x1 x2 x6 σ hv hk hl hP hD hS
    unfold f_Te_makeConstant_75 at hv
    unfold k_Te_makeConstant_75 at hk
    refine lv_aload_n hx hb d_Te_makeConstant_75 rfl (lv_at hl 0 rfl) ?_
    refine va_get (v := .ref (h 15)) (C := R_Te) (T := T_Te) (N := 14) hx hb hg in_Te hown hK hP 6 rfl rfl 8 (by decide) (hg _ m_77) (fun _ h9 => h9) rfl d_Te_makeConstant_76 ?_
    refine lv_iload hx hb d_Te_makeConstant_79 (lv_at hl 3 rfl) ?_
    refine lv_iload_n hx hb d_Te_makeConstant_81 rfl (lv_at hl 1 rfl) ?_
    refine lv_iload_n hx hb d_Te_makeConstant_82 rfl (lv_at hl 2 rfl) ?_
    obtain ⟨hk0, hk⟩ := hk
    refine zz_callV (va_runS (As := [.int x1, .int x2]) (rest := [.int x6, .ref (h 15)]) ⟨hx, hb, hml, hown, hg⟩ (c_Wr_lengthOfConstant l D ty h px σ x1 x2 hk0) ⟨callB_of 2 hg (gw_C m_762) rfl rfl rfl (hg _ m_6) (hg _ m_760) hd_Wr_lengthOfConstant ⟨Nat.le_of_ble_eq_true rfl, Nat.le_of_ble_eq_true rfl⟩, hg _ m_761⟩ (zz_preS hN hK hP) rfl rfl hl.1 rfl (lv_room (Nat.le_of_ble_eq_true rfl)) d_Te_makeConstant_83 ⟨Nat.le_of_ble_eq_true rfl, Nat.le_of_ble_eq_true rfl⟩) ?_
    obtain ⟨hk0, hk⟩ := hk
    refine va_iast hx hb hK hP hD hS 15 0 rfl rfl hk0 d_Te_makeConstant_86 (fun H locs hP hD hS => ?_)
    have hP : va_P D classes (Wc ty h (sA σ 15 x6 (f_Wr_lengthOfConstant x1 x2 σ)) px) H := hP
    have hD : va_D A (Wc ty h (sA σ 15 x6 (f_Wr_lengthOfConstant x1 x2 σ)) px) := hD
    exact B87 _ _ _ x6 (sA σ 15 x6 (f_Wr_lengthOfConstant x1 x2 σ)) hv hk (lv_sub hl [0, 3] rfl) hP hD hS
  have B67 : ∀ (H : Heap) (locs : List Loc) (ls : Array Slot) (x1 : Int32) (x2 : Int32) (x6 : Int32) (σ : St), v = f_Te_makeConstant_67 x1 x2 x6 σ → k_Te_makeConstant_67 x1 x2 x6 σ → lv_has ls 7 [(0, .ref (h 6)), (1, .int x1), (2, .int x2), (6, .int x6)] → va_P D classes (Wc ty h σ px) H → va_D A (Wc ty h σ px) → va_S A s.heap H locs → W p l e (headSpec w_Te_makeConstant rm_Te_makeConstant).room s m args below meth c H locs 0 0 (MQ below (va_Qi (fun r (u : St) => (r, u) = v) (fun u t => va_P D classes (Wc ty h u px) t.heap) A) args s 0 0 A) (F0 m 67 ls []) := by
    intro H locs ls x1 x2 x6 σ hv hk hl hP hD hS
    unfold f_Te_makeConstant_67 at hv
    unfold k_Te_makeConstant_67 at hk
    refine lv_aload_n hx hb d_Te_makeConstant_67 rfl (lv_at hl 0 rfl) ?_
    refine va_get (v := .ref (h 14)) (C := R_Te) (T := T_Te) (N := 14) hx hb hg in_Te hown hK hP 6 rfl rfl 7 (by decide) (hg _ m_76) (fun _ h9 => h9) rfl d_Te_makeConstant_68 ?_
    refine lv_iload hx hb d_Te_makeConstant_71 (lv_at hl 3 rfl) ?_
    refine lv_iconst (v := 1) hx hb d_Te_makeConstant_73 (by decide) ?_
    obtain ⟨hk0, hk⟩ := hk
    refine va_iast hx hb hK hP hD hS 14 0 rfl rfl hk0 d_Te_makeConstant_74 (fun H locs hP hD hS => ?_)
    have hP : va_P D classes (Wc ty h (sA σ 14 x6 1) px) H := hP
    have hD : va_D A (Wc ty h (sA σ 14 x6 1) px) := hD
    exact B75 _ _ _ x1 x2 x6 (sA σ 14 x6 1) hv hk (lv_sub hl [0, 1, 2, 3] rfl) hP hD hS
  have B59 : ∀ (H : Heap) (locs : List Loc) (ls : Array Slot) (x1 : Int32) (x2 : Int32) (x6 : Int32) (σ : St), v = f_Te_makeConstant_59 x1 x2 x6 σ → k_Te_makeConstant_59 x1 x2 x6 σ → lv_has ls 7 [(0, .ref (h 6)), (1, .int x1), (2, .int x2), (6, .int x6)] → va_P D classes (Wc ty h σ px) H → va_D A (Wc ty h σ px) → va_S A s.heap H locs → W p l e (headSpec w_Te_makeConstant rm_Te_makeConstant).room s m args below meth c H locs 0 0 (MQ below (va_Qi (fun r (u : St) => (r, u) = v) (fun u t => va_P D classes (Wc ty h u px) t.heap) A) args s 0 0 A) (F0 m 59 ls []) := by
    intro H locs ls x1 x2 x6 σ hv hk hl hP hD hS
    unfold f_Te_makeConstant_59 at hv
    unfold k_Te_makeConstant_59 at hk
    refine lv_aload_n hx hb d_Te_makeConstant_59 rfl (lv_at hl 0 rfl) ?_
    refine va_get (v := .ref (h 13)) (C := R_Te) (T := T_Te) (N := 14) hx hb hg in_Te hown hK hP 6 rfl rfl 6 (by decide) (hg _ m_75) (fun _ h9 => h9) rfl d_Te_makeConstant_60 ?_
    refine lv_iload hx hb d_Te_makeConstant_63 (lv_at hl 3 rfl) ?_
    refine lv_iload_n hx hb d_Te_makeConstant_65 rfl (lv_at hl 2 rfl) ?_
    obtain ⟨hk0, hk⟩ := hk
    refine va_iast hx hb hK hP hD hS 13 0 rfl rfl hk0 d_Te_makeConstant_66 (fun H locs hP hD hS => ?_)
    have hP : va_P D classes (Wc ty h (sA σ 13 x6 x2) px) H := hP
    have hD : va_D A (Wc ty h (sA σ 13 x6 x2) px) := hD
    exact B67 _ _ _ x1 x2 x6 (sA σ 13 x6 x2) hv hk (lv_sub hl [0, 1, 2, 3] rfl) hP hD hS
  have B51 : ∀ (H : Heap) (locs : List Loc) (ls : Array Slot) (x1 : Int32) (x2 : Int32) (x6 : Int32) (σ : St), v = f_Te_makeConstant_51 x1 x2 x6 σ → k_Te_makeConstant_51 x1 x2 x6 σ → lv_has ls 7 [(0, .ref (h 6)), (1, .int x1), (2, .int x2), (6, .int x6)] → va_P D classes (Wc ty h σ px) H → va_D A (Wc ty h σ px) → va_S A s.heap H locs → W p l e (headSpec w_Te_makeConstant rm_Te_makeConstant).room s m args below meth c H locs 0 0 (MQ below (va_Qi (fun r (u : St) => (r, u) = v) (fun u t => va_P D classes (Wc ty h u px) t.heap) A) args s 0 0 A) (F0 m 51 ls []) := by
    intro H locs ls x1 x2 x6 σ hv hk hl hP hD hS
    unfold f_Te_makeConstant_51 at hv
    unfold k_Te_makeConstant_51 at hk
    refine lv_aload_n hx hb d_Te_makeConstant_51 rfl (lv_at hl 0 rfl) ?_
    refine va_get (v := .ref (h 12)) (C := R_Te) (T := T_Te) (N := 14) hx hb hg in_Te hown hK hP 6 rfl rfl 5 (by decide) (hg _ m_74) (fun _ h9 => h9) rfl d_Te_makeConstant_52 ?_
    refine lv_iload hx hb d_Te_makeConstant_55 (lv_at hl 3 rfl) ?_
    refine lv_iload_n hx hb d_Te_makeConstant_57 rfl (lv_at hl 1 rfl) ?_
    obtain ⟨hk0, hk⟩ := hk
    refine va_iast hx hb hK hP hD hS 12 0 rfl rfl hk0 d_Te_makeConstant_58 (fun H locs hP hD hS => ?_)
    have hP : va_P D classes (Wc ty h (sA σ 12 x6 x1) px) H := hP
    have hD : va_D A (Wc ty h (sA σ 12 x6 x1) px) := hD
    exact B59 _ _ _ x1 x2 x6 (sA σ 12 x6 x1) hv hk (lv_sub hl [0, 1, 2, 3] rfl) hP hD hS
  have B43 : ∀ (H : Heap) (locs : List Loc) (ls : Array Slot) (x1 : Int32) (x2 : Int32) (x6 : Int32) (σ : St), v = f_Te_makeConstant_43 x1 x2 x6 σ → k_Te_makeConstant_43 x1 x2 x6 σ → lv_has ls 7 [(0, .ref (h 6)), (1, .int x1), (2, .int x2), (6, .int x6)] → va_P D classes (Wc ty h σ px) H → va_D A (Wc ty h σ px) → va_S A s.heap H locs → W p l e (headSpec w_Te_makeConstant rm_Te_makeConstant).room s m args below meth c H locs 0 0 (MQ below (va_Qi (fun r (u : St) => (r, u) = v) (fun u t => va_P D classes (Wc ty h u px) t.heap) A) args s 0 0 A) (F0 m 43 ls []) := by
    intro H locs ls x1 x2 x6 σ hv hk hl hP hD hS
    unfold f_Te_makeConstant_43 at hv
    unfold k_Te_makeConstant_43 at hk
    refine lv_aload_n hx hb d_Te_makeConstant_43 rfl (lv_at hl 0 rfl) ?_
    refine va_get (v := .ref (h 11)) (C := R_Te) (T := T_Te) (N := 14) hx hb hg in_Te hown hK hP 6 rfl rfl 4 (by decide) (hg _ m_73) (fun _ h9 => h9) rfl d_Te_makeConstant_44 ?_
    refine lv_iload hx hb d_Te_makeConstant_47 (lv_at hl 3 rfl) ?_
    refine lv_iconst (v := -1) hx hb d_Te_makeConstant_49 (by decide) ?_
    obtain ⟨hk0, hk⟩ := hk
    refine va_iast hx hb hK hP hD hS 11 0 rfl rfl hk0 d_Te_makeConstant_50 (fun H locs hP hD hS => ?_)
    have hP : va_P D classes (Wc ty h (sA σ 11 x6 (-1)) px) H := hP
    have hD : va_D A (Wc ty h (sA σ 11 x6 (-1)) px) := hD
    exact B51 _ _ _ x1 x2 x6 (sA σ 11 x6 (-1)) hv hk (lv_sub hl [0, 1, 2, 3] rfl) hP hD hS
  have B35 : ∀ (H : Heap) (locs : List Loc) (ls : Array Slot) (x1 : Int32) (x2 : Int32) (x6 : Int32) (σ : St), v = f_Te_makeConstant_35 x1 x2 x6 σ → k_Te_makeConstant_35 x1 x2 x6 σ → lv_has ls 7 [(0, .ref (h 6)), (1, .int x1), (2, .int x2), (6, .int x6)] → va_P D classes (Wc ty h σ px) H → va_D A (Wc ty h σ px) → va_S A s.heap H locs → W p l e (headSpec w_Te_makeConstant rm_Te_makeConstant).room s m args below meth c H locs 0 0 (MQ below (va_Qi (fun r (u : St) => (r, u) = v) (fun u t => va_P D classes (Wc ty h u px) t.heap) A) args s 0 0 A) (F0 m 35 ls []) := by
    intro H locs ls x1 x2 x6 σ hv hk hl hP hD hS
    unfold f_Te_makeConstant_35 at hv
    unfold k_Te_makeConstant_35 at hk
    refine lv_aload_n hx hb d_Te_makeConstant_35 rfl (lv_at hl 0 rfl) ?_
    refine va_get (v := .ref (h 10)) (C := R_Te) (T := T_Te) (N := 14) hx hb hg in_Te hown hK hP 6 rfl rfl 3 (by decide) (hg _ m_72) (fun _ h9 => h9) rfl d_Te_makeConstant_36 ?_
    refine lv_iload hx hb d_Te_makeConstant_39 (lv_at hl 3 rfl) ?_
    refine lv_iconst (v := -1) hx hb d_Te_makeConstant_41 (by decide) ?_
    obtain ⟨hk0, hk⟩ := hk
    refine va_iast hx hb hK hP hD hS 10 0 rfl rfl hk0 d_Te_makeConstant_42 (fun H locs hP hD hS => ?_)
    have hP : va_P D classes (Wc ty h (sA σ 10 x6 (-1)) px) H := hP
    have hD : va_D A (Wc ty h (sA σ 10 x6 (-1)) px) := hD
    exact B43 _ _ _ x1 x2 x6 (sA σ 10 x6 (-1)) hv hk (lv_sub hl [0, 1, 2, 3] rfl) hP hD hS
  have B33 : ∀ (H : Heap) (locs : List Loc) (ls : Array Slot) (x1 : Int32) (x2 : Int32) (s0 : Int32) (σ : St), v = f_Te_makeConstant_33 x1 x2 s0 σ → k_Te_makeConstant_33 x1 x2 s0 σ → lv_has ls 7 [(0, .ref (h 6)), (1, .int x1), (2, .int x2)] → va_P D classes (Wc ty h σ px) H → va_D A (Wc ty h σ px) → va_S A s.heap H locs → W p l e (headSpec w_Te_makeConstant rm_Te_makeConstant).room s m args below meth c H locs 0 0 (MQ below (va_Qi (fun r (u : St) => (r, u) = v) (fun u t => va_P D classes (Wc ty h u px) t.heap) A) args s 0 0 A) (F0 m 33 ls [.int s0]) := by
    intro H locs ls x1 x2 s0 σ hv hk hl hP hD hS
    unfold f_Te_makeConstant_33 at hv
    unfold k_Te_makeConstant_33 at hk
    refine lv_istore (lv' := [(6, .int s0), (0, .ref (h 6)), (1, .int x1), (2, .int x2)]) hx hb d_Te_makeConstant_33 hl (by decide) rfl (fun ls hl => ?_)
    exact B35 _ _ _ x1 x2 s0 σ hv hk (lv_sub hl [1, 2, 3, 0] rfl) hP hD hS
  have B16 : ∀ (H : Heap) (locs : List Loc) (ls : Array Slot) (x1 : Int32) (x2 : Int32) (x3 : Int64) (x5 : Int32) (σ : St), v = f_Te_makeConstant_16 x1 x2 x3 x5 σ → k_Te_makeConstant_16 x1 x2 x3 x5 σ → lv_has ls 7 [(0, .ref (h 6)), (1, .int x1), (2, .int x2), (3, .long x3), (5, .int x5)] → va_P D classes (Wc ty h σ px) H → va_D A (Wc ty h σ px) → va_S A s.heap H locs → W p l e (headSpec w_Te_makeConstant rm_Te_makeConstant).room s m args below meth c H locs 0 0 (MQ below (va_Qi (fun r (u : St) => (r, u) = v) (fun u t => va_P D classes (Wc ty h u px) t.heap) A) args s 0 0 A) (F0 m 16 ls []) := by
    intro H locs ls x1 x2 x3 x5 σ hv hk hl hP hD hS
    unfold f_Te_makeConstant_16 at hv
    unfold k_Te_makeConstant_16 at hk
    refine lv_iload hx hb d_Te_makeConstant_16 (lv_at hl 4 rfl) ?_
    refine lv_iconst (v := -1) hx hb d_Te_makeConstant_18 (by decide) ?_
    refine lv_icmp_eq (tgt := 25) hx hb d_Te_makeConstant_19 (by decide) (fun hc => ?_) (fun hc => ?_)
    · have hv := hv.trans (if_pos hc)
      have hk := hk.1 hc
      refine lv_aload_n hx hb d_Te_makeConstant_25 rfl (lv_at hl 0 rfl) ?_
      refine lv_lload_n hx hb d_Te_makeConstant_26 rfl (lv_at hl 3 rfl) ?_
      refine lv_iconst (v := 2) hx hb d_Te_makeConstant_27 (by decide) ?_
      refine lv_iconst (v := 1) hx hb d_Te_makeConstant_28 (by decide) ?_
      refine lv_iconst (v := -1) hx hb d_Te_makeConstant_29 (by decide) ?_
      obtain ⟨hk0, hk⟩ := hk
      refine va_calli (va_runV (As := [.long x3, .int 2, .int 1, .int (-1)]) (rest := []) ⟨hx, hb, hml, hown, hg⟩ (c_Te_append l D ty h px σ H.size x3 2 1 (-1) hk0) ⟨callB_of 4 hg (gw_C m_638) rfl rfl rfl (hg _ m_3) (hg _ m_635) hd_Te_append ⟨Nat.le_of_ble_eq_true rfl, Nat.le_of_ble_eq_true rfl⟩, hg _ m_637, hg _ ms_15⟩ (zz_preVW hN hK hP hD 6 rfl rfl) rfl rfl hl.1 rfl (lv_room (Nat.le_of_ble_eq_true rfl)) d_Te_makeConstant_30 ⟨Nat.le_of_ble_eq_true rfl, Nat.le_of_ble_eq_true rfl⟩) hS (fun q _ h => zz_free hD hS hA q h) (zz_free hD hS hA) (fun r30 u30 t H locs ht hvm hp hP1 hz hk1 hS => ?_)
      rw [ht] at hP1
      rw [← hp] at hv hk
      have hD : va_D A (Wc ty h u30 px) := zz_D hD rfl
      have hP := hP1
      exact B33 _ _ _ x1 x2 r30 u30 hv hk (lv_sub hl [0, 1, 2] rfl) hP hD hS
    · have hv := hv.trans (if_neg hc)
      have hk := hk.2 hc
      refine lv_iload hx hb d_Te_makeConstant_22 (lv_at hl 4 rfl) ?_
      exact W.iret hx hb hr (fun t ht hW => ⟨⟨_, _, rfl, hv.symm, by dsimp only; rw [ht]; exact hP⟩, hS.F ht⟩) hS.2.2 d_Te_makeConstant_24
  have B8 : ∀ (H : Heap) (locs : List Loc) (ls : Array Slot) (x1 : Int32) (x2 : Int32) (x3 : Int64) (σ : St), v = f_Te_makeConstant_8 x1 x2 x3 σ → k_Te_makeConstant_8 x1 x2 x3 σ → lv_has ls 7 [(0, .ref (h 6)), (1, .int x1), (2, .int x2), (3, .long x3)] → va_P D classes (Wc ty h σ px) H → va_D A (Wc ty h σ px) → va_S A s.heap H locs → W p l e (headSpec w_Te_makeConstant rm_Te_makeConstant).room s m args below meth c H locs 0 0 (MQ below (va_Qi (fun r (u : St) => (r, u) = v) (fun u t => va_P D classes (Wc ty h u px) t.heap) A) args s 0 0 A) (F0 m 8 ls []) := by
    intro H locs ls x1 x2 x3 σ hv hk hl hP hD hS
    unfold f_Te_makeConstant_8 at hv
    unfold k_Te_makeConstant_8 at hk
    refine lv_aload_n hx hb d_Te_makeConstant_8 rfl (lv_at hl 0 rfl) ?_
    refine lv_lload_n hx hb d_Te_makeConstant_9 rfl (lv_at hl 3 rfl) ?_
    refine lv_iconst (v := 0) hx hb d_Te_makeConstant_10 (by decide) ?_
    obtain ⟨hk0, hk⟩ := hk
    refine zz_callV (va_runV (As := [.long x3, .int 0]) (rest := []) ⟨hx, hb, hml, hown, hg⟩ (c_Te_find l D ty h px σ x3 0 hk0) ⟨callB_of 2 hg (gw_C m_634) rfl rfl rfl (hg _ m_3) (hg _ m_631) hd_Te_find ⟨Nat.le_of_ble_eq_true rfl, Nat.le_of_ble_eq_true rfl⟩, hg _ m_633, hg _ ms_14⟩ (zz_preV hN hK hP 6 rfl rfl) rfl rfl hl.1 rfl (lv_room (Nat.le_of_ble_eq_true rfl)) d_Te_makeConstant_11 ⟨Nat.le_of_ble_eq_true rfl, Nat.le_of_ble_eq_true rfl⟩) ?_
    refine lv_istore (lv' := [(5, .int (f_Te_find x3 0 σ)), (0, .ref (h 6)), (1, .int x1), (2, .int x2), (3, .long x3)]) hx hb d_Te_makeConstant_14 hl (by decide) rfl (fun ls hl => ?_)
    exact B16 _ _ _ x1 x2 x3 (f_Te_find x3 0 σ) σ hv hk (lv_sub hl [1, 2, 3, 4, 0] rfl) hP hD hS
  unfold f_Te_makeConstant at hv
  unfold k_Te_makeConstant at hk
  refine lv_iconst (v := 2) hx hb d_Te_makeConstant_0 (by decide) ?_
  refine lv_iconst (v := -1) hx hb d_Te_makeConstant_1 (by decide) ?_
  refine lv_iload_n hx hb d_Te_makeConstant_2 rfl (lv_at hl 1 rfl) ?_
  refine lv_iload_n hx hb d_Te_makeConstant_3 rfl (lv_at hl 2 rfl) ?_
  obtain ⟨hk0, hk⟩ := hk
  refine zz_callV (va_runS (As := [.int 2, .int (-1), .int a1, .int a2]) (rest := []) ⟨hx, hb, hml, hown, hg⟩ (c_Te_keyOf l D ty h px σ 2 (-1) a1 a2 hk0) ⟨callB_of 4 hg (gw_C m_623) rfl rfl rfl (hg _ m_3) (hg _ m_621) hd_Te_keyOf ⟨Nat.le_of_ble_eq_true rfl, Nat.le_of_ble_eq_true rfl⟩, hg _ m_622⟩ (zz_preS hN hK hP) rfl rfl hl.1 rfl (lv_room (Nat.le_of_ble_eq_true rfl)) d_Te_makeConstant_4 ⟨Nat.le_of_ble_eq_true rfl, Nat.le_of_ble_eq_true rfl⟩) ?_
  refine lv_lstore_n (lv' := [(3, .long (f_Te_keyOf 2 (-1) a1 a2 σ)), (0, .ref (h 6)), (1, .int a1), (2, .int a2)]) hx hb d_Te_makeConstant_7 rfl hl (by decide) rfl (fun ls hl => ?_)
  exact B8 _ _ _ a1 a2 (f_Te_keyOf 2 (-1) a1 a2 σ) σ hv hk (lv_sub hl [1, 2, 3, 0] rfl) hP hD hS

-- ClauseLedger$Draft.size()I
abbrev b_Dr_size : ByteArray := prog_3_method_2_code
def y_Dr_size : MethodName := ⟨"ClauseLedger$Draft", "size", "()I"⟩
theorem hd_Dr_size : y_Dr_size.cls ≠ "java/lang/invoke/MethodHandle" ∧ y_Dr_size.cls ≠ "java/lang/invoke/VarHandle" ∧ (parseMethodDescriptor y_Dr_size.desc).map (fun d => d.parameters.length) = some 0 := by decide +kernel
theorem d_Dr_size_0 : decode b_Dr_size 0 = .ok (.aload_n 0, 1) := by decide +kernel
theorem d_Dr_size_1 : decode b_Dr_size 1 = .ok (.getfield 13, 3) := by decide +kernel
theorem d_Dr_size_4 : decode b_Dr_size 4 = .ok (.ireturn, 1) := by decide +kernel
def f_Dr_size (σ : St) : Int32 := σ.1 18 1
def k_Dr_size (σ : St) : Prop := True
abbrev w_Dr_size : List Cond := Cond.code y_Dr_size b_Dr_size 1 (some .int) :: gw
abbrev rm_Dr_size : Room := { frames := 0, cells := 0, slots := 0, locals := 0 }
set_option maxHeartbeats 4000000 in
set_option maxRecDepth 100000 in
theorem c_Dr_size (l : Launch) (D : va_G) (ty : Nat → ClassId) (h : Nat → Nat) (px : va_W) (σ : St) (hk : k_Dr_size σ) : Met l y_Dr_size w_Dr_size rm_Dr_size (va_Pc [.ref (h 18)] (fun U => va_P D classes (Wc ty h σ px) U.heap ∧ va_K D classes (Ta ty) U ∧ NW U)) (k2_QcV (.int (f_Dr_size σ))) 0 0 (fun _ => False) := by
  refine Met.ofW (cc := b_Dr_size) (maxL := 1) (ret := (some .int)) (by decide) rfl ?_
  intro p e s m args below meth c s₁ B hml hv
  obtain ⟨ha, hP, hK, hN⟩ := hv
  have hx := B.exec
  have hb := B.bytes
  have hr := B.returns
  have hg : ∀ w ∈ gw, w.before args s = true := fun w h9 => atoms_spec (ws := w_Dr_size) B.pre w (List.mem_cons_of_mem _ h9)
  have hown : s.vm.findClass "ClauseLedger$Draft" = some m.cls := findClass_of_methodNamed B.named
  have hlocks := B.notSynchronized
  have he : entryFrame m args 1 = entryFrame m ([.ref (h 18)] : List Value).toArray 1 := by rw [ha]
  rw [he, lg_entry_eq]
  have hl := lv_entry ([.ref (h 18)]) (n := 1) (Nat.le_of_ble_eq_true rfl)
  generalize (lg_sl ([.ref (h 18)]) ++ List.replicate (1 - (lg_sl ([.ref (h 18)])).length) Slot.unset).toArray = ls at hl ⊢
  have hl : lv_has ls 1 [(0, .ref (h 18))] := hl
  generalize hv : f_Dr_size σ = v
  replace hv := hv.symm
  unfold f_Dr_size at hv
  unfold k_Dr_size at hk
  refine lv_aload_n hx hb d_Dr_size_0 rfl (lv_at hl 0 rfl) ?_
  refine va_get (v := .int (σ.1 18 1)) (C := R_Dr) (T := T_Dr) (N := 2) hx hb hg in_Dr hown hK hP 18 rfl rfl 1 (by decide) (hg _ m_120) (fun _ h9 => h9) rfl d_Dr_size_1 ?_
  exact W.iret hx hb hr (fun t ht hW => ⟨by rw [hv], ht⟩) (fun q h => nomatch h) d_Dr_size_4

-- ClauseLedger$Draft.wipe()V
abbrev b_Dr_wipe : ByteArray := prog_3_method_3_code
def y_Dr_wipe : MethodName := ⟨"ClauseLedger$Draft", "wipe", "()V"⟩
theorem hd_Dr_wipe : y_Dr_wipe.cls ≠ "java/lang/invoke/MethodHandle" ∧ y_Dr_wipe.cls ≠ "java/lang/invoke/VarHandle" ∧ (parseMethodDescriptor y_Dr_wipe.desc).map (fun d => d.parameters.length) = some 0 := by decide +kernel
theorem d_Dr_wipe_0 : decode b_Dr_wipe 0 = .ok (.aload_n 0, 1) := by decide +kernel
theorem d_Dr_wipe_1 : decode b_Dr_wipe 1 = .ok (.iconst 0, 1) := by decide +kernel
theorem d_Dr_wipe_2 : decode b_Dr_wipe 2 = .ok (.putfield 13, 3) := by decide +kernel
theorem d_Dr_wipe_5 : decode b_Dr_wipe 5 = .ok (.return_, 1) := by decide +kernel
def f_Dr_wipe_5 (σ : St) : St := σ
def k_Dr_wipe_5 (σ : St) : Prop := True
def f_Dr_wipe (σ : St) : St := f_Dr_wipe_5 (sF σ 18 1 0)
def k_Dr_wipe (σ : St) : Prop := k_Dr_wipe_5 (sF σ 18 1 0)
abbrev w_Dr_wipe : List Cond := Cond.code y_Dr_wipe b_Dr_wipe 1 none :: gw
abbrev rm_Dr_wipe : Room := { frames := 0, cells := 0, slots := 0, locals := 0 }
set_option maxHeartbeats 4000000 in
set_option maxRecDepth 100000 in
theorem c_Dr_wipe (l : Launch) (D : va_G) (ty : Nat → ClassId) (h : Nat → Nat) (px : va_W) (σ : St) (sz : Nat) (hk : k_Dr_wipe σ) : Met l y_Dr_wipe w_Dr_wipe rm_Dr_wipe (va_Pc [.ref (h 18)] (fun U => U.heap.size = sz ∧ va_P D classes (Wc ty h σ px) U.heap ∧ va_K D classes (Ta ty) U ∧ NW U ∧ va_D (fun _ => True) (Wc ty h σ px))) (va_Qv (fun u : St => u = f_Dr_wipe σ) (fun u t => va_P D classes (Wc ty h u px) t.heap) (va_A (Wc ty h σ px) sz)) 0 0 (va_A (Wc ty h σ px) sz) := by
  refine Met.ofW (cc := b_Dr_wipe) (maxL := 1) (ret := none) (by decide) rfl ?_
  intro p e s m args below meth c s₁ B hml hv
  obtain ⟨ha, hsz, hP, hK, hN, hD0⟩ := hv
  have hx := B.exec
  have hb := B.bytes
  have hr := B.returns
  have hg : ∀ w ∈ gw, w.before args s = true := fun w h9 => atoms_spec (ws := w_Dr_wipe) B.pre w (List.mem_cons_of_mem _ h9)
  have hown : s.vm.findClass "ClauseLedger$Draft" = some m.cls := findClass_of_methodNamed B.named
  have hlocks := B.notSynchronized
  subst hsz
  have hD := hD0.self (sz := s.heap.size)
  generalize hAe : va_A (Wc ty h σ px) s.heap.size = A at hD ⊢
  have hA : ∀ q : Nat, s.heap.size ≤ q → A q := fun q h9 => by rw [← hAe]; exact Or.inr h9
  have hS : va_S A s.heap s.heap [] := va_S.rf
  have he : entryFrame m args 1 = entryFrame m ([.ref (h 18)] : List Value).toArray 1 := by rw [ha]
  rw [he, lg_entry_eq]
  have hl := lv_entry ([.ref (h 18)]) (n := 1) (Nat.le_of_ble_eq_true rfl)
  generalize (lg_sl ([.ref (h 18)]) ++ List.replicate (1 - (lg_sl ([.ref (h 18)])).length) Slot.unset).toArray = ls at hl ⊢
  have hl : lv_has ls 1 [(0, .ref (h 18))] := hl
  generalize hv : f_Dr_wipe σ = v
  replace hv := hv.symm
  have B5 : ∀ (H : Heap) (locs : List Loc) (ls : Array Slot) (σ : St), v = f_Dr_wipe_5 σ → k_Dr_wipe_5 σ → lv_has ls 1 [] → va_P D classes (Wc ty h σ px) H → va_D A (Wc ty h σ px) → va_S A s.heap H locs → W p l e (headSpec w_Dr_wipe rm_Dr_wipe).room s m args below meth c H locs 0 0 (MQ below (va_Qv (fun u : St => u = v) (fun u t => va_P D classes (Wc ty h u px) t.heap) A) args s 0 0 A) (F0 m 5 ls []) := by
    intro H locs ls σ hv hk hl hP hD hS
    unfold f_Dr_wipe_5 at hv
    unfold k_Dr_wipe_5 at hk
    exact W.vret hx hb hr (fun t ht hW => ⟨⟨_, rfl, hv.symm, by dsimp only; rw [ht]; exact hP⟩, hS.F ht⟩) hS.2.2 d_Dr_wipe_5
  unfold f_Dr_wipe at hv
  unfold k_Dr_wipe at hk
  refine lv_aload_n hx hb d_Dr_wipe_0 rfl (lv_at hl 0 rfl) ?_
  refine lv_iconst (v := 0) hx hb d_Dr_wipe_1 (by decide) ?_
  refine va_put (v := .int 0) (ty := .int) (C := R_Dr) (T := T_Dr) (N := 2) hx hb hg in_Dr ty_Dr ok_Dr nm_Dr hown hK hP hD hS 18 rfl rfl 1 (by decide) (hg _ m_120) (fun _ h9 => h9) rfl (by decide +kernel) rfl rfl (Nat.le_of_ble_eq_true rfl) d_Dr_wipe_2 (fun H locs hP hD hS => ?_)
  have hP : va_P D classes (Wc ty h (sF σ 18 1 0) px) H := hP
  have hD : va_D A (Wc ty h (sF σ 18 1 0) px) := hD
  exact B5 _ _ _  (sF σ 18 1 0) hv hk (lv_sub hl [] rfl) hP hD hS

-- ClauseLedger$Draft.letter(I)C
abbrev b_Dr_letter : ByteArray := prog_3_method_4_code
def y_Dr_letter : MethodName := ⟨"ClauseLedger$Draft", "letter", "(I)C"⟩
theorem hd_Dr_letter : y_Dr_letter.cls ≠ "java/lang/invoke/MethodHandle" ∧ y_Dr_letter.cls ≠ "java/lang/invoke/VarHandle" ∧ (parseMethodDescriptor y_Dr_letter.desc).map (fun d => d.parameters.length) = some 1 := by decide +kernel
theorem d_Dr_letter_0 : decode b_Dr_letter 0 = .ok (.iload_n 1, 1) := by decide +kernel
theorem d_Dr_letter_1 : decode b_Dr_letter 1 = .ok (.ifCond .lt 20, 3) := by decide +kernel
theorem d_Dr_letter_4 : decode b_Dr_letter 4 = .ok (.iload_n 1, 1) := by decide +kernel
theorem d_Dr_letter_5 : decode b_Dr_letter 5 = .ok (.aload_n 0, 1) := by decide +kernel
theorem d_Dr_letter_6 : decode b_Dr_letter 6 = .ok (.getfield 13, 3) := by decide +kernel
theorem d_Dr_letter_9 : decode b_Dr_letter 9 = .ok (.if_icmp .ge 12, 3) := by decide +kernel
theorem d_Dr_letter_12 : decode b_Dr_letter 12 = .ok (.aload_n 0, 1) := by decide +kernel
theorem d_Dr_letter_13 : decode b_Dr_letter 13 = .ok (.getfield 9, 3) := by decide +kernel
theorem d_Dr_letter_16 : decode b_Dr_letter 16 = .ok (.iload_n 1, 1) := by decide +kernel
theorem d_Dr_letter_17 : decode b_Dr_letter 17 = .ok (.caload, 1) := by decide +kernel
theorem d_Dr_letter_18 : decode b_Dr_letter 18 = .ok (.goto 4, 3) := by decide +kernel
theorem d_Dr_letter_21 : decode b_Dr_letter 21 = .ok (.iconst 0, 1) := by decide +kernel
theorem d_Dr_letter_22 : decode b_Dr_letter 22 = .ok (.ireturn, 1) := by decide +kernel
def f_Dr_letter_22 (s0 : Int32) (σ : St) : Int32 := s0
def k_Dr_letter_22 (s0 : Int32) (σ : St) : Prop := (narrow .char (.int s0) = .int s0) ∧ True
def f_Dr_letter_21 (σ : St) : Int32 := f_Dr_letter_22 0 σ
def k_Dr_letter_21 (σ : St) : Prop := k_Dr_letter_22 0 σ
def f_Dr_letter (a1 : Int32) (σ : St) : Int32 := if a1 < 0 then (f_Dr_letter_21 σ) else (if (σ.1 18 1) ≤ a1 then (f_Dr_letter_21 σ) else (f_Dr_letter_22 (σ.1 19 a1.toNatClampNeg) σ))
def k_Dr_letter (a1 : Int32) (σ : St) : Prop := (a1 < 0 → (k_Dr_letter_21 σ)) ∧ (¬ a1 < 0 → (((σ.1 18 1) ≤ a1 → (k_Dr_letter_21 σ)) ∧ (¬ (σ.1 18 1) ≤ a1 → (vp_in a1 120 ∧ (k_Dr_letter_22 (σ.1 19 a1.toNatClampNeg) σ)))))
abbrev w_Dr_letter : List Cond := Cond.code y_Dr_letter b_Dr_letter 2 (some .char) :: gw
abbrev rm_Dr_letter : Room := { frames := 0, cells := 0, slots := 0, locals := 0 }
set_option maxHeartbeats 4000000 in
set_option maxRecDepth 100000 in
theorem c_Dr_letter (l : Launch) (D : va_G) (ty : Nat → ClassId) (h : Nat → Nat) (px : va_W) (σ : St) (a1 : Int32) (hk : k_Dr_letter a1 σ) : Met l y_Dr_letter w_Dr_letter rm_Dr_letter (va_Pc [.ref (h 18), .int a1] (fun U => va_P D classes (Wc ty h σ px) U.heap ∧ va_K D classes (Ta ty) U ∧ NW U)) (k2_QcV (.int (f_Dr_letter a1 σ))) 0 0 (fun _ => False) := by
  refine Met.ofW (cc := b_Dr_letter) (maxL := 2) (ret := (some .char)) (by decide) rfl ?_
  intro p e s m args below meth c s₁ B hml hv
  obtain ⟨ha, hP, hK, hN⟩ := hv
  have hx := B.exec
  have hb := B.bytes
  have hr := B.returns
  have hg : ∀ w ∈ gw, w.before args s = true := fun w h9 => atoms_spec (ws := w_Dr_letter) B.pre w (List.mem_cons_of_mem _ h9)
  have hown : s.vm.findClass "ClauseLedger$Draft" = some m.cls := findClass_of_methodNamed B.named
  have hlocks := B.notSynchronized
  have he : entryFrame m args 2 = entryFrame m ([.ref (h 18), .int a1] : List Value).toArray 2 := by rw [ha]
  rw [he, lg_entry_eq]
  have hl := lv_entry ([.ref (h 18), .int a1]) (n := 2) (Nat.le_of_ble_eq_true rfl)
  generalize (lg_sl ([.ref (h 18), .int a1]) ++ List.replicate (2 - (lg_sl ([.ref (h 18), .int a1])).length) Slot.unset).toArray = ls at hl ⊢
  have hl : lv_has ls 2 [(0, .ref (h 18)), (1, .int a1)] := hl
  generalize hv : f_Dr_letter a1 σ = v
  replace hv := hv.symm
  have B22 : ∀ (ls : Array Slot) (s0 : Int32), v = f_Dr_letter_22 s0 σ → k_Dr_letter_22 s0 σ → lv_has ls 2 [] → W p l e (headSpec w_Dr_letter rm_Dr_letter).room s m args below meth c s.heap [] 0 0 (MQ below (k2_QcV (.int v)) args s 0 0 (fun _ => False)) (F0 m 22 ls [.int s0]) := by
    intro ls s0 hv hk hl
    unfold f_Dr_letter_22 at hv
    unfold k_Dr_letter_22 at hk
    obtain ⟨hk0, hk⟩ := hk
    exact W.zret hx hb hr hk0 (fun t ht hW => ⟨by rw [hv], ht⟩) (fun q h => nomatch h) d_Dr_letter_22
  have B21 : ∀ (ls : Array Slot), v = f_Dr_letter_21 σ → k_Dr_letter_21 σ → lv_has ls 2 [] → W p l e (headSpec w_Dr_letter rm_Dr_letter).room s m args below meth c s.heap [] 0 0 (MQ below (k2_QcV (.int v)) args s 0 0 (fun _ => False)) (F0 m 21 ls []) := by
    intro ls hv hk hl
    unfold f_Dr_letter_21 at hv
    unfold k_Dr_letter_21 at hk
    refine lv_iconst (v := 0) hx hb d_Dr_letter_21 (by decide) ?_
    exact B22 _ 0 hv hk (lv_sub hl [] rfl)
  unfold f_Dr_letter at hv
  unfold k_Dr_letter at hk
  refine lv_iload_n hx hb d_Dr_letter_0 rfl (lv_at hl 1 rfl) ?_
  refine lv_if_lt (tgt := 21) hx hb d_Dr_letter_1 (by decide) (fun hc => ?_) (fun hc => ?_)
  · have hv := hv.trans (if_pos hc)
    have hk := hk.1 hc
    exact B21 _  hv hk (lv_sub hl [] rfl)
  · have hv := hv.trans (if_neg hc)
    have hk := hk.2 hc
    refine lv_iload_n hx hb d_Dr_letter_4 rfl (lv_at hl 1 rfl) ?_
    refine lv_aload_n hx hb d_Dr_letter_5 rfl (lv_at hl 0 rfl) ?_
    refine va_get (v := .int (σ.1 18 1)) (C := R_Dr) (T := T_Dr) (N := 2) hx hb hg in_Dr hown hK hP 18 rfl rfl 1 (by decide) (hg _ m_120) (fun _ h9 => h9) rfl d_Dr_letter_6 ?_
    refine lv_icmp_ge (tgt := 21) hx hb d_Dr_letter_9 (by decide) (fun hc => ?_) (fun hc => ?_)
    · have hv := hv.trans (if_pos hc)
      have hk := hk.1 hc
      exact B21 _  hv hk (lv_sub hl [] rfl)
    · have hv := hv.trans (if_neg hc)
      have hk := hk.2 hc
      refine lv_aload_n hx hb d_Dr_letter_12 rfl (lv_at hl 0 rfl) ?_
      refine va_get (v := .ref (h 19)) (C := R_Dr) (T := T_Dr) (N := 2) hx hb hg in_Dr hown hK hP 18 rfl rfl 0 (by decide) (hg _ m_119) (fun _ h9 => h9) rfl d_Dr_letter_13 ?_
      refine lv_iload_n hx hb d_Dr_letter_16 rfl (lv_at hl 1 rfl) ?_
      obtain ⟨hk0, hk⟩ := hk
      refine va_cald hx hb hK hP 19 2 rfl rfl hk0 d_Dr_letter_17 ?_
      refine lv_goto (tgt := 22) hx hb d_Dr_letter_18 (by decide) ?_
      exact B22 _ (σ.1 19 a1.toNatClampNeg) hv hk (lv_sub hl [] rfl)

-- ClauseLedger$Reader.readBareSymbol()I
abbrev b_Rd_readBareSymbol : ByteArray := prog_5_method_4_code
def y_Rd_readBareSymbol : MethodName := ⟨"ClauseLedger$Reader", "readBareSymbol", "()I"⟩
theorem hd_Rd_readBareSymbol : y_Rd_readBareSymbol.cls ≠ "java/lang/invoke/MethodHandle" ∧ y_Rd_readBareSymbol.cls ≠ "java/lang/invoke/VarHandle" ∧ (parseMethodDescriptor y_Rd_readBareSymbol.desc).map (fun d => d.parameters.length) = some 0 := by decide +kernel
theorem d_Rd_readBareSymbol_0 : decode b_Rd_readBareSymbol 0 = .ok (.aload_n 0, 1) := by decide +kernel
theorem d_Rd_readBareSymbol_1 : decode b_Rd_readBareSymbol 1 = .ok (.getfield 15, 3) := by decide +kernel
theorem d_Rd_readBareSymbol_4 : decode b_Rd_readBareSymbol 4 = .ok (.aload_n 0, 1) := by decide +kernel
theorem d_Rd_readBareSymbol_5 : decode b_Rd_readBareSymbol 5 = .ok (.getfield 9, 3) := by decide +kernel
theorem d_Rd_readBareSymbol_8 : decode b_Rd_readBareSymbol 8 = .ok (.invokevirtual 37, 3) := by decide +kernel
theorem d_Rd_readBareSymbol_11 : decode b_Rd_readBareSymbol 11 = .ok (.bipush 97, 2) := by decide +kernel
theorem d_Rd_readBareSymbol_13 : decode b_Rd_readBareSymbol 13 = .ok (.isub, 1) := by decide +kernel
theorem d_Rd_readBareSymbol_14 : decode b_Rd_readBareSymbol 14 = .ok (.istore_n 1, 1) := by decide +kernel
theorem d_Rd_readBareSymbol_15 : decode b_Rd_readBareSymbol 15 = .ok (.aload_n 0, 1) := by decide +kernel
theorem d_Rd_readBareSymbol_16 : decode b_Rd_readBareSymbol 16 = .ok (.dup, 1) := by decide +kernel
theorem d_Rd_readBareSymbol_17 : decode b_Rd_readBareSymbol 17 = .ok (.getfield 9, 3) := by decide +kernel
theorem d_Rd_readBareSymbol_20 : decode b_Rd_readBareSymbol 20 = .ok (.iconst 1, 1) := by decide +kernel
theorem d_Rd_readBareSymbol_21 : decode b_Rd_readBareSymbol 21 = .ok (.iadd, 1) := by decide +kernel
theorem d_Rd_readBareSymbol_22 : decode b_Rd_readBareSymbol 22 = .ok (.putfield 9, 3) := by decide +kernel
theorem d_Rd_readBareSymbol_25 : decode b_Rd_readBareSymbol 25 = .ok (.aload_n 0, 1) := by decide +kernel
theorem d_Rd_readBareSymbol_26 : decode b_Rd_readBareSymbol 26 = .ok (.getfield 19, 3) := by decide +kernel
theorem d_Rd_readBareSymbol_29 : decode b_Rd_readBareSymbol 29 = .ok (.iload_n 1, 1) := by decide +kernel
theorem d_Rd_readBareSymbol_30 : decode b_Rd_readBareSymbol 30 = .ok (.invokevirtual 64, 3) := by decide +kernel
theorem d_Rd_readBareSymbol_33 : decode b_Rd_readBareSymbol 33 = .ok (.ifCond .eq 15, 3) := by decide +kernel
theorem d_Rd_readBareSymbol_36 : decode b_Rd_readBareSymbol 36 = .ok (.aload_n 0, 1) := by decide +kernel
theorem d_Rd_readBareSymbol_37 : decode b_Rd_readBareSymbol 37 = .ok (.getfield 19, 3) := by decide +kernel
theorem d_Rd_readBareSymbol_40 : decode b_Rd_readBareSymbol 40 = .ok (.iload_n 1, 1) := by decide +kernel
theorem d_Rd_readBareSymbol_41 : decode b_Rd_readBareSymbol 41 = .ok (.invokevirtual 68, 3) := by decide +kernel
theorem d_Rd_readBareSymbol_44 : decode b_Rd_readBareSymbol 44 = .ok (.iconst (-1), 1) := by decide +kernel
theorem d_Rd_readBareSymbol_45 : decode b_Rd_readBareSymbol 45 = .ok (.if_icmp .eq 5, 3) := by decide +kernel
theorem d_Rd_readBareSymbol_48 : decode b_Rd_readBareSymbol 48 = .ok (.iconst (-1), 1) := by decide +kernel
theorem d_Rd_readBareSymbol_49 : decode b_Rd_readBareSymbol 49 = .ok (.ireturn, 1) := by decide +kernel
theorem d_Rd_readBareSymbol_50 : decode b_Rd_readBareSymbol 50 = .ok (.aload_n 0, 1) := by decide +kernel
theorem d_Rd_readBareSymbol_51 : decode b_Rd_readBareSymbol 51 = .ok (.getfield 23, 3) := by decide +kernel
theorem d_Rd_readBareSymbol_54 : decode b_Rd_readBareSymbol 54 = .ok (.iconst 0, 1) := by decide +kernel
theorem d_Rd_readBareSymbol_55 : decode b_Rd_readBareSymbol 55 = .ok (.aload_n 0, 1) := by decide +kernel
theorem d_Rd_readBareSymbol_56 : decode b_Rd_readBareSymbol 56 = .ok (.getfield 19, 3) := by decide +kernel
theorem d_Rd_readBareSymbol_59 : decode b_Rd_readBareSymbol 59 = .ok (.iload_n 1, 1) := by decide +kernel
theorem d_Rd_readBareSymbol_60 : decode b_Rd_readBareSymbol 60 = .ok (.invokevirtual 71, 3) := by decide +kernel
theorem d_Rd_readBareSymbol_63 : decode b_Rd_readBareSymbol 63 = .ok (.iload_n 1, 1) := by decide +kernel
theorem d_Rd_readBareSymbol_64 : decode b_Rd_readBareSymbol 64 = .ok (.iconst (-1), 1) := by decide +kernel
theorem d_Rd_readBareSymbol_65 : decode b_Rd_readBareSymbol 65 = .ok (.iconst (-1), 1) := by decide +kernel
theorem d_Rd_readBareSymbol_66 : decode b_Rd_readBareSymbol 66 = .ok (.invokevirtual 55, 3) := by decide +kernel
theorem d_Rd_readBareSymbol_69 : decode b_Rd_readBareSymbol 69 = .ok (.ireturn, 1) := by decide +kernel
def f_Rd_readBareSymbol_48 (σ : St) : Int32 × St := ((-1), σ)
def k_Rd_readBareSymbol_48 (σ : St) : Prop := True
def f_Rd_readBareSymbol_69 (s0 : Int32) (σ : St) : Int32 × St := (s0, σ)
def k_Rd_readBareSymbol_69 (s0 : Int32) (σ : St) : Prop := True
def f_Rd_readBareSymbol_25 (x1 : Int32) (σ : St) : Int32 × St := if (f_Sg_isSymbol x1 σ) = 0 then (f_Rd_readBareSymbol_48 σ) else (if (f_Sg_firstOfSymbol x1 σ) = (-1) then (f_Rd_readBareSymbol_69 ((f_Te_make 0 (f_Sg_sortOfSymbol x1 σ) x1 (-1) (-1) σ).1) ((f_Te_make 0 (f_Sg_sortOfSymbol x1 σ) x1 (-1) (-1) σ).2)) else (f_Rd_readBareSymbol_48 σ))
def k_Rd_readBareSymbol_25 (x1 : Int32) (σ : St) : Prop := (k_Sg_isSymbol x1 σ) ∧ (((f_Sg_isSymbol x1 σ) = 0 → (k_Rd_readBareSymbol_48 σ)) ∧ (¬ (f_Sg_isSymbol x1 σ) = 0 → ((k_Sg_firstOfSymbol x1 σ) ∧ (((f_Sg_firstOfSymbol x1 σ) = (-1) → ((k_Sg_sortOfSymbol x1 σ) ∧ ((k_Te_make 0 (f_Sg_sortOfSymbol x1 σ) x1 (-1) (-1) σ) ∧ (k_Rd_readBareSymbol_69 ((f_Te_make 0 (f_Sg_sortOfSymbol x1 σ) x1 (-1) (-1) σ).1) ((f_Te_make 0 (f_Sg_sortOfSymbol x1 σ) x1 (-1) (-1) σ).2))))) ∧ (¬ (f_Sg_firstOfSymbol x1 σ) = (-1) → (k_Rd_readBareSymbol_48 σ))))))
def f_Rd_readBareSymbol_15 (x1 : Int32) (σ : St) : Int32 × St := f_Rd_readBareSymbol_25 x1 (sF σ 20 3 ((σ.1 20 3) + 1))
def k_Rd_readBareSymbol_15 (x1 : Int32) (σ : St) : Prop := k_Rd_readBareSymbol_25 x1 (sF σ 20 3 ((σ.1 20 3) + 1))
def f_Rd_readBareSymbol (σ : St) : Int32 × St := f_Rd_readBareSymbol_15 ((f_Dr_letter (σ.1 20 3) σ) - 97) σ
def k_Rd_readBareSymbol (σ : St) : Prop := (k_Dr_letter (σ.1 20 3) σ) ∧ (k_Rd_readBareSymbol_15 ((f_Dr_letter (σ.1 20 3) σ) - 97) σ)
abbrev w_Rd_readBareSymbol : List Cond := Cond.code y_Rd_readBareSymbol b_Rd_readBareSymbol 2 (some .int) :: gw
abbrev rm_Rd_readBareSymbol : Room := { frames := 3, cells := 0, slots := 0, locals := 76 }
set_option maxHeartbeats 4000000 in
set_option maxRecDepth 100000 in
theorem c_Rd_readBareSymbol (l : Launch) (D : va_G) (ty : Nat → ClassId) (h : Nat → Nat) (px : va_W) (σ : St) (sz : Nat) (hk : k_Rd_readBareSymbol σ) : Met l y_Rd_readBareSymbol w_Rd_readBareSymbol rm_Rd_readBareSymbol (va_Pc [.ref (h 20)] (fun U => U.heap.size = sz ∧ va_P D classes (Wc ty h σ px) U.heap ∧ va_K D classes (Ta ty) U ∧ NW U ∧ va_D (fun _ => True) (Wc ty h σ px))) (va_Qi (fun r (u : St) => (r, u) = f_Rd_readBareSymbol σ) (fun u t => va_P D classes (Wc ty h u px) t.heap) (va_A (Wc ty h σ px) sz)) 0 0 (va_A (Wc ty h σ px) sz) := by
  refine Met.ofW (cc := b_Rd_readBareSymbol) (maxL := 2) (ret := (some .int)) (by decide) rfl ?_
  intro p e s m args below meth c s₁ B hml hv
  obtain ⟨ha, hsz, hP, hK, hN, hD0⟩ := hv
  have hx := B.exec
  have hb := B.bytes
  have hr := B.returns
  have hg : ∀ w ∈ gw, w.before args s = true := fun w h9 => atoms_spec (ws := w_Rd_readBareSymbol) B.pre w (List.mem_cons_of_mem _ h9)
  have hown : s.vm.findClass "ClauseLedger$Reader" = some m.cls := findClass_of_methodNamed B.named
  have hlocks := B.notSynchronized
  subst hsz
  have hD := hD0.self (sz := s.heap.size)
  generalize hAe : va_A (Wc ty h σ px) s.heap.size = A at hD ⊢
  have hA : ∀ q : Nat, s.heap.size ≤ q → A q := fun q h9 => by rw [← hAe]; exact Or.inr h9
  have hS : va_S A s.heap s.heap [] := va_S.rf
  have he : entryFrame m args 2 = entryFrame m ([.ref (h 20)] : List Value).toArray 2 := by rw [ha]
  rw [he, lg_entry_eq]
  have hl := lv_entry ([.ref (h 20)]) (n := 2) (Nat.le_of_ble_eq_true rfl)
  generalize (lg_sl ([.ref (h 20)]) ++ List.replicate (2 - (lg_sl ([.ref (h 20)])).length) Slot.unset).toArray = ls at hl ⊢
  have hl : lv_has ls 2 [(0, .ref (h 20))] := hl
  generalize hv : f_Rd_readBareSymbol σ = v
  replace hv := hv.symm
  have B48 : ∀ (H : Heap) (locs : List Loc) (ls : Array Slot) (σ : St), v = f_Rd_readBareSymbol_48 σ → k_Rd_readBareSymbol_48 σ → lv_has ls 2 [] → va_P D classes (Wc ty h σ px) H → va_D A (Wc ty h σ px) → va_S A s.heap H locs → W p l e (headSpec w_Rd_readBareSymbol rm_Rd_readBareSymbol).room s m args below meth c H locs 0 0 (MQ below (va_Qi (fun r (u : St) => (r, u) = v) (fun u t => va_P D classes (Wc ty h u px) t.heap) A) args s 0 0 A) (F0 m 48 ls []) := by
    intro H locs ls σ hv hk hl hP hD hS
    unfold f_Rd_readBareSymbol_48 at hv
    unfold k_Rd_readBareSymbol_48 at hk
    refine lv_iconst (v := -1) hx hb d_Rd_readBareSymbol_48 (by decide) ?_
    exact W.iret hx hb hr (fun t ht hW => ⟨⟨_, _, rfl, hv.symm, by dsimp only; rw [ht]; exact hP⟩, hS.F ht⟩) hS.2.2 d_Rd_readBareSymbol_49
  have B69 : ∀ (H : Heap) (locs : List Loc) (ls : Array Slot) (s0 : Int32) (σ : St), v = f_Rd_readBareSymbol_69 s0 σ → k_Rd_readBareSymbol_69 s0 σ → lv_has ls 2 [] → va_P D classes (Wc ty h σ px) H → va_D A (Wc ty h σ px) → va_S A s.heap H locs → W p l e (headSpec w_Rd_readBareSymbol rm_Rd_readBareSymbol).room s m args below meth c H locs 0 0 (MQ below (va_Qi (fun r (u : St) => (r, u) = v) (fun u t => va_P D classes (Wc ty h u px) t.heap) A) args s 0 0 A) (F0 m 69 ls [.int s0]) := by
    intro H locs ls s0 σ hv hk hl hP hD hS
    unfold f_Rd_readBareSymbol_69 at hv
    unfold k_Rd_readBareSymbol_69 at hk
    exact W.iret hx hb hr (fun t ht hW => ⟨⟨_, _, rfl, hv.symm, by dsimp only; rw [ht]; exact hP⟩, hS.F ht⟩) hS.2.2 d_Rd_readBareSymbol_69
  have B25 : ∀ (H : Heap) (locs : List Loc) (ls : Array Slot) (x1 : Int32) (σ : St), v = f_Rd_readBareSymbol_25 x1 σ → k_Rd_readBareSymbol_25 x1 σ → lv_has ls 2 [(0, .ref (h 20)), (1, .int x1)] → va_P D classes (Wc ty h σ px) H → va_D A (Wc ty h σ px) → va_S A s.heap H locs → W p l e (headSpec w_Rd_readBareSymbol rm_Rd_readBareSymbol).room s m args below meth c H locs 0 0 (MQ below (va_Qi (fun r (u : St) => (r, u) = v) (fun u t => va_P D classes (Wc ty h u px) t.heap) A) args s 0 0 A) (F0 m 25 ls []) := by
    intro H locs ls x1 σ hv hk hl hP hD hS
    unfold f_Rd_readBareSymbol_25 at hv
    unfold k_Rd_readBareSymbol_25 at hk
    refine lv_aload_n hx hb d_Rd_readBareSymbol_25 rfl (lv_at hl 0 rfl) ?_
    refine va_get (v := .ref (h 1)) (C := R_Rd) (T := T_Rd) (N := 4) hx hb hg in_Rd hown hK hP 20 rfl rfl 1 (by decide) (hg _ m_134) (fun _ h9 => h9) rfl d_Rd_readBareSymbol_26 ?_
    refine lv_iload_n hx hb d_Rd_readBareSymbol_29 rfl (lv_at hl 1 rfl) ?_
    obtain ⟨hk0, hk⟩ := hk
    refine zz_callV (va_runV (As := [.int x1]) (rest := []) ⟨hx, hb, hml, hown, hg⟩ (c_Sg_isSymbol l D ty h px σ x1 hk0) ⟨callB_of 1 hg (gw_C m_599) rfl rfl rfl (hg _ m_2) (hg _ m_737) hd_Sg_isSymbol ⟨Nat.le_of_ble_eq_true rfl, Nat.le_of_ble_eq_true rfl⟩, hg _ m_597, hg _ m_598⟩ (zz_preV hN hK hP 1 rfl rfl) rfl rfl hl.1 rfl (lv_room (Nat.le_of_ble_eq_true rfl)) d_Rd_readBareSymbol_30 ⟨Nat.le_of_ble_eq_true rfl, Nat.le_of_ble_eq_true rfl⟩) ?_
    refine lv_if_eq (tgt := 48) hx hb d_Rd_readBareSymbol_33 (by decide) (fun hc => ?_) (fun hc => ?_)
    · have hv := hv.trans (if_pos hc)
      have hk := hk.1 hc
      exact B48 _ _ _  σ hv hk (lv_sub hl [] rfl) hP hD hS
    · have hv := hv.trans (if_neg hc)
      have hk := hk.2 hc
      refine lv_aload_n hx hb d_Rd_readBareSymbol_36 rfl (lv_at hl 0 rfl) ?_
      refine va_get (v := .ref (h 1)) (C := R_Rd) (T := T_Rd) (N := 4) hx hb hg in_Rd hown hK hP 20 rfl rfl 1 (by decide) (hg _ m_134) (fun _ h9 => h9) rfl d_Rd_readBareSymbol_37 ?_
      refine lv_iload_n hx hb d_Rd_readBareSymbol_40 rfl (lv_at hl 1 rfl) ?_
      obtain ⟨hk0, hk⟩ := hk
      refine zz_callV (va_runV (As := [.int x1]) (rest := []) ⟨hx, hb, hml, hown, hg⟩ (c_Sg_firstOfSymbol l D ty h px σ x1 hk0) ⟨callB_of 1 hg (gw_C m_595) rfl rfl rfl (hg _ m_2) (hg _ m_592) hd_Sg_firstOfSymbol ⟨Nat.le_of_ble_eq_true rfl, Nat.le_of_ble_eq_true rfl⟩, hg _ m_593, hg _ m_594⟩ (zz_preV hN hK hP 1 rfl rfl) rfl rfl hl.1 rfl (lv_room (Nat.le_of_ble_eq_true rfl)) d_Rd_readBareSymbol_41 ⟨Nat.le_of_ble_eq_true rfl, Nat.le_of_ble_eq_true rfl⟩) ?_
      refine lv_iconst (v := -1) hx hb d_Rd_readBareSymbol_44 (by decide) ?_
      refine lv_icmp_eq (tgt := 50) hx hb d_Rd_readBareSymbol_45 (by decide) (fun hc => ?_) (fun hc => ?_)
      · have hv := hv.trans (if_pos hc)
        have hk := hk.1 hc
        refine lv_aload_n hx hb d_Rd_readBareSymbol_50 rfl (lv_at hl 0 rfl) ?_
        refine va_get (v := .ref (h 6)) (C := R_Rd) (T := T_Rd) (N := 4) hx hb hg in_Rd hown hK hP 20 rfl rfl 2 (by decide) (hg _ m_135) (fun _ h9 => h9) rfl d_Rd_readBareSymbol_51 ?_
        refine lv_iconst (v := 0) hx hb d_Rd_readBareSymbol_54 (by decide) ?_
        refine lv_aload_n hx hb d_Rd_readBareSymbol_55 rfl (lv_at hl 0 rfl) ?_
        refine va_get (v := .ref (h 1)) (C := R_Rd) (T := T_Rd) (N := 4) hx hb hg in_Rd hown hK hP 20 rfl rfl 1 (by decide) (hg _ m_134) (fun _ h9 => h9) rfl d_Rd_readBareSymbol_56 ?_
        refine lv_iload_n hx hb d_Rd_readBareSymbol_59 rfl (lv_at hl 1 rfl) ?_
        obtain ⟨hk0, hk⟩ := hk
        refine zz_callV (va_runV (As := [.int x1]) (rest := [.int 0, .ref (h 6)]) ⟨hx, hb, hml, hown, hg⟩ (c_Sg_sortOfSymbol l D ty h px σ x1 hk0) ⟨callB_of 1 hg (gw_C m_616) rfl rfl rfl (hg _ m_2) (hg _ m_613) hd_Sg_sortOfSymbol ⟨Nat.le_of_ble_eq_true rfl, Nat.le_of_ble_eq_true rfl⟩, hg _ m_614, hg _ m_615⟩ (zz_preV hN hK hP 1 rfl rfl) rfl rfl hl.1 rfl (lv_room (Nat.le_of_ble_eq_true rfl)) d_Rd_readBareSymbol_60 ⟨Nat.le_of_ble_eq_true rfl, Nat.le_of_ble_eq_true rfl⟩) ?_
        refine lv_iload_n hx hb d_Rd_readBareSymbol_63 rfl (lv_at hl 1 rfl) ?_
        refine lv_iconst (v := -1) hx hb d_Rd_readBareSymbol_64 (by decide) ?_
        refine lv_iconst (v := -1) hx hb d_Rd_readBareSymbol_65 (by decide) ?_
        obtain ⟨hk0, hk⟩ := hk
        refine va_calli (va_runV (As := [.int 0, .int (f_Sg_sortOfSymbol x1 σ), .int x1, .int (-1), .int (-1)]) (rest := []) ⟨hx, hb, hml, hown, hg⟩ (c_Te_make l D ty h px σ H.size 0 (f_Sg_sortOfSymbol x1 σ) x1 (-1) (-1) hk0) ⟨callB_of 5 hg (gw_C m_620) rfl rfl rfl (hg _ m_3) (hg _ m_617) hd_Te_make ⟨Nat.le_of_ble_eq_true rfl, Nat.le_of_ble_eq_true rfl⟩, hg _ m_618, hg _ m_619⟩ (zz_preVW hN hK hP hD 6 rfl rfl) rfl rfl hl.1 rfl (lv_room (Nat.le_of_ble_eq_true rfl)) d_Rd_readBareSymbol_66 ⟨Nat.le_of_ble_eq_true rfl, Nat.le_of_ble_eq_true rfl⟩) hS (fun q _ h => zz_free hD hS hA q h) (zz_free hD hS hA) (fun r66 u66 t H locs ht hvm hp hP1 hz hk1 hS => ?_)
        rw [ht] at hP1
        rw [← hp] at hv hk
        have hD : va_D A (Wc ty h u66 px) := zz_D hD rfl
        have hP := hP1
        exact B69 _ _ _ r66 u66 hv hk (lv_sub hl [] rfl) hP hD hS
      · have hv := hv.trans (if_neg hc)
        have hk := hk.2 hc
        exact B48 _ _ _  σ hv hk (lv_sub hl [] rfl) hP hD hS
  have B15 : ∀ (H : Heap) (locs : List Loc) (ls : Array Slot) (x1 : Int32) (σ : St), v = f_Rd_readBareSymbol_15 x1 σ → k_Rd_readBareSymbol_15 x1 σ → lv_has ls 2 [(0, .ref (h 20)), (1, .int x1)] → va_P D classes (Wc ty h σ px) H → va_D A (Wc ty h σ px) → va_S A s.heap H locs → W p l e (headSpec w_Rd_readBareSymbol rm_Rd_readBareSymbol).room s m args below meth c H locs 0 0 (MQ below (va_Qi (fun r (u : St) => (r, u) = v) (fun u t => va_P D classes (Wc ty h u px) t.heap) A) args s 0 0 A) (F0 m 15 ls []) := by
    intro H locs ls x1 σ hv hk hl hP hD hS
    unfold f_Rd_readBareSymbol_15 at hv
    unfold k_Rd_readBareSymbol_15 at hk
    refine lv_aload_n hx hb d_Rd_readBareSymbol_15 rfl (lv_at hl 0 rfl) ?_
    refine lv_dup hx hb d_Rd_readBareSymbol_16 rfl ?_
    refine va_get (v := .int (σ.1 20 3)) (C := R_Rd) (T := T_Rd) (N := 4) hx hb hg in_Rd hown hK hP 20 rfl rfl 3 (by decide) (hg _ m_136) (fun _ h9 => h9) rfl d_Rd_readBareSymbol_17 ?_
    refine lv_iconst (v := 1) hx hb d_Rd_readBareSymbol_20 (by decide) ?_
    refine lv_iadd hx hb d_Rd_readBareSymbol_21 ?_
    refine va_put (v := .int ((σ.1 20 3) + 1)) (ty := .int) (C := R_Rd) (T := T_Rd) (N := 4) hx hb hg in_Rd ty_Rd ok_Rd nm_Rd hown hK hP hD hS 20 rfl rfl 3 (by decide) (hg _ m_136) (fun _ h9 => h9) rfl (by decide +kernel) rfl rfl (Nat.le_of_ble_eq_true rfl) d_Rd_readBareSymbol_22 (fun H locs hP hD hS => ?_)
    have hP : va_P D classes (Wc ty h (sF σ 20 3 ((σ.1 20 3) + 1)) px) H := hP
    have hD : va_D A (Wc ty h (sF σ 20 3 ((σ.1 20 3) + 1)) px) := hD
    exact B25 _ _ _ x1 (sF σ 20 3 ((σ.1 20 3) + 1)) hv hk (lv_sub hl [0, 1] rfl) hP hD hS
  unfold f_Rd_readBareSymbol at hv
  unfold k_Rd_readBareSymbol at hk
  refine lv_aload_n hx hb d_Rd_readBareSymbol_0 rfl (lv_at hl 0 rfl) ?_
  refine va_get (v := .ref (h 18)) (C := R_Rd) (T := T_Rd) (N := 4) hx hb hg in_Rd hown hK hP 20 rfl rfl 0 (by decide) (hg _ m_133) (fun _ h9 => h9) rfl d_Rd_readBareSymbol_1 ?_
  refine lv_aload_n hx hb d_Rd_readBareSymbol_4 rfl (lv_at hl 0 rfl) ?_
  refine va_get (v := .int (σ.1 20 3)) (C := R_Rd) (T := T_Rd) (N := 4) hx hb hg in_Rd hown hK hP 20 rfl rfl 3 (by decide) (hg _ m_136) (fun _ h9 => h9) rfl d_Rd_readBareSymbol_5 ?_
  obtain ⟨hk0, hk⟩ := hk
  refine zz_callV (va_runV (As := [.int (σ.1 20 3)]) (rest := []) ⟨hx, hb, hml, hown, hg⟩ (c_Dr_letter l D ty h px σ (σ.1 20 3) hk0) ⟨callB_of 1 hg (gw_C m_583) rfl rfl rfl (hg _ m_4) (hg _ m_580) hd_Dr_letter ⟨Nat.le_of_ble_eq_true rfl, Nat.le_of_ble_eq_true rfl⟩, hg _ m_581, hg _ m_582⟩ (zz_preV hN hK hP 18 rfl rfl) rfl rfl hl.1 rfl (lv_room (Nat.le_of_ble_eq_true rfl)) d_Rd_readBareSymbol_8 ⟨Nat.le_of_ble_eq_true rfl, Nat.le_of_ble_eq_true rfl⟩) ?_
  refine lv_bipush (v := 97) hx hb d_Rd_readBareSymbol_11 (by decide) ?_
  refine lv_isub hx hb d_Rd_readBareSymbol_13 ?_
  refine lv_istore_n (lv' := [(1, .int ((f_Dr_letter (σ.1 20 3) σ) - 97)), (0, .ref (h 20))]) hx hb d_Rd_readBareSymbol_14 rfl hl (by decide) rfl (fun ls hl => ?_)
  exact B15 _ _ _ ((f_Dr_letter (σ.1 20 3) σ) - 97) σ hv hk (lv_sub hl [1, 0] rfl) hP hD hS

-- ClauseLedger$Reader.readVariable()I
abbrev b_Rd_readVariable : ByteArray := prog_5_method_5_code
def y_Rd_readVariable : MethodName := ⟨"ClauseLedger$Reader", "readVariable", "()I"⟩
theorem hd_Rd_readVariable : y_Rd_readVariable.cls ≠ "java/lang/invoke/MethodHandle" ∧ y_Rd_readVariable.cls ≠ "java/lang/invoke/VarHandle" ∧ (parseMethodDescriptor y_Rd_readVariable.desc).map (fun d => d.parameters.length) = some 0 := by decide +kernel
theorem d_Rd_readVariable_0 : decode b_Rd_readVariable 0 = .ok (.aload_n 0, 1) := by decide +kernel
theorem d_Rd_readVariable_1 : decode b_Rd_readVariable 1 = .ok (.getfield 15, 3) := by decide +kernel
theorem d_Rd_readVariable_4 : decode b_Rd_readVariable 4 = .ok (.aload_n 0, 1) := by decide +kernel
theorem d_Rd_readVariable_5 : decode b_Rd_readVariable 5 = .ok (.getfield 9, 3) := by decide +kernel
theorem d_Rd_readVariable_8 : decode b_Rd_readVariable 8 = .ok (.invokevirtual 37, 3) := by decide +kernel
theorem d_Rd_readVariable_11 : decode b_Rd_readVariable 11 = .ok (.bipush 120, 2) := by decide +kernel
theorem d_Rd_readVariable_13 : decode b_Rd_readVariable 13 = .ok (.isub, 1) := by decide +kernel
theorem d_Rd_readVariable_14 : decode b_Rd_readVariable 14 = .ok (.istore_n 1, 1) := by decide +kernel
theorem d_Rd_readVariable_15 : decode b_Rd_readVariable 15 = .ok (.aload_n 0, 1) := by decide +kernel
theorem d_Rd_readVariable_16 : decode b_Rd_readVariable 16 = .ok (.dup, 1) := by decide +kernel
theorem d_Rd_readVariable_17 : decode b_Rd_readVariable 17 = .ok (.getfield 9, 3) := by decide +kernel
theorem d_Rd_readVariable_20 : decode b_Rd_readVariable 20 = .ok (.iconst 1, 1) := by decide +kernel
theorem d_Rd_readVariable_21 : decode b_Rd_readVariable 21 = .ok (.iadd, 1) := by decide +kernel
theorem d_Rd_readVariable_22 : decode b_Rd_readVariable 22 = .ok (.putfield 9, 3) := by decide +kernel
theorem d_Rd_readVariable_25 : decode b_Rd_readVariable 25 = .ok (.aload_n 0, 1) := by decide +kernel
theorem d_Rd_readVariable_26 : decode b_Rd_readVariable 26 = .ok (.getfield 19, 3) := by decide +kernel
theorem d_Rd_readVariable_29 : decode b_Rd_readVariable 29 = .ok (.iload_n 1, 1) := by decide +kernel
theorem d_Rd_readVariable_30 : decode b_Rd_readVariable 30 = .ok (.invokevirtual 74, 3) := by decide +kernel
theorem d_Rd_readVariable_33 : decode b_Rd_readVariable 33 = .ok (.ifCond .eq 7, 3) := by decide +kernel
theorem d_Rd_readVariable_36 : decode b_Rd_readVariable 36 = .ok (.iload_n 1, 1) := by decide +kernel
theorem d_Rd_readVariable_37 : decode b_Rd_readVariable 37 = .ok (.goto 4, 3) := by decide +kernel
theorem d_Rd_readVariable_40 : decode b_Rd_readVariable 40 = .ok (.iconst (-1), 1) := by decide +kernel
theorem d_Rd_readVariable_41 : decode b_Rd_readVariable 41 = .ok (.ireturn, 1) := by decide +kernel
def f_Rd_readVariable_41 (s0 : Int32) (σ : St) : Int32 × St := (s0, σ)
def k_Rd_readVariable_41 (s0 : Int32) (σ : St) : Prop := True
def f_Rd_readVariable_25 (x1 : Int32) (σ : St) : Int32 × St := if (f_Sg_isVariable x1 σ) = 0 then (f_Rd_readVariable_41 (-1) σ) else (f_Rd_readVariable_41 x1 σ)
def k_Rd_readVariable_25 (x1 : Int32) (σ : St) : Prop := (k_Sg_isVariable x1 σ) ∧ (((f_Sg_isVariable x1 σ) = 0 → (k_Rd_readVariable_41 (-1) σ)) ∧ (¬ (f_Sg_isVariable x1 σ) = 0 → (k_Rd_readVariable_41 x1 σ)))
def f_Rd_readVariable_15 (x1 : Int32) (σ : St) : Int32 × St := f_Rd_readVariable_25 x1 (sF σ 20 3 ((σ.1 20 3) + 1))
def k_Rd_readVariable_15 (x1 : Int32) (σ : St) : Prop := k_Rd_readVariable_25 x1 (sF σ 20 3 ((σ.1 20 3) + 1))
def f_Rd_readVariable (σ : St) : Int32 × St := f_Rd_readVariable_15 ((f_Dr_letter (σ.1 20 3) σ) - 120) σ
def k_Rd_readVariable (σ : St) : Prop := (k_Dr_letter (σ.1 20 3) σ) ∧ (k_Rd_readVariable_15 ((f_Dr_letter (σ.1 20 3) σ) - 120) σ)
abbrev w_Rd_readVariable : List Cond := Cond.code y_Rd_readVariable b_Rd_readVariable 2 (some .int) :: gw
abbrev rm_Rd_readVariable : Room := { frames := 1, cells := 0, slots := 0, locals := 21 }
set_option maxHeartbeats 4000000 in
set_option maxRecDepth 100000 in
theorem c_Rd_readVariable (l : Launch) (D : va_G) (ty : Nat → ClassId) (h : Nat → Nat) (px : va_W) (σ : St) (sz : Nat) (hk : k_Rd_readVariable σ) : Met l y_Rd_readVariable w_Rd_readVariable rm_Rd_readVariable (va_Pc [.ref (h 20)] (fun U => U.heap.size = sz ∧ va_P D classes (Wc ty h σ px) U.heap ∧ va_K D classes (Ta ty) U ∧ NW U ∧ va_D (fun _ => True) (Wc ty h σ px))) (va_Qi (fun r (u : St) => (r, u) = f_Rd_readVariable σ) (fun u t => va_P D classes (Wc ty h u px) t.heap) (va_A (Wc ty h σ px) sz)) 0 0 (va_A (Wc ty h σ px) sz) := by
  refine Met.ofW (cc := b_Rd_readVariable) (maxL := 2) (ret := (some .int)) (by decide) rfl ?_
  intro p e s m args below meth c s₁ B hml hv
  obtain ⟨ha, hsz, hP, hK, hN, hD0⟩ := hv
  have hx := B.exec
  have hb := B.bytes
  have hr := B.returns
  have hg : ∀ w ∈ gw, w.before args s = true := fun w h9 => atoms_spec (ws := w_Rd_readVariable) B.pre w (List.mem_cons_of_mem _ h9)
  have hown : s.vm.findClass "ClauseLedger$Reader" = some m.cls := findClass_of_methodNamed B.named
  have hlocks := B.notSynchronized
  subst hsz
  have hD := hD0.self (sz := s.heap.size)
  generalize hAe : va_A (Wc ty h σ px) s.heap.size = A at hD ⊢
  have hA : ∀ q : Nat, s.heap.size ≤ q → A q := fun q h9 => by rw [← hAe]; exact Or.inr h9
  have hS : va_S A s.heap s.heap [] := va_S.rf
  have he : entryFrame m args 2 = entryFrame m ([.ref (h 20)] : List Value).toArray 2 := by rw [ha]
  rw [he, lg_entry_eq]
  have hl := lv_entry ([.ref (h 20)]) (n := 2) (Nat.le_of_ble_eq_true rfl)
  generalize (lg_sl ([.ref (h 20)]) ++ List.replicate (2 - (lg_sl ([.ref (h 20)])).length) Slot.unset).toArray = ls at hl ⊢
  have hl : lv_has ls 2 [(0, .ref (h 20))] := hl
  generalize hv : f_Rd_readVariable σ = v
  replace hv := hv.symm
  have B41 : ∀ (H : Heap) (locs : List Loc) (ls : Array Slot) (s0 : Int32) (σ : St), v = f_Rd_readVariable_41 s0 σ → k_Rd_readVariable_41 s0 σ → lv_has ls 2 [] → va_P D classes (Wc ty h σ px) H → va_D A (Wc ty h σ px) → va_S A s.heap H locs → W p l e (headSpec w_Rd_readVariable rm_Rd_readVariable).room s m args below meth c H locs 0 0 (MQ below (va_Qi (fun r (u : St) => (r, u) = v) (fun u t => va_P D classes (Wc ty h u px) t.heap) A) args s 0 0 A) (F0 m 41 ls [.int s0]) := by
    intro H locs ls s0 σ hv hk hl hP hD hS
    unfold f_Rd_readVariable_41 at hv
    unfold k_Rd_readVariable_41 at hk
    exact W.iret hx hb hr (fun t ht hW => ⟨⟨_, _, rfl, hv.symm, by dsimp only; rw [ht]; exact hP⟩, hS.F ht⟩) hS.2.2 d_Rd_readVariable_41
  have B25 : ∀ (H : Heap) (locs : List Loc) (ls : Array Slot) (x1 : Int32) (σ : St), v = f_Rd_readVariable_25 x1 σ → k_Rd_readVariable_25 x1 σ → lv_has ls 2 [(0, .ref (h 20)), (1, .int x1)] → va_P D classes (Wc ty h σ px) H → va_D A (Wc ty h σ px) → va_S A s.heap H locs → W p l e (headSpec w_Rd_readVariable rm_Rd_readVariable).room s m args below meth c H locs 0 0 (MQ below (va_Qi (fun r (u : St) => (r, u) = v) (fun u t => va_P D classes (Wc ty h u px) t.heap) A) args s 0 0 A) (F0 m 25 ls []) := by
    intro H locs ls x1 σ hv hk hl hP hD hS
    unfold f_Rd_readVariable_25 at hv
    unfold k_Rd_readVariable_25 at hk
    refine lv_aload_n hx hb d_Rd_readVariable_25 rfl (lv_at hl 0 rfl) ?_
    refine va_get (v := .ref (h 1)) (C := R_Rd) (T := T_Rd) (N := 4) hx hb hg in_Rd hown hK hP 20 rfl rfl 1 (by decide) (hg _ m_134) (fun _ h9 => h9) rfl d_Rd_readVariable_26 ?_
    refine lv_iload_n hx hb d_Rd_readVariable_29 rfl (lv_at hl 1 rfl) ?_
    obtain ⟨hk0, hk⟩ := hk
    refine zz_callV (va_runV (As := [.int x1]) (rest := []) ⟨hx, hb, hml, hown, hg⟩ (c_Sg_isVariable l D ty h px σ x1 hk0) ⟨callB_of 1 hg (gw_C m_357) rfl rfl rfl (hg _ m_2) (hg _ m_667) hd_Sg_isVariable ⟨Nat.le_of_ble_eq_true rfl, Nat.le_of_ble_eq_true rfl⟩, hg _ m_355, hg _ m_356⟩ (zz_preV hN hK hP 1 rfl rfl) rfl rfl hl.1 rfl (lv_room (Nat.le_of_ble_eq_true rfl)) d_Rd_readVariable_30 ⟨Nat.le_of_ble_eq_true rfl, Nat.le_of_ble_eq_true rfl⟩) ?_
    refine lv_if_eq (tgt := 40) hx hb d_Rd_readVariable_33 (by decide) (fun hc => ?_) (fun hc => ?_)
    · have hv := hv.trans (if_pos hc)
      have hk := hk.1 hc
      refine lv_iconst (v := -1) hx hb d_Rd_readVariable_40 (by decide) ?_
      exact B41 _ _ _ (-1) σ hv hk (lv_sub hl [] rfl) hP hD hS
    · have hv := hv.trans (if_neg hc)
      have hk := hk.2 hc
      refine lv_iload_n hx hb d_Rd_readVariable_36 rfl (lv_at hl 1 rfl) ?_
      refine lv_goto (tgt := 41) hx hb d_Rd_readVariable_37 (by decide) ?_
      exact B41 _ _ _ x1 σ hv hk (lv_sub hl [] rfl) hP hD hS
  have B15 : ∀ (H : Heap) (locs : List Loc) (ls : Array Slot) (x1 : Int32) (σ : St), v = f_Rd_readVariable_15 x1 σ → k_Rd_readVariable_15 x1 σ → lv_has ls 2 [(0, .ref (h 20)), (1, .int x1)] → va_P D classes (Wc ty h σ px) H → va_D A (Wc ty h σ px) → va_S A s.heap H locs → W p l e (headSpec w_Rd_readVariable rm_Rd_readVariable).room s m args below meth c H locs 0 0 (MQ below (va_Qi (fun r (u : St) => (r, u) = v) (fun u t => va_P D classes (Wc ty h u px) t.heap) A) args s 0 0 A) (F0 m 15 ls []) := by
    intro H locs ls x1 σ hv hk hl hP hD hS
    unfold f_Rd_readVariable_15 at hv
    unfold k_Rd_readVariable_15 at hk
    refine lv_aload_n hx hb d_Rd_readVariable_15 rfl (lv_at hl 0 rfl) ?_
    refine lv_dup hx hb d_Rd_readVariable_16 rfl ?_
    refine va_get (v := .int (σ.1 20 3)) (C := R_Rd) (T := T_Rd) (N := 4) hx hb hg in_Rd hown hK hP 20 rfl rfl 3 (by decide) (hg _ m_136) (fun _ h9 => h9) rfl d_Rd_readVariable_17 ?_
    refine lv_iconst (v := 1) hx hb d_Rd_readVariable_20 (by decide) ?_
    refine lv_iadd hx hb d_Rd_readVariable_21 ?_
    refine va_put (v := .int ((σ.1 20 3) + 1)) (ty := .int) (C := R_Rd) (T := T_Rd) (N := 4) hx hb hg in_Rd ty_Rd ok_Rd nm_Rd hown hK hP hD hS 20 rfl rfl 3 (by decide) (hg _ m_136) (fun _ h9 => h9) rfl (by decide +kernel) rfl rfl (Nat.le_of_ble_eq_true rfl) d_Rd_readVariable_22 (fun H locs hP hD hS => ?_)
    have hP : va_P D classes (Wc ty h (sF σ 20 3 ((σ.1 20 3) + 1)) px) H := hP
    have hD : va_D A (Wc ty h (sF σ 20 3 ((σ.1 20 3) + 1)) px) := hD
    exact B25 _ _ _ x1 (sF σ 20 3 ((σ.1 20 3) + 1)) hv hk (lv_sub hl [0, 1] rfl) hP hD hS
  unfold f_Rd_readVariable at hv
  unfold k_Rd_readVariable at hk
  refine lv_aload_n hx hb d_Rd_readVariable_0 rfl (lv_at hl 0 rfl) ?_
  refine va_get (v := .ref (h 18)) (C := R_Rd) (T := T_Rd) (N := 4) hx hb hg in_Rd hown hK hP 20 rfl rfl 0 (by decide) (hg _ m_133) (fun _ h9 => h9) rfl d_Rd_readVariable_1 ?_
  refine lv_aload_n hx hb d_Rd_readVariable_4 rfl (lv_at hl 0 rfl) ?_
  refine va_get (v := .int (σ.1 20 3)) (C := R_Rd) (T := T_Rd) (N := 4) hx hb hg in_Rd hown hK hP 20 rfl rfl 3 (by decide) (hg _ m_136) (fun _ h9 => h9) rfl d_Rd_readVariable_5 ?_
  obtain ⟨hk0, hk⟩ := hk
  refine zz_callV (va_runV (As := [.int (σ.1 20 3)]) (rest := []) ⟨hx, hb, hml, hown, hg⟩ (c_Dr_letter l D ty h px σ (σ.1 20 3) hk0) ⟨callB_of 1 hg (gw_C m_583) rfl rfl rfl (hg _ m_4) (hg _ m_580) hd_Dr_letter ⟨Nat.le_of_ble_eq_true rfl, Nat.le_of_ble_eq_true rfl⟩, hg _ m_581, hg _ m_582⟩ (zz_preV hN hK hP 18 rfl rfl) rfl rfl hl.1 rfl (lv_room (Nat.le_of_ble_eq_true rfl)) d_Rd_readVariable_8 ⟨Nat.le_of_ble_eq_true rfl, Nat.le_of_ble_eq_true rfl⟩) ?_
  refine lv_bipush (v := 120) hx hb d_Rd_readVariable_11 (by decide) ?_
  refine lv_isub hx hb d_Rd_readVariable_13 ?_
  refine lv_istore_n (lv' := [(1, .int ((f_Dr_letter (σ.1 20 3) σ) - 120)), (0, .ref (h 20))]) hx hb d_Rd_readVariable_14 rfl hl (by decide) rfl (fun ls hl => ?_)
  exact B15 _ _ _ ((f_Dr_letter (σ.1 20 3) σ) - 120) σ hv hk (lv_sub hl [1, 0] rfl) hP hD hS

-- ClauseLedger$Reader.canBePartsOf(III)Z
abbrev b_Rd_canBePartsOf : ByteArray := prog_5_method_10_code
def y_Rd_canBePartsOf : MethodName := ⟨"ClauseLedger$Reader", "canBePartsOf", "(III)Z"⟩
theorem hd_Rd_canBePartsOf : y_Rd_canBePartsOf.cls ≠ "java/lang/invoke/MethodHandle" ∧ y_Rd_canBePartsOf.cls ≠ "java/lang/invoke/VarHandle" ∧ (parseMethodDescriptor y_Rd_canBePartsOf.desc).map (fun d => d.parameters.length) = some 3 := by decide +kernel
theorem d_Rd_canBePartsOf_0 : decode b_Rd_canBePartsOf 0 = .ok (.iload_n 1, 1) := by decide +kernel
theorem d_Rd_canBePartsOf_1 : decode b_Rd_canBePartsOf 1 = .ok (.iconst 5, 1) := by decide +kernel
theorem d_Rd_canBePartsOf_2 : decode b_Rd_canBePartsOf 2 = .ok (.if_icmp .ne 28, 3) := by decide +kernel
theorem d_Rd_canBePartsOf_5 : decode b_Rd_canBePartsOf 5 = .ok (.aload_n 0, 1) := by decide +kernel
theorem d_Rd_canBePartsOf_6 : decode b_Rd_canBePartsOf 6 = .ok (.getfield 23, 3) := by decide +kernel
theorem d_Rd_canBePartsOf_9 : decode b_Rd_canBePartsOf 9 = .ok (.iload_n 2, 1) := by decide +kernel
theorem d_Rd_canBePartsOf_10 : decode b_Rd_canBePartsOf 10 = .ok (.invokevirtual 105, 3) := by decide +kernel
theorem d_Rd_canBePartsOf_13 : decode b_Rd_canBePartsOf 13 = .ok (.aload_n 0, 1) := by decide +kernel
theorem d_Rd_canBePartsOf_14 : decode b_Rd_canBePartsOf 14 = .ok (.getfield 23, 3) := by decide +kernel
theorem d_Rd_canBePartsOf_17 : decode b_Rd_canBePartsOf 17 = .ok (.iload_n 3, 1) := by decide +kernel
theorem d_Rd_canBePartsOf_18 : decode b_Rd_canBePartsOf 18 = .ok (.invokevirtual 105, 3) := by decide +kernel
theorem d_Rd_canBePartsOf_21 : decode b_Rd_canBePartsOf 21 = .ok (.if_icmp .ne 7, 3) := by decide +kernel
theorem d_Rd_canBePartsOf_24 : decode b_Rd_canBePartsOf 24 = .ok (.iconst 1, 1) := by decide +kernel
theorem d_Rd_canBePartsOf_25 : decode b_Rd_canBePartsOf 25 = .ok (.goto 4, 3) := by decide +kernel
theorem d_Rd_canBePartsOf_28 : decode b_Rd_canBePartsOf 28 = .ok (.iconst 0, 1) := by decide +kernel
theorem d_Rd_canBePartsOf_29 : decode b_Rd_canBePartsOf 29 = .ok (.ireturn, 1) := by decide +kernel
theorem d_Rd_canBePartsOf_30 : decode b_Rd_canBePartsOf 30 = .ok (.iload_n 1, 1) := by decide +kernel
theorem d_Rd_canBePartsOf_31 : decode b_Rd_canBePartsOf 31 = .ok (.iconst 4, 1) := by decide +kernel
theorem d_Rd_canBePartsOf_32 : decode b_Rd_canBePartsOf 32 = .ok (.if_icmp .ne 33, 3) := by decide +kernel
theorem d_Rd_canBePartsOf_35 : decode b_Rd_canBePartsOf 35 = .ok (.aload_n 0, 1) := by decide +kernel
theorem d_Rd_canBePartsOf_36 : decode b_Rd_canBePartsOf 36 = .ok (.getfield 23, 3) := by decide +kernel
theorem d_Rd_canBePartsOf_39 : decode b_Rd_canBePartsOf 39 = .ok (.iload_n 2, 1) := by decide +kernel
theorem d_Rd_canBePartsOf_40 : decode b_Rd_canBePartsOf 40 = .ok (.invokevirtual 115, 3) := by decide +kernel
theorem d_Rd_canBePartsOf_43 : decode b_Rd_canBePartsOf 43 = .ok (.iconst 2, 1) := by decide +kernel
theorem d_Rd_canBePartsOf_44 : decode b_Rd_canBePartsOf 44 = .ok (.if_icmp .ne 19, 3) := by decide +kernel
theorem d_Rd_canBePartsOf_47 : decode b_Rd_canBePartsOf 47 = .ok (.aload_n 0, 1) := by decide +kernel
theorem d_Rd_canBePartsOf_48 : decode b_Rd_canBePartsOf 48 = .ok (.getfield 23, 3) := by decide +kernel
theorem d_Rd_canBePartsOf_51 : decode b_Rd_canBePartsOf 51 = .ok (.iload_n 3, 1) := by decide +kernel
theorem d_Rd_canBePartsOf_52 : decode b_Rd_canBePartsOf 52 = .ok (.invokevirtual 105, 3) := by decide +kernel
theorem d_Rd_canBePartsOf_55 : decode b_Rd_canBePartsOf 55 = .ok (.iconst 1, 1) := by decide +kernel
theorem d_Rd_canBePartsOf_56 : decode b_Rd_canBePartsOf 56 = .ok (.if_icmp .ne 7, 3) := by decide +kernel
theorem d_Rd_canBePartsOf_59 : decode b_Rd_canBePartsOf 59 = .ok (.iconst 1, 1) := by decide +kernel
theorem d_Rd_canBePartsOf_60 : decode b_Rd_canBePartsOf 60 = .ok (.goto 4, 3) := by decide +kernel
theorem d_Rd_canBePartsOf_63 : decode b_Rd_canBePartsOf 63 = .ok (.iconst 0, 1) := by decide +kernel
theorem d_Rd_canBePartsOf_64 : decode b_Rd_canBePartsOf 64 = .ok (.ireturn, 1) := by decide +kernel
theorem d_Rd_canBePartsOf_65 : decode b_Rd_canBePartsOf 65 = .ok (.iload_n 1, 1) := by decide +kernel
theorem d_Rd_canBePartsOf_66 : decode b_Rd_canBePartsOf 66 = .ok (.iconst 3, 1) := by decide +kernel
theorem d_Rd_canBePartsOf_67 : decode b_Rd_canBePartsOf 67 = .ok (.if_icmp .eq 9, 3) := by decide +kernel
theorem d_Rd_canBePartsOf_70 : decode b_Rd_canBePartsOf 70 = .ok (.iload_n 1, 1) := by decide +kernel
theorem d_Rd_canBePartsOf_71 : decode b_Rd_canBePartsOf 71 = .ok (.bipush 6, 2) := by decide +kernel
theorem d_Rd_canBePartsOf_73 : decode b_Rd_canBePartsOf 73 = .ok (.if_icmp .ne 7, 3) := by decide +kernel
theorem d_Rd_canBePartsOf_76 : decode b_Rd_canBePartsOf 76 = .ok (.iconst 1, 1) := by decide +kernel
theorem d_Rd_canBePartsOf_77 : decode b_Rd_canBePartsOf 77 = .ok (.goto 4, 3) := by decide +kernel
theorem d_Rd_canBePartsOf_80 : decode b_Rd_canBePartsOf 80 = .ok (.iconst 0, 1) := by decide +kernel
theorem d_Rd_canBePartsOf_81 : decode b_Rd_canBePartsOf 81 = .ok (.istore 4, 2) := by decide +kernel
theorem d_Rd_canBePartsOf_83 : decode b_Rd_canBePartsOf 83 = .ok (.aload_n 0, 1) := by decide +kernel
theorem d_Rd_canBePartsOf_84 : decode b_Rd_canBePartsOf 84 = .ok (.getfield 23, 3) := by decide +kernel
theorem d_Rd_canBePartsOf_87 : decode b_Rd_canBePartsOf 87 = .ok (.iload_n 2, 1) := by decide +kernel
theorem d_Rd_canBePartsOf_88 : decode b_Rd_canBePartsOf 88 = .ok (.invokevirtual 105, 3) := by decide +kernel
theorem d_Rd_canBePartsOf_91 : decode b_Rd_canBePartsOf 91 = .ok (.iload 4, 2) := by decide +kernel
theorem d_Rd_canBePartsOf_93 : decode b_Rd_canBePartsOf 93 = .ok (.if_icmp .ne 20, 3) := by decide +kernel
theorem d_Rd_canBePartsOf_96 : decode b_Rd_canBePartsOf 96 = .ok (.aload_n 0, 1) := by decide +kernel
theorem d_Rd_canBePartsOf_97 : decode b_Rd_canBePartsOf 97 = .ok (.getfield 23, 3) := by decide +kernel
theorem d_Rd_canBePartsOf_100 : decode b_Rd_canBePartsOf 100 = .ok (.iload_n 3, 1) := by decide +kernel
theorem d_Rd_canBePartsOf_101 : decode b_Rd_canBePartsOf 101 = .ok (.invokevirtual 105, 3) := by decide +kernel
theorem d_Rd_canBePartsOf_104 : decode b_Rd_canBePartsOf 104 = .ok (.iload 4, 2) := by decide +kernel
theorem d_Rd_canBePartsOf_106 : decode b_Rd_canBePartsOf 106 = .ok (.if_icmp .ne 7, 3) := by decide +kernel
theorem d_Rd_canBePartsOf_109 : decode b_Rd_canBePartsOf 109 = .ok (.iconst 1, 1) := by decide +kernel
theorem d_Rd_canBePartsOf_110 : decode b_Rd_canBePartsOf 110 = .ok (.goto 4, 3) := by decide +kernel
theorem d_Rd_canBePartsOf_113 : decode b_Rd_canBePartsOf 113 = .ok (.iconst 0, 1) := by decide +kernel
theorem d_Rd_canBePartsOf_114 : decode b_Rd_canBePartsOf 114 = .ok (.ireturn, 1) := by decide +kernel
def f_Rd_canBePartsOf_29 (s0 : Int32) (σ : St) : Int32 := s0
def k_Rd_canBePartsOf_29 (s0 : Int32) (σ : St) : Prop := (narrow .boolean (.int s0) = .int s0) ∧ True
def f_Rd_canBePartsOf_64 (s0 : Int32) (σ : St) : Int32 := s0
def k_Rd_canBePartsOf_64 (s0 : Int32) (σ : St) : Prop := (narrow .boolean (.int s0) = .int s0) ∧ True
def f_Rd_canBePartsOf_63 (σ : St) : Int32 := f_Rd_canBePartsOf_64 0 σ
def k_Rd_canBePartsOf_63 (σ : St) : Prop := k_Rd_canBePartsOf_64 0 σ
def f_Rd_canBePartsOf_114 (s0 : Int32) (σ : St) : Int32 := s0
def k_Rd_canBePartsOf_114 (s0 : Int32) (σ : St) : Prop := (narrow .boolean (.int s0) = .int s0) ∧ True
def f_Rd_canBePartsOf_113 (σ : St) : Int32 := f_Rd_canBePartsOf_114 0 σ
def k_Rd_canBePartsOf_113 (σ : St) : Prop := k_Rd_canBePartsOf_114 0 σ
def f_Rd_canBePartsOf_81 (x2 : Int32) (x3 : Int32) (s0 : Int32) (σ : St) : Int32 := if (f_Te_sortOf x2 σ) = s0 then (if (f_Te_sortOf x3 σ) = s0 then (f_Rd_canBePartsOf_114 1 σ) else (f_Rd_canBePartsOf_113 σ)) else (f_Rd_canBePartsOf_113 σ)
def k_Rd_canBePartsOf_81 (x2 : Int32) (x3 : Int32) (s0 : Int32) (σ : St) : Prop := (k_Te_sortOf x2 σ) ∧ (((f_Te_sortOf x2 σ) = s0 → ((k_Te_sortOf x3 σ) ∧ (((f_Te_sortOf x3 σ) = s0 → (k_Rd_canBePartsOf_114 1 σ)) ∧ (¬ (f_Te_sortOf x3 σ) = s0 → (k_Rd_canBePartsOf_113 σ))))) ∧ (¬ (f_Te_sortOf x2 σ) = s0 → (k_Rd_canBePartsOf_113 σ)))
def f_Rd_canBePartsOf_76 (x2 : Int32) (x3 : Int32) (σ : St) : Int32 := f_Rd_canBePartsOf_81 x2 x3 1 σ
def k_Rd_canBePartsOf_76 (x2 : Int32) (x3 : Int32) (σ : St) : Prop := k_Rd_canBePartsOf_81 x2 x3 1 σ
def f_Rd_canBePartsOf (a1 : Int32) (a2 : Int32) (a3 : Int32) (σ : St) : Int32 := if a1 = 5 then (if (f_Te_sortOf a2 σ) = (f_Te_sortOf a3 σ) then (f_Rd_canBePartsOf_29 1 σ) else (f_Rd_canBePartsOf_29 0 σ)) else (if a1 = 4 then (if (f_Te_kindOf a2 σ) = 2 then (if (f_Te_sortOf a3 σ) = 1 then (f_Rd_canBePartsOf_64 1 σ) else (f_Rd_canBePartsOf_63 σ)) else (f_Rd_canBePartsOf_63 σ)) else (if a1 = 3 then (f_Rd_canBePartsOf_76 a2 a3 σ) else (if a1 = 6 then (f_Rd_canBePartsOf_76 a2 a3 σ) else (f_Rd_canBePartsOf_81 a2 a3 0 σ))))
def k_Rd_canBePartsOf (a1 : Int32) (a2 : Int32) (a3 : Int32) (σ : St) : Prop := (a1 = 5 → ((k_Te_sortOf a2 σ) ∧ ((k_Te_sortOf a3 σ) ∧ (((f_Te_sortOf a2 σ) = (f_Te_sortOf a3 σ) → (k_Rd_canBePartsOf_29 1 σ)) ∧ (¬ (f_Te_sortOf a2 σ) = (f_Te_sortOf a3 σ) → (k_Rd_canBePartsOf_29 0 σ)))))) ∧ (¬ a1 = 5 → ((a1 = 4 → ((k_Te_kindOf a2 σ) ∧ (((f_Te_kindOf a2 σ) = 2 → ((k_Te_sortOf a3 σ) ∧ (((f_Te_sortOf a3 σ) = 1 → (k_Rd_canBePartsOf_64 1 σ)) ∧ (¬ (f_Te_sortOf a3 σ) = 1 → (k_Rd_canBePartsOf_63 σ))))) ∧ (¬ (f_Te_kindOf a2 σ) = 2 → (k_Rd_canBePartsOf_63 σ))))) ∧ (¬ a1 = 4 → ((a1 = 3 → (k_Rd_canBePartsOf_76 a2 a3 σ)) ∧ (¬ a1 = 3 → ((a1 = 6 → (k_Rd_canBePartsOf_76 a2 a3 σ)) ∧ (¬ a1 = 6 → (k_Rd_canBePartsOf_81 a2 a3 0 σ))))))))
abbrev w_Rd_canBePartsOf : List Cond := Cond.code y_Rd_canBePartsOf b_Rd_canBePartsOf 5 (some .boolean) :: gw
abbrev rm_Rd_canBePartsOf : Room := { frames := 2, cells := 0, slots := 0, locals := 42 }
set_option maxHeartbeats 4000000 in
set_option maxRecDepth 100000 in
theorem c_Rd_canBePartsOf (l : Launch) (D : va_G) (ty : Nat → ClassId) (h : Nat → Nat) (px : va_W) (σ : St) (a1 : Int32) (a2 : Int32) (a3 : Int32) (hk : k_Rd_canBePartsOf a1 a2 a3 σ) : Met l y_Rd_canBePartsOf w_Rd_canBePartsOf rm_Rd_canBePartsOf (va_Pc [.ref (h 20), .int a1, .int a2, .int a3] (fun U => va_P D classes (Wc ty h σ px) U.heap ∧ va_K D classes (Ta ty) U ∧ NW U)) (k2_QcV (.int (f_Rd_canBePartsOf a1 a2 a3 σ))) 0 0 (fun _ => False) := by
  refine Met.ofW (cc := b_Rd_canBePartsOf) (maxL := 5) (ret := (some .boolean)) (by decide) rfl ?_
  intro p e s m args below meth c s₁ B hml hv
  obtain ⟨ha, hP, hK, hN⟩ := hv
  have hx := B.exec
  have hb := B.bytes
  have hr := B.returns
  have hg : ∀ w ∈ gw, w.before args s = true := fun w h9 => atoms_spec (ws := w_Rd_canBePartsOf) B.pre w (List.mem_cons_of_mem _ h9)
  have hown : s.vm.findClass "ClauseLedger$Reader" = some m.cls := findClass_of_methodNamed B.named
  have hlocks := B.notSynchronized
  have he : entryFrame m args 5 = entryFrame m ([.ref (h 20), .int a1, .int a2, .int a3] : List Value).toArray 5 := by rw [ha]
  rw [he, lg_entry_eq]
  have hl := lv_entry ([.ref (h 20), .int a1, .int a2, .int a3]) (n := 5) (Nat.le_of_ble_eq_true rfl)
  generalize (lg_sl ([.ref (h 20), .int a1, .int a2, .int a3]) ++ List.replicate (5 - (lg_sl ([.ref (h 20), .int a1, .int a2, .int a3])).length) Slot.unset).toArray = ls at hl ⊢
  have hl : lv_has ls 5 [(0, .ref (h 20)), (1, .int a1), (2, .int a2), (3, .int a3)] := hl
  generalize hv : f_Rd_canBePartsOf a1 a2 a3 σ = v
  replace hv := hv.symm
  have B29 : ∀ (ls : Array Slot) (s0 : Int32), v = f_Rd_canBePartsOf_29 s0 σ → k_Rd_canBePartsOf_29 s0 σ → lv_has ls 5 [] → W p l e (headSpec w_Rd_canBePartsOf rm_Rd_canBePartsOf).room s m args below meth c s.heap [] 0 0 (MQ below (k2_QcV (.int v)) args s 0 0 (fun _ => False)) (F0 m 29 ls [.int s0]) := by
    intro ls s0 hv hk hl
    unfold f_Rd_canBePartsOf_29 at hv
    unfold k_Rd_canBePartsOf_29 at hk
    obtain ⟨hk0, hk⟩ := hk
    exact W.zret hx hb hr hk0 (fun t ht hW => ⟨by rw [hv], ht⟩) (fun q h => nomatch h) d_Rd_canBePartsOf_29
  have B64 : ∀ (ls : Array Slot) (s0 : Int32), v = f_Rd_canBePartsOf_64 s0 σ → k_Rd_canBePartsOf_64 s0 σ → lv_has ls 5 [] → W p l e (headSpec w_Rd_canBePartsOf rm_Rd_canBePartsOf).room s m args below meth c s.heap [] 0 0 (MQ below (k2_QcV (.int v)) args s 0 0 (fun _ => False)) (F0 m 64 ls [.int s0]) := by
    intro ls s0 hv hk hl
    unfold f_Rd_canBePartsOf_64 at hv
    unfold k_Rd_canBePartsOf_64 at hk
    obtain ⟨hk0, hk⟩ := hk
    exact W.zret hx hb hr hk0 (fun t ht hW => ⟨by rw [hv], ht⟩) (fun q h => nomatch h) d_Rd_canBePartsOf_64
  have B63 : ∀ (ls : Array Slot), v = f_Rd_canBePartsOf_63 σ → k_Rd_canBePartsOf_63 σ → lv_has ls 5 [] → W p l e (headSpec w_Rd_canBePartsOf rm_Rd_canBePartsOf).room s m args below meth c s.heap [] 0 0 (MQ below (k2_QcV (.int v)) args s 0 0 (fun _ => False)) (F0 m 63 ls []) := by
    intro ls hv hk hl
    unfold f_Rd_canBePartsOf_63 at hv
    unfold k_Rd_canBePartsOf_63 at hk
    refine lv_iconst (v := 0) hx hb d_Rd_canBePartsOf_63 (by decide) ?_
    exact B64 _ 0 hv hk (lv_sub hl [] rfl)
  have B114 : ∀ (ls : Array Slot) (s0 : Int32), v = f_Rd_canBePartsOf_114 s0 σ → k_Rd_canBePartsOf_114 s0 σ → lv_has ls 5 [] → W p l e (headSpec w_Rd_canBePartsOf rm_Rd_canBePartsOf).room s m args below meth c s.heap [] 0 0 (MQ below (k2_QcV (.int v)) args s 0 0 (fun _ => False)) (F0 m 114 ls [.int s0]) := by
    intro ls s0 hv hk hl
    unfold f_Rd_canBePartsOf_114 at hv
    unfold k_Rd_canBePartsOf_114 at hk
    obtain ⟨hk0, hk⟩ := hk
    exact W.zret hx hb hr hk0 (fun t ht hW => ⟨by rw [hv], ht⟩) (fun q h => nomatch h) d_Rd_canBePartsOf_114
  have B113 : ∀ (ls : Array Slot), v = f_Rd_canBePartsOf_113 σ → k_Rd_canBePartsOf_113 σ → lv_has ls 5 [] → W p l e (headSpec w_Rd_canBePartsOf rm_Rd_canBePartsOf).room s m args below meth c s.heap [] 0 0 (MQ below (k2_QcV (.int v)) args s 0 0 (fun _ => False)) (F0 m 113 ls []) := by
    intro ls hv hk hl
    unfold f_Rd_canBePartsOf_113 at hv
    unfold k_Rd_canBePartsOf_113 at hk
    refine lv_iconst (v := 0) hx hb d_Rd_canBePartsOf_113 (by decide) ?_
    exact B114 _ 0 hv hk (lv_sub hl [] rfl)
  have B81 : ∀ (ls : Array Slot) (x2 : Int32) (x3 : Int32) (s0 : Int32), v = f_Rd_canBePartsOf_81 x2 x3 s0 σ → k_Rd_canBePartsOf_81 x2 x3 s0 σ → lv_has ls 5 [(0, .ref (h 20)), (2, .int x2), (3, .int x3)] → W p l e (headSpec w_Rd_canBePartsOf rm_Rd_canBePartsOf).room s m args below meth c s.heap [] 0 0 (MQ below (k2_QcV (.int v)) args s 0 0 (fun _ => False)) (F0 m 81 ls [.int s0]) := by
    intro ls x2 x3 s0 hv hk hl
    unfold f_Rd_canBePartsOf_81 at hv
    unfold k_Rd_canBePartsOf_81 at hk
    refine lv_istore (lv' := [(4, .int s0), (0, .ref (h 20)), (2, .int x2), (3, .int x3)]) hx hb d_Rd_canBePartsOf_81 hl (by decide) rfl (fun ls hl => ?_)
    refine lv_aload_n hx hb d_Rd_canBePartsOf_83 rfl (lv_at hl 1 rfl) ?_
    refine va_get (v := .ref (h 6)) (C := R_Rd) (T := T_Rd) (N := 4) hx hb hg in_Rd hown hK hP 20 rfl rfl 2 (by decide) (hg _ m_135) (fun _ h9 => h9) rfl d_Rd_canBePartsOf_84 ?_
    refine lv_iload_n hx hb d_Rd_canBePartsOf_87 rfl (lv_at hl 2 rfl) ?_
    obtain ⟨hk0, hk⟩ := hk
    refine zz_callV (va_runV (As := [.int x2]) (rest := []) ⟨hx, hb, hml, hown, hg⟩ (c_Te_sortOf l D ty h px σ x2 hk0) ⟨callB_of 1 hg (gw_C m_439) rfl rfl rfl (hg _ m_3) (hg _ m_612) hd_Te_sortOf ⟨Nat.le_of_ble_eq_true rfl, Nat.le_of_ble_eq_true rfl⟩, hg _ m_437, hg _ m_438⟩ (zz_preV hN hK hP 6 rfl rfl) rfl rfl hl.1 rfl (lv_room (Nat.le_of_ble_eq_true rfl)) d_Rd_canBePartsOf_88 ⟨Nat.le_of_ble_eq_true rfl, Nat.le_of_ble_eq_true rfl⟩) ?_
    refine lv_iload hx hb d_Rd_canBePartsOf_91 (lv_at hl 0 rfl) ?_
    refine lv_icmp_ne (tgt := 113) hx hb d_Rd_canBePartsOf_93 (by decide) (fun hc => ?_) (fun hc => ?_)
    · have hv := hv.trans (if_neg hc)
      have hk := hk.2 hc
      exact B113 _  hv hk (lv_sub hl [] rfl)
    · have hv := hv.trans (if_pos hc)
      have hk := hk.1 hc
      refine lv_aload_n hx hb d_Rd_canBePartsOf_96 rfl (lv_at hl 1 rfl) ?_
      refine va_get (v := .ref (h 6)) (C := R_Rd) (T := T_Rd) (N := 4) hx hb hg in_Rd hown hK hP 20 rfl rfl 2 (by decide) (hg _ m_135) (fun _ h9 => h9) rfl d_Rd_canBePartsOf_97 ?_
      refine lv_iload_n hx hb d_Rd_canBePartsOf_100 rfl (lv_at hl 3 rfl) ?_
      obtain ⟨hk0, hk⟩ := hk
      refine zz_callV (va_runV (As := [.int x3]) (rest := []) ⟨hx, hb, hml, hown, hg⟩ (c_Te_sortOf l D ty h px σ x3 hk0) ⟨callB_of 1 hg (gw_C m_439) rfl rfl rfl (hg _ m_3) (hg _ m_612) hd_Te_sortOf ⟨Nat.le_of_ble_eq_true rfl, Nat.le_of_ble_eq_true rfl⟩, hg _ m_437, hg _ m_438⟩ (zz_preV hN hK hP 6 rfl rfl) rfl rfl hl.1 rfl (lv_room (Nat.le_of_ble_eq_true rfl)) d_Rd_canBePartsOf_101 ⟨Nat.le_of_ble_eq_true rfl, Nat.le_of_ble_eq_true rfl⟩) ?_
      refine lv_iload hx hb d_Rd_canBePartsOf_104 (lv_at hl 0 rfl) ?_
      refine lv_icmp_ne (tgt := 113) hx hb d_Rd_canBePartsOf_106 (by decide) (fun hc => ?_) (fun hc => ?_)
      · have hv := hv.trans (if_neg hc)
        have hk := hk.2 hc
        exact B113 _  hv hk (lv_sub hl [] rfl)
      · have hv := hv.trans (if_pos hc)
        have hk := hk.1 hc
        refine lv_iconst (v := 1) hx hb d_Rd_canBePartsOf_109 (by decide) ?_
        refine lv_goto (tgt := 114) hx hb d_Rd_canBePartsOf_110 (by decide) ?_
        exact B114 _ 1 hv hk (lv_sub hl [] rfl)
  have B76 : ∀ (ls : Array Slot) (x2 : Int32) (x3 : Int32), v = f_Rd_canBePartsOf_76 x2 x3 σ → k_Rd_canBePartsOf_76 x2 x3 σ → lv_has ls 5 [(0, .ref (h 20)), (2, .int x2), (3, .int x3)] → W p l e (headSpec w_Rd_canBePartsOf rm_Rd_canBePartsOf).room s m args below meth c s.heap [] 0 0 (MQ below (k2_QcV (.int v)) args s 0 0 (fun _ => False)) (F0 m 76 ls []) := by
    intro ls x2 x3 hv hk hl
    unfold f_Rd_canBePartsOf_76 at hv
    unfold k_Rd_canBePartsOf_76 at hk
    refine lv_iconst (v := 1) hx hb d_Rd_canBePartsOf_76 (by decide) ?_
    refine lv_goto (tgt := 81) hx hb d_Rd_canBePartsOf_77 (by decide) ?_
    exact B81 _ x2 x3 1 hv hk (lv_sub hl [0, 1, 2] rfl)
  unfold f_Rd_canBePartsOf at hv
  unfold k_Rd_canBePartsOf at hk
  refine lv_iload_n hx hb d_Rd_canBePartsOf_0 rfl (lv_at hl 1 rfl) ?_
  refine lv_iconst (v := 5) hx hb d_Rd_canBePartsOf_1 (by decide) ?_
  refine lv_icmp_ne (tgt := 30) hx hb d_Rd_canBePartsOf_2 (by decide) (fun hc => ?_) (fun hc => ?_)
  · have hv := hv.trans (if_neg hc)
    have hk := hk.2 hc
    refine lv_iload_n hx hb d_Rd_canBePartsOf_30 rfl (lv_at hl 1 rfl) ?_
    refine lv_iconst (v := 4) hx hb d_Rd_canBePartsOf_31 (by decide) ?_
    refine lv_icmp_ne (tgt := 65) hx hb d_Rd_canBePartsOf_32 (by decide) (fun hc => ?_) (fun hc => ?_)
    · have hv := hv.trans (if_neg hc)
      have hk := hk.2 hc
      refine lv_iload_n hx hb d_Rd_canBePartsOf_65 rfl (lv_at hl 1 rfl) ?_
      refine lv_iconst (v := 3) hx hb d_Rd_canBePartsOf_66 (by decide) ?_
      refine lv_icmp_eq (tgt := 76) hx hb d_Rd_canBePartsOf_67 (by decide) (fun hc => ?_) (fun hc => ?_)
      · have hv := hv.trans (if_pos hc)
        have hk := hk.1 hc
        exact B76 _ a2 a3 hv hk (lv_sub hl [0, 2, 3] rfl)
      · have hv := hv.trans (if_neg hc)
        have hk := hk.2 hc
        refine lv_iload_n hx hb d_Rd_canBePartsOf_70 rfl (lv_at hl 1 rfl) ?_
        refine lv_bipush (v := 6) hx hb d_Rd_canBePartsOf_71 (by decide) ?_
        refine lv_icmp_ne (tgt := 80) hx hb d_Rd_canBePartsOf_73 (by decide) (fun hc => ?_) (fun hc => ?_)
        · have hv := hv.trans (if_neg hc)
          have hk := hk.2 hc
          refine lv_iconst (v := 0) hx hb d_Rd_canBePartsOf_80 (by decide) ?_
          exact B81 _ a2 a3 0 hv hk (lv_sub hl [0, 2, 3] rfl)
        · have hv := hv.trans (if_pos hc)
          have hk := hk.1 hc
          exact B76 _ a2 a3 hv hk (lv_sub hl [0, 2, 3] rfl)
    · have hv := hv.trans (if_pos hc)
      have hk := hk.1 hc
      refine lv_aload_n hx hb d_Rd_canBePartsOf_35 rfl (lv_at hl 0 rfl) ?_
      refine va_get (v := .ref (h 6)) (C := R_Rd) (T := T_Rd) (N := 4) hx hb hg in_Rd hown hK hP 20 rfl rfl 2 (by decide) (hg _ m_135) (fun _ h9 => h9) rfl d_Rd_canBePartsOf_36 ?_
      refine lv_iload_n hx hb d_Rd_canBePartsOf_39 rfl (lv_at hl 2 rfl) ?_
      obtain ⟨hk0, hk⟩ := hk
      refine zz_callV (va_runV (As := [.int a2]) (rest := []) ⟨hx, hb, hml, hown, hg⟩ (c_Te_kindOf l D ty h px σ a2 hk0) ⟨callB_of 1 hg (gw_C m_434) rfl rfl rfl (hg _ m_3) (hg _ m_732) hd_Te_kindOf ⟨Nat.le_of_ble_eq_true rfl, Nat.le_of_ble_eq_true rfl⟩, hg _ m_432, hg _ m_433⟩ (zz_preV hN hK hP 6 rfl rfl) rfl rfl hl.1 rfl (lv_room (Nat.le_of_ble_eq_true rfl)) d_Rd_canBePartsOf_40 ⟨Nat.le_of_ble_eq_true rfl, Nat.le_of_ble_eq_true rfl⟩) ?_
      refine lv_iconst (v := 2) hx hb d_Rd_canBePartsOf_43 (by decide) ?_
      refine lv_icmp_ne (tgt := 63) hx hb d_Rd_canBePartsOf_44 (by decide) (fun hc => ?_) (fun hc => ?_)
      · have hv := hv.trans (if_neg hc)
        have hk := hk.2 hc
        exact B63 _  hv hk (lv_sub hl [] rfl)
      · have hv := hv.trans (if_pos hc)
        have hk := hk.1 hc
        refine lv_aload_n hx hb d_Rd_canBePartsOf_47 rfl (lv_at hl 0 rfl) ?_
        refine va_get (v := .ref (h 6)) (C := R_Rd) (T := T_Rd) (N := 4) hx hb hg in_Rd hown hK hP 20 rfl rfl 2 (by decide) (hg _ m_135) (fun _ h9 => h9) rfl d_Rd_canBePartsOf_48 ?_
        refine lv_iload_n hx hb d_Rd_canBePartsOf_51 rfl (lv_at hl 3 rfl) ?_
        obtain ⟨hk0, hk⟩ := hk
        refine zz_callV (va_runV (As := [.int a3]) (rest := []) ⟨hx, hb, hml, hown, hg⟩ (c_Te_sortOf l D ty h px σ a3 hk0) ⟨callB_of 1 hg (gw_C m_439) rfl rfl rfl (hg _ m_3) (hg _ m_612) hd_Te_sortOf ⟨Nat.le_of_ble_eq_true rfl, Nat.le_of_ble_eq_true rfl⟩, hg _ m_437, hg _ m_438⟩ (zz_preV hN hK hP 6 rfl rfl) rfl rfl hl.1 rfl (lv_room (Nat.le_of_ble_eq_true rfl)) d_Rd_canBePartsOf_52 ⟨Nat.le_of_ble_eq_true rfl, Nat.le_of_ble_eq_true rfl⟩) ?_
        refine lv_iconst (v := 1) hx hb d_Rd_canBePartsOf_55 (by decide) ?_
        refine lv_icmp_ne (tgt := 63) hx hb d_Rd_canBePartsOf_56 (by decide) (fun hc => ?_) (fun hc => ?_)
        · have hv := hv.trans (if_neg hc)
          have hk := hk.2 hc
          exact B63 _  hv hk (lv_sub hl [] rfl)
        · have hv := hv.trans (if_pos hc)
          have hk := hk.1 hc
          refine lv_iconst (v := 1) hx hb d_Rd_canBePartsOf_59 (by decide) ?_
          refine lv_goto (tgt := 64) hx hb d_Rd_canBePartsOf_60 (by decide) ?_
          exact B64 _ 1 hv hk (lv_sub hl [] rfl)
  · have hv := hv.trans (if_pos hc)
    have hk := hk.1 hc
    refine lv_aload_n hx hb d_Rd_canBePartsOf_5 rfl (lv_at hl 0 rfl) ?_
    refine va_get (v := .ref (h 6)) (C := R_Rd) (T := T_Rd) (N := 4) hx hb hg in_Rd hown hK hP 20 rfl rfl 2 (by decide) (hg _ m_135) (fun _ h9 => h9) rfl d_Rd_canBePartsOf_6 ?_
    refine lv_iload_n hx hb d_Rd_canBePartsOf_9 rfl (lv_at hl 2 rfl) ?_
    obtain ⟨hk0, hk⟩ := hk
    refine zz_callV (va_runV (As := [.int a2]) (rest := []) ⟨hx, hb, hml, hown, hg⟩ (c_Te_sortOf l D ty h px σ a2 hk0) ⟨callB_of 1 hg (gw_C m_439) rfl rfl rfl (hg _ m_3) (hg _ m_612) hd_Te_sortOf ⟨Nat.le_of_ble_eq_true rfl, Nat.le_of_ble_eq_true rfl⟩, hg _ m_437, hg _ m_438⟩ (zz_preV hN hK hP 6 rfl rfl) rfl rfl hl.1 rfl (lv_room (Nat.le_of_ble_eq_true rfl)) d_Rd_canBePartsOf_10 ⟨Nat.le_of_ble_eq_true rfl, Nat.le_of_ble_eq_true rfl⟩) ?_
    refine lv_aload_n hx hb d_Rd_canBePartsOf_13 rfl (lv_at hl 0 rfl) ?_
    refine va_get (v := .ref (h 6)) (C := R_Rd) (T := T_Rd) (N := 4) hx hb hg in_Rd hown hK hP 20 rfl rfl 2 (by decide) (hg _ m_135) (fun _ h9 => h9) rfl d_Rd_canBePartsOf_14 ?_
    refine lv_iload_n hx hb d_Rd_canBePartsOf_17 rfl (lv_at hl 3 rfl) ?_
    obtain ⟨hk0, hk⟩ := hk
    refine zz_callV (va_runV (As := [.int a3]) (rest := [.int (f_Te_sortOf a2 σ)]) ⟨hx, hb, hml, hown, hg⟩ (c_Te_sortOf l D ty h px σ a3 hk0) ⟨callB_of 1 hg (gw_C m_439) rfl rfl rfl (hg _ m_3) (hg _ m_612) hd_Te_sortOf ⟨Nat.le_of_ble_eq_true rfl, Nat.le_of_ble_eq_true rfl⟩, hg _ m_437, hg _ m_438⟩ (zz_preV hN hK hP 6 rfl rfl) rfl rfl hl.1 rfl (lv_room (Nat.le_of_ble_eq_true rfl)) d_Rd_canBePartsOf_18 ⟨Nat.le_of_ble_eq_true rfl, Nat.le_of_ble_eq_true rfl⟩) ?_
    refine lv_icmp_ne (tgt := 28) hx hb d_Rd_canBePartsOf_21 (by decide) (fun hc => ?_) (fun hc => ?_)
    · have hv := hv.trans (if_neg hc)
      have hk := hk.2 hc
      refine lv_iconst (v := 0) hx hb d_Rd_canBePartsOf_28 (by decide) ?_
      exact B29 _ 0 hv hk (lv_sub hl [] rfl)
    · have hv := hv.trans (if_pos hc)
      have hk := hk.1 hc
      refine lv_iconst (v := 1) hx hb d_Rd_canBePartsOf_24 (by decide) ?_
      refine lv_goto (tgt := 29) hx hb d_Rd_canBePartsOf_25 (by decide) ?_
      exact B29 _ 1 hv hk (lv_sub hl [] rfl)

-- ClauseLedger$Reader.take(C)Z
abbrev b_Rd_take : ByteArray := prog_5_method_15_code
def y_Rd_take : MethodName := ⟨"ClauseLedger$Reader", "take", "(C)Z"⟩
theorem hd_Rd_take : y_Rd_take.cls ≠ "java/lang/invoke/MethodHandle" ∧ y_Rd_take.cls ≠ "java/lang/invoke/VarHandle" ∧ (parseMethodDescriptor y_Rd_take.desc).map (fun d => d.parameters.length) = some 1 := by decide +kernel
theorem d_Rd_take_0 : decode b_Rd_take 0 = .ok (.aload_n 0, 1) := by decide +kernel
theorem d_Rd_take_1 : decode b_Rd_take 1 = .ok (.getfield 15, 3) := by decide +kernel
theorem d_Rd_take_4 : decode b_Rd_take 4 = .ok (.aload_n 0, 1) := by decide +kernel
theorem d_Rd_take_5 : decode b_Rd_take 5 = .ok (.getfield 9, 3) := by decide +kernel
theorem d_Rd_take_8 : decode b_Rd_take 8 = .ok (.invokevirtual 37, 3) := by decide +kernel
theorem d_Rd_take_11 : decode b_Rd_take 11 = .ok (.iload_n 1, 1) := by decide +kernel
theorem d_Rd_take_12 : decode b_Rd_take 12 = .ok (.if_icmp .eq 5, 3) := by decide +kernel
theorem d_Rd_take_15 : decode b_Rd_take 15 = .ok (.iconst 0, 1) := by decide +kernel
theorem d_Rd_take_16 : decode b_Rd_take 16 = .ok (.ireturn, 1) := by decide +kernel
theorem d_Rd_take_17 : decode b_Rd_take 17 = .ok (.aload_n 0, 1) := by decide +kernel
theorem d_Rd_take_18 : decode b_Rd_take 18 = .ok (.dup, 1) := by decide +kernel
theorem d_Rd_take_19 : decode b_Rd_take 19 = .ok (.getfield 9, 3) := by decide +kernel
theorem d_Rd_take_22 : decode b_Rd_take 22 = .ok (.iconst 1, 1) := by decide +kernel
theorem d_Rd_take_23 : decode b_Rd_take 23 = .ok (.iadd, 1) := by decide +kernel
theorem d_Rd_take_24 : decode b_Rd_take 24 = .ok (.putfield 9, 3) := by decide +kernel
theorem d_Rd_take_27 : decode b_Rd_take 27 = .ok (.iconst 1, 1) := by decide +kernel
theorem d_Rd_take_28 : decode b_Rd_take 28 = .ok (.ireturn, 1) := by decide +kernel
def f_Rd_take_27 (σ : St) : Int32 × St := (1, σ)
def k_Rd_take_27 (σ : St) : Prop := True
def f_Rd_take (a1 : Int32) (σ : St) : Int32 × St := if (f_Dr_letter (σ.1 20 3) σ) = a1 then (f_Rd_take_27 (sF σ 20 3 ((σ.1 20 3) + 1))) else (0, σ)
def k_Rd_take (a1 : Int32) (σ : St) : Prop := (k_Dr_letter (σ.1 20 3) σ) ∧ (((f_Dr_letter (σ.1 20 3) σ) = a1 → (k_Rd_take_27 (sF σ 20 3 ((σ.1 20 3) + 1)))) ∧ (¬ (f_Dr_letter (σ.1 20 3) σ) = a1 → True))
abbrev w_Rd_take : List Cond := Cond.code y_Rd_take b_Rd_take 2 (some .boolean) :: gw
abbrev rm_Rd_take : Room := { frames := 1, cells := 0, slots := 0, locals := 21 }
set_option maxHeartbeats 4000000 in
set_option maxRecDepth 100000 in
theorem c_Rd_take (l : Launch) (D : va_G) (ty : Nat → ClassId) (h : Nat → Nat) (px : va_W) (σ : St) (sz : Nat) (a1 : Int32) (hk : k_Rd_take a1 σ) : Met l y_Rd_take w_Rd_take rm_Rd_take (va_Pc [.ref (h 20), .int a1] (fun U => U.heap.size = sz ∧ va_P D classes (Wc ty h σ px) U.heap ∧ va_K D classes (Ta ty) U ∧ NW U ∧ va_D (fun _ => True) (Wc ty h σ px))) (va_Qi (fun r (u : St) => (r, u) = f_Rd_take a1 σ) (fun u t => va_P D classes (Wc ty h u px) t.heap) (va_A (Wc ty h σ px) sz)) 0 0 (va_A (Wc ty h σ px) sz) := by
  refine Met.ofW (cc := b_Rd_take) (maxL := 2) (ret := (some .boolean)) (by decide) rfl ?_
  intro p e s m args below meth c s₁ B hml hv
  obtain ⟨ha, hsz, hP, hK, hN, hD0⟩ := hv
  have hx := B.exec
  have hb := B.bytes
  have hr := B.returns
  have hg : ∀ w ∈ gw, w.before args s = true := fun w h9 => atoms_spec (ws := w_Rd_take) B.pre w (List.mem_cons_of_mem _ h9)
  have hown : s.vm.findClass "ClauseLedger$Reader" = some m.cls := findClass_of_methodNamed B.named
  have hlocks := B.notSynchronized
  subst hsz
  have hD := hD0.self (sz := s.heap.size)
  generalize hAe : va_A (Wc ty h σ px) s.heap.size = A at hD ⊢
  have hA : ∀ q : Nat, s.heap.size ≤ q → A q := fun q h9 => by rw [← hAe]; exact Or.inr h9
  have hS : va_S A s.heap s.heap [] := va_S.rf
  have he : entryFrame m args 2 = entryFrame m ([.ref (h 20), .int a1] : List Value).toArray 2 := by rw [ha]
  rw [he, lg_entry_eq]
  have hl := lv_entry ([.ref (h 20), .int a1]) (n := 2) (Nat.le_of_ble_eq_true rfl)
  generalize (lg_sl ([.ref (h 20), .int a1]) ++ List.replicate (2 - (lg_sl ([.ref (h 20), .int a1])).length) Slot.unset).toArray = ls at hl ⊢
  have hl : lv_has ls 2 [(0, .ref (h 20)), (1, .int a1)] := hl
  generalize hv : f_Rd_take a1 σ = v
  replace hv := hv.symm
  have B27 : ∀ (H : Heap) (locs : List Loc) (ls : Array Slot) (σ : St), v = f_Rd_take_27 σ → k_Rd_take_27 σ → lv_has ls 2 [] → va_P D classes (Wc ty h σ px) H → va_D A (Wc ty h σ px) → va_S A s.heap H locs → W p l e (headSpec w_Rd_take rm_Rd_take).room s m args below meth c H locs 0 0 (MQ below (va_Qi (fun r (u : St) => (r, u) = v) (fun u t => va_P D classes (Wc ty h u px) t.heap) A) args s 0 0 A) (F0 m 27 ls []) := by
    intro H locs ls σ hv hk hl hP hD hS
    unfold f_Rd_take_27 at hv
    unfold k_Rd_take_27 at hk
    refine lv_iconst (v := 1) hx hb d_Rd_take_27 (by decide) ?_
    exact W.zret hx hb hr rfl (fun t ht hW => ⟨⟨_, _, rfl, hv.symm, by dsimp only; rw [ht]; exact hP⟩, hS.F ht⟩) hS.2.2 d_Rd_take_28
  unfold f_Rd_take at hv
  unfold k_Rd_take at hk
  refine lv_aload_n hx hb d_Rd_take_0 rfl (lv_at hl 0 rfl) ?_
  refine va_get (v := .ref (h 18)) (C := R_Rd) (T := T_Rd) (N := 4) hx hb hg in_Rd hown hK hP 20 rfl rfl 0 (by decide) (hg _ m_133) (fun _ h9 => h9) rfl d_Rd_take_1 ?_
  refine lv_aload_n hx hb d_Rd_take_4 rfl (lv_at hl 0 rfl) ?_
  refine va_get (v := .int (σ.1 20 3)) (C := R_Rd) (T := T_Rd) (N := 4) hx hb hg in_Rd hown hK hP 20 rfl rfl 3 (by decide) (hg _ m_136) (fun _ h9 => h9) rfl d_Rd_take_5 ?_
  obtain ⟨hk0, hk⟩ := hk
  refine zz_callV (va_runV (As := [.int (σ.1 20 3)]) (rest := []) ⟨hx, hb, hml, hown, hg⟩ (c_Dr_letter l D ty h px σ (σ.1 20 3) hk0) ⟨callB_of 1 hg (gw_C m_583) rfl rfl rfl (hg _ m_4) (hg _ m_580) hd_Dr_letter ⟨Nat.le_of_ble_eq_true rfl, Nat.le_of_ble_eq_true rfl⟩, hg _ m_581, hg _ m_582⟩ (zz_preV hN hK hP 18 rfl rfl) rfl rfl hl.1 rfl (lv_room (Nat.le_of_ble_eq_true rfl)) d_Rd_take_8 ⟨Nat.le_of_ble_eq_true rfl, Nat.le_of_ble_eq_true rfl⟩) ?_
  refine lv_iload_n hx hb d_Rd_take_11 rfl (lv_at hl 1 rfl) ?_
  refine lv_icmp_eq (tgt := 17) hx hb d_Rd_take_12 (by decide) (fun hc => ?_) (fun hc => ?_)
  · have hv := hv.trans (if_pos hc)
    have hk := hk.1 hc
    refine lv_aload_n hx hb d_Rd_take_17 rfl (lv_at hl 0 rfl) ?_
    refine lv_dup hx hb d_Rd_take_18 rfl ?_
    refine va_get (v := .int (σ.1 20 3)) (C := R_Rd) (T := T_Rd) (N := 4) hx hb hg in_Rd hown hK hP 20 rfl rfl 3 (by decide) (hg _ m_136) (fun _ h9 => h9) rfl d_Rd_take_19 ?_
    refine lv_iconst (v := 1) hx hb d_Rd_take_22 (by decide) ?_
    refine lv_iadd hx hb d_Rd_take_23 ?_
    refine va_put (v := .int ((σ.1 20 3) + 1)) (ty := .int) (C := R_Rd) (T := T_Rd) (N := 4) hx hb hg in_Rd ty_Rd ok_Rd nm_Rd hown hK hP hD hS 20 rfl rfl 3 (by decide) (hg _ m_136) (fun _ h9 => h9) rfl (by decide +kernel) rfl rfl (Nat.le_of_ble_eq_true rfl) d_Rd_take_24 (fun H locs hP hD hS => ?_)
    have hP : va_P D classes (Wc ty h (sF σ 20 3 ((σ.1 20 3) + 1)) px) H := hP
    have hD : va_D A (Wc ty h (sF σ 20 3 ((σ.1 20 3) + 1)) px) := hD
    exact B27 _ _ _  (sF σ 20 3 ((σ.1 20 3) + 1)) hv hk (lv_sub hl [] rfl) hP hD hS
  · have hv := hv.trans (if_neg hc)
    have hk := hk.2 hc
    refine lv_iconst (v := 0) hx hb d_Rd_take_15 (by decide) ?_
    exact W.zret hx hb hr rfl (fun t ht hW => ⟨⟨_, _, rfl, hv.symm, by dsimp only; rw [ht]; exact hP⟩, hS.F ht⟩) hS.2.2 d_Rd_take_16

