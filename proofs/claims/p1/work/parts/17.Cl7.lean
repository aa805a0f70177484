-- ClauseLedger.open()I
abbrev b_CL_open : ByteArray := prog_1_method_17_code
def y_CL_open : MethodName := ⟨"ClauseLedger", "open", "()I"⟩
theorem hd_CL_open : y_CL_open.cls ≠ "java/lang/invoke/MethodHandle" ∧ y_CL_open.cls ≠ "java/lang/invoke/VarHandle" ∧ (parseMethodDescriptor y_CL_open.desc).map (fun d => d.parameters.length) = some 0 := by decide +kernel
theorem d_CL_open_0 : decode b_CL_open 0 = .ok (.aload_n 0, 1) := by decide +kernel
theorem d_CL_open_1 : decode b_CL_open 1 = .ok (.invokevirtual 102, 3) := by decide +kernel
theorem d_CL_open_4 : decode b_CL_open 4 = .ok (.ifCond .eq 5, 3) := by decide +kernel
theorem d_CL_open_7 : decode b_CL_open 7 = .ok (.iconst (-1), 1) := by decide +kernel
theorem d_CL_open_8 : decode b_CL_open 8 = .ok (.ireturn, 1) := by decide +kernel
theorem d_CL_open_9 : decode b_CL_open 9 = .ok (.aload_n 0, 1) := by decide +kernel
theorem d_CL_open_10 : decode b_CL_open 10 = .ok (.getfield 72, 3) := by decide +kernel
theorem d_CL_open_13 : decode b_CL_open 13 = .ok (.invokevirtual 224, 3) := by decide +kernel
theorem d_CL_open_16 : decode b_CL_open 16 = .ok (.ifCond .eq 8, 3) := by decide +kernel
theorem d_CL_open_19 : decode b_CL_open 19 = .ok (.aload_n 0, 1) := by decide +kernel
theorem d_CL_open_20 : decode b_CL_open 20 = .ok (.invokevirtual 124, 3) := by decide +kernel
theorem d_CL_open_23 : decode b_CL_open 23 = .ok (.ireturn, 1) := by decide +kernel
theorem d_CL_open_24 : decode b_CL_open 24 = .ok (.aload_n 0, 1) := by decide +kernel
theorem d_CL_open_25 : decode b_CL_open 25 = .ok (.getfield 72, 3) := by decide +kernel
theorem d_CL_open_28 : decode b_CL_open 28 = .ok (.invokevirtual 227, 3) := by decide +kernel
theorem d_CL_open_31 : decode b_CL_open 31 = .ok (.ireturn, 1) := by decide +kernel
def f_CL_open_23 (s0 : Int32) (σ : St) : XR := (.inl s0, σ)
def k_CL_open_23 (s0 : Int32) (σ : St) : Prop := True
def f_CL_open_31 (s0 : Int32) (σ : St) : XR := (.inl s0, σ)
def k_CL_open_31 (s0 : Int32) (σ : St) : Prop := True
def f_CL_open (σ : St) : XR := if (f_CL_isShut σ) = 0 then (if (f_Sc_isFull σ) = 0 then (f_CL_open_31 ((f_Sc_openInner σ).1) ((f_Sc_openInner σ).2)) else (xb (f_CL_throwNoRoom σ) (fun x u => f_CL_open_23 x u))) else (.inl (-1), σ)
def k_CL_open (σ : St) : Prop := (k_CL_isShut σ) ∧ (((f_CL_isShut σ) = 0 → ((k_Sc_isFull σ) ∧ (((f_Sc_isFull σ) = 0 → ((k_Sc_openInner σ) ∧ (k_CL_open_31 ((f_Sc_openInner σ).1) ((f_Sc_openInner σ).2)))) ∧ (¬ (f_Sc_isFull σ) = 0 → ((k_CL_throwNoRoom σ) ∧ (∀ x, (f_CL_throwNoRoom σ).1 = .inl x → (k_CL_open_23 x ((f_CL_throwNoRoom σ).2)))))))) ∧ (¬ (f_CL_isShut σ) = 0 → True))
abbrev w_CL_open : List Cond := Cond.code y_CL_open b_CL_open 1 (some .int) :: gw
abbrev rm_CL_open : Room := { frames := 7, cells := 1, slots := 6, locals := 120 }
set_option maxHeartbeats 4000000 in
set_option maxRecDepth 100000 in
theorem c_CL_open (l : Launch) (hlt : l.stackTraces = false) (D : va_G) (ty : Nat → ClassId) (h : Nat → Nat) (px : va_W) (sa : Nat → Nat) (σ : St) (sz : Nat) (hk : k_CL_open σ) : xMet l y_CL_open w_CL_open rm_CL_open (va_Pc [.ref (h 0)] (fun U => U.heap.size = sz ∧ va_P D classes (Wc ty h σ px) U.heap ∧ va_K D classes (Ta ty) U ∧ NW U ∧ XK sa (va_A (Wc ty h σ px) sz) U U.heap ∧ MK sa (va_A (Wc ty h σ px) sz) U U.heap ∧ va_D (fun _ => True) (Wc ty h σ px))) (Rx D classes (fun u => Wc ty h u px) (va_A (Wc ty h σ px) sz) (f_CL_open σ)) 1 6 (va_A (Wc ty h σ px) sz) := by
  refine xMet.ofW (cc := b_CL_open) (maxL := 1) (ret := (some .int)) (by decide) rfl ?_
  intro p e s m args below meth c s₁ B hml htab hv
  obtain ⟨ha, hsz, hP, hK, hN, hX, hM, hD0⟩ := hv
  have hx := B.exec
  have hb := B.bytes
  have hr := B.returns
  have hg : ∀ w ∈ gw, w.before args s = true := fun w h9 => atoms_spec (ws := w_CL_open) B.pre w (List.mem_cons_of_mem _ h9)
  have hown : s.vm.findClass "ClauseLedger" = some m.cls := findClass_of_methodNamed B.named
  have hlocks := B.notSynchronized
  subst hsz
  have hD := hD0.self (sz := s.heap.size)
  generalize hAe : va_A (Wc ty h σ px) s.heap.size = A at hD hM hX ⊢
  have hA : ∀ q : Nat, s.heap.size ≤ q → A q := fun q h9 => by rw [← hAe]; exact Or.inr h9
  have hS : va_S A s.heap s.heap [] := va_S.rf
  have he : entryFrame m args 1 = entryFrame m ([.ref (h 0)] : List Value).toArray 1 := by rw [ha]
  rw [he, lg_entry_eq]
  have hl := lv_entry ([.ref (h 0)]) (n := 1) (Nat.le_of_ble_eq_true rfl)
  generalize (lg_sl ([.ref (h 0)]) ++ List.replicate (1 - (lg_sl ([.ref (h 0)])).length) Slot.unset).toArray = ls at hl ⊢
  have hl : lv_has ls 1 [(0, .ref (h 0))] := hl
  generalize hv : f_CL_open σ = v
  replace hv := hv.symm
  have B23 : ∀ (H : Heap) (locs : List Loc) (ls : Array Slot) (s0 : Int32) (σ : St), v = f_CL_open_23 s0 σ → k_CL_open_23 s0 σ → lv_has ls 1 [] → va_P D classes (Wc ty h σ px) H → va_D A (Wc ty h σ px) → va_S A s.heap H locs → W p l e (headSpec w_CL_open rm_CL_open).room s m args below meth c H locs 1 6 (xMQ below (Rx D classes (fun u => Wc ty h u px) A v) args s 1 6 A) (F0 m 23 ls [.int s0]) := by
    intro H locs ls s0 σ hv hk hl hP hD hS
    unfold f_CL_open_23 at hv
    unfold k_CL_open_23 at hk
    exact x_ret (fun o t hq => by obtain ⟨rfl, ht⟩ := hq; exact ⟨hS.F ht, by rw [ht, hv]; exact hP, _, rfl, by rw [hv]⟩) (Nat.le_of_ble_eq_true rfl) (Nat.le_of_ble_eq_true rfl) (W.iret (Qc := fun _ _ o t => o = .returned (some (.int s0)) ∧ t.heap = H) hx hb hr (fun t ht hW => ⟨rfl, ht⟩) hS.2.2 d_CL_open_23)
  have B31 : ∀ (H : Heap) (locs : List Loc) (ls : Array Slot) (s0 : Int32) (σ : St), v = f_CL_open_31 s0 σ → k_CL_open_31 s0 σ → lv_has ls 1 [] → va_P D classes (Wc ty h σ px) H → va_D A (Wc ty h σ px) → va_S A s.heap H locs → W p l e (headSpec w_CL_open rm_CL_open).room s m args below meth c H locs 0 0 (xMQ below (Rx D classes (fun u => Wc ty h u px) A v) args s 1 6 A) (F0 m 31 ls [.int s0]) := by
    intro H locs ls s0 σ hv hk hl hP hD hS
    unfold f_CL_open_31 at hv
    unfold k_CL_open_31 at hk
    exact x_ret (fun o t hq => by obtain ⟨rfl, ht⟩ := hq; exact ⟨hS.F ht, by rw [ht, hv]; exact hP, _, rfl, by rw [hv]⟩) (Nat.le_of_ble_eq_true rfl) (Nat.le_of_ble_eq_true rfl) (W.iret (Qc := fun _ _ o t => o = .returned (some (.int s0)) ∧ t.heap = H) hx hb hr (fun t ht hW => ⟨rfl, ht⟩) hS.2.2 d_CL_open_31)
  unfold f_CL_open at hv
  unfold k_CL_open at hk
  refine lv_aload_n hx hb d_CL_open_0 rfl (lv_at hl 0 rfl) ?_
  obtain ⟨hk0, hk⟩ := hk
  refine zz_callV (va_runV (As := []) (rest := []) ⟨hx, hb, hml, hown, hg⟩ (c_CL_isShut l D ty h px sa σ  hk0) ⟨callB_of 0 hg (gw_C m_571) rfl rfl rfl (hg _ m_1) (hg _ m_568) hd_CL_isShut ⟨Nat.le_of_ble_eq_true rfl, Nat.le_of_ble_eq_true rfl⟩, hg _ m_570, hg _ ms_8⟩ (zz_preV (hM.at hS) hN hK hP 0 rfl rfl) rfl rfl hl.1 rfl (lv_room (Nat.le_of_ble_eq_true rfl)) d_CL_open_1 ⟨Nat.le_of_ble_eq_true rfl, Nat.le_of_ble_eq_true rfl⟩) ?_
  refine lv_if_eq (tgt := 9) hx hb d_CL_open_4 (by decide) (fun hc => ?_) (fun hc => ?_)
  · have hv := hv.trans (if_pos hc)
    have hk := hk.1 hc
    refine lv_aload_n hx hb d_CL_open_9 rfl (lv_at hl 0 rfl) ?_
    refine va_get (v := .ref (h 27)) (C := R_CL) (T := T_CL) (N := 11) hx hb hg in_CL hown hK hP 0 rfl rfl 8 (by decide) (hg _ m_292) (fun _ h9 => h9) rfl d_CL_open_10 ?_
    obtain ⟨hk0, hk⟩ := hk
    refine zz_callV (va_runV (As := []) (rest := []) ⟨hx, hb, hml, hown, hg⟩ (c_Sc_isFull l D ty h px sa σ  hk0) ⟨callB_of 0 hg (gw_C m_1219) rfl rfl rfl (hg _ m_11) (hg _ m_1216) hd_Sc_isFull ⟨Nat.le_of_ble_eq_true rfl, Nat.le_of_ble_eq_true rfl⟩, hg _ m_1217, hg _ m_1218⟩ (zz_preV (hM.at hS) hN hK hP 27 rfl rfl) rfl rfl hl.1 rfl (lv_room (Nat.le_of_ble_eq_true rfl)) d_CL_open_13 ⟨Nat.le_of_ble_eq_true rfl, Nat.le_of_ble_eq_true rfl⟩) ?_
    refine lv_if_eq (tgt := 24) hx hb d_CL_open_16 (by decide) (fun hc => ?_) (fun hc => ?_)
    · have hv := hv.trans (if_pos hc)
      have hk := hk.1 hc
      refine lv_aload_n hx hb d_CL_open_24 rfl (lv_at hl 0 rfl) ?_
      refine va_get (v := .ref (h 27)) (C := R_CL) (T := T_CL) (N := 11) hx hb hg in_CL hown hK hP 0 rfl rfl 8 (by decide) (hg _ m_292) (fun _ h9 => h9) rfl d_CL_open_25 ?_
      obtain ⟨hk0, hk⟩ := hk
      refine va_calli (va_runV (As := []) (rest := []) ⟨hx, hb, hml, hown, hg⟩ (c_Sc_openInner l D ty h px sa σ s.heap.size  hk0) ⟨callB_of 0 hg (gw_C m_1223) rfl rfl rfl (hg _ m_11) (hg _ m_1220) hd_Sc_openInner ⟨Nat.le_of_ble_eq_true rfl, Nat.le_of_ble_eq_true rfl⟩, hg _ m_1221, hg _ m_1222⟩ (zz_preVW hM hS hA hN hK hP hD 27 rfl rfl) rfl rfl hl.1 rfl (lv_room (Nat.le_of_ble_eq_true rfl)) d_CL_open_28 ⟨Nat.le_of_ble_eq_true rfl, Nat.le_of_ble_eq_true rfl⟩) hS (fun q _ h => zz_free hD hS hA q h) (zz_free hD hS hA) (fun r28 u28 t H locs ht hvm hp hP1 hz hk1 hS => ?_)
      rw [ht] at hP1
      rw [← hp] at hv hk
      have hD : va_D A (Wc ty h u28 px) := zz_D hD rfl
      have hP := hP1
      exact B31 _ _ _ r28 u28 hv hk (lv_sub hl [] rfl) hP hD hS
    · have hv := hv.trans (if_neg hc)
      have hk := hk.2 hc
      refine lv_aload_n hx hb d_CL_open_19 rfl (lv_at hl 0 rfl) ?_
      obtain ⟨hk0, hk⟩ := hk
      refine x_callV (As := []) (rest := []) ⟨hx, hb, hml, hown, hg⟩ (c_CL_throwNoRoom l hlt D ty h px sa σ s.heap.size  hk0) ⟨callB_of 0 hg (gw_C m_882) rfl rfl rfl (hg _ m_1) (hg _ m_879) hd_CL_throwNoRoom ⟨Nat.le_of_ble_eq_true rfl, Nat.le_of_ble_eq_true rfl⟩, hg _ m_881, hg _ ms_28⟩ (zz_preX hM hN hX hS hA hK hP hD 0 rfl rfl) rfl hl.1 rfl (Nat.le_of_ble_eq_true rfl) d_CL_open_20 ⟨Nat.le_of_ble_eq_true rfl, Nat.le_of_ble_eq_true rfl⟩ (fun r9 st9 t9 L9 h09 hal9 hR9 hL9 => ?_) (fun q9 st9 t9 L9 h09 h19 hal9 hR9 hL9 => ?_)
      · obtain ⟨hF9, hP9, x, rfl, hz9⟩ := hR9
        have hv := hv.trans (xb_l hz9)
        have hk := hk _ hz9
        have hS := zz_xS hS h09 hF9 (zz_free hD hS hA) hL9
        have hD : va_D A (Wc ty h (f_CL_throwNoRoom σ).2 px) := zz_D hD rfl
        exact B23 _ _ _ x (f_CL_throwNoRoom σ).2 hv hk (lv_sub hl [] rfl) hP9 hD hS
      · obtain ⟨hF9, hP9, E9, ce9, hz9, hq9, hn9, hc9⟩ := hR9
        have hv := hv.trans (xb_r hz9)
        have hS := zz_xS hS h09 hF9 (zz_free hD hS hA) hL9
        exact x_out htab hlocks (fun t ht hal => ⟨hS.F ht, by rw [ht, hv]; exact hP9, E9, ce9, by rw [hv], by rw [ht]; exact hq9, hn9, by rw [h19.findClass]; exact hc9⟩) hS.2.2 (Nat.le_of_ble_eq_true rfl) (Nat.le_of_ble_eq_true rfl)
  · have hv := hv.trans (if_neg hc)
    have hk := hk.2 hc
    refine lv_iconst (v := -1) hx hb d_CL_open_7 (by decide) ?_
    exact x_ret (fun o t hq => by obtain ⟨rfl, ht⟩ := hq; exact ⟨hS.F ht, by rw [ht, hv]; exact hP, _, rfl, by rw [hv]⟩) (Nat.le_of_ble_eq_true rfl) (Nat.le_of_ble_eq_true rfl) (W.iret (Qc := fun _ _ o t => o = .returned (some (.int (-1))) ∧ t.heap = s.heap) hx hb hr (fun t ht hW => ⟨rfl, ht⟩) hS.2.2 d_CL_open_8)

-- ClauseLedger$Steps.latestIn(I)I
abbrev b_St_latestIn : ByteArray := prog_9_method_10_code
def y_St_latestIn : MethodName := ⟨"ClauseLedger$Steps", "latestIn", "(I)I"⟩
theorem hd_St_latestIn : y_St_latestIn.cls ≠ "java/lang/invoke/MethodHandle" ∧ y_St_latestIn.cls ≠ "java/lang/invoke/VarHandle" ∧ (parseMethodDescriptor y_St_latestIn.desc).map (fun d => d.parameters.length) = some 1 := by decide +kernel
theorem d_St_latestIn_0 : decode b_St_latestIn 0 = .ok (.aload_n 0, 1) := by decide +kernel
theorem d_St_latestIn_1 : decode b_St_latestIn 1 = .ok (.getfield 25, 3) := by decide +kernel
theorem d_St_latestIn_4 : decode b_St_latestIn 4 = .ok (.iconst 1, 1) := by decide +kernel
theorem d_St_latestIn_5 : decode b_St_latestIn 5 = .ok (.isub, 1) := by decide +kernel
theorem d_St_latestIn_6 : decode b_St_latestIn 6 = .ok (.istore_n 2, 1) := by decide +kernel
theorem d_St_latestIn_7 : decode b_St_latestIn 7 = .ok (.iload_n 2, 1) := by decide +kernel
theorem d_St_latestIn_8 : decode b_St_latestIn 8 = .ok (.ifCond .lt 21, 3) := by decide +kernel
theorem d_St_latestIn_11 : decode b_St_latestIn 11 = .ok (.aload_n 0, 1) := by decide +kernel
theorem d_St_latestIn_12 : decode b_St_latestIn 12 = .ok (.getfield 18, 3) := by decide +kernel
theorem d_St_latestIn_15 : decode b_St_latestIn 15 = .ok (.iload_n 2, 1) := by decide +kernel
theorem d_St_latestIn_16 : decode b_St_latestIn 16 = .ok (.iaload, 1) := by decide +kernel
theorem d_St_latestIn_17 : decode b_St_latestIn 17 = .ok (.iload_n 1, 1) := by decide +kernel
theorem d_St_latestIn_18 : decode b_St_latestIn 18 = .ok (.if_icmp .ne 5, 3) := by decide +kernel
theorem d_St_latestIn_21 : decode b_St_latestIn 21 = .ok (.iload_n 2, 1) := by decide +kernel
theorem d_St_latestIn_22 : decode b_St_latestIn 22 = .ok (.ireturn, 1) := by decide +kernel
theorem d_St_latestIn_23 : decode b_St_latestIn 23 = .ok (.iinc 2 (-1), 3) := by decide +kernel
theorem d_St_latestIn_26 : decode b_St_latestIn 26 = .ok (.goto (-19), 3) := by decide +kernel
theorem d_St_latestIn_29 : decode b_St_latestIn 29 = .ok (.iconst (-1), 1) := by decide +kernel
theorem d_St_latestIn_30 : decode b_St_latestIn 30 = .ok (.ireturn, 1) := by decide +kernel
def f_St_latestIn_7 : Nat → Int32 → Int32 → St → Int32
  | 0, _, _, σ => 0
  | n + 1, x1, x2, σ => if x2 < 0 then (-1) else (if (σ.1 34 x2.toNatClampNeg) = x1 then x2 else ((f_St_latestIn_7 n) x1 (x2 + (-1)) σ))
def k_St_latestIn_7 : Nat → Int32 → Int32 → St → Prop
  | 0, _, _, _ => False
  | n + 1, x1, x2, σ => (x2 < 0 → True) ∧ (¬ x2 < 0 → (vp_in x2 60 ∧ (((σ.1 34 x2.toNatClampNeg) = x1 → True) ∧ (¬ (σ.1 34 x2.toNatClampNeg) = x1 → ((k_St_latestIn_7 n) x1 (x2 + (-1)) σ)))))
def f_St_latestIn (a1 : Int32) (σ : St) : Int32 := f_St_latestIn_7 1000 a1 ((σ.1 31 4) - 1) σ
def k_St_latestIn (a1 : Int32) (σ : St) : Prop := k_St_latestIn_7 1000 a1 ((σ.1 31 4) - 1) σ
abbrev w_St_latestIn : List Cond := Cond.code y_St_latestIn b_St_latestIn 3 (some .int) :: gw
abbrev rm_St_latestIn : Room := { frames := 0, cells := 0, slots := 0, locals := 0 }
set_option maxHeartbeats 4000000 in
set_option maxRecDepth 100000 in
theorem c_St_latestIn (l : Launch) (D : va_G) (ty : Nat → ClassId) (h : Nat → Nat) (px : va_W) (sa : Nat → Nat) (σ : St) (a1 : Int32) (hk : k_St_latestIn a1 σ) : Met l y_St_latestIn w_St_latestIn rm_St_latestIn (va_Pc [.ref (h 31), .int a1] (fun U => va_P D classes (Wc ty h σ px) U.heap ∧ va_K D classes (Ta ty) U ∧ NW U ∧ MK sa (fun _ => False) U U.heap)) (k2_QcV (.int (f_St_latestIn a1 σ))) 0 0 (fun _ => False) := by
  refine Met.ofW (cc := b_St_latestIn) (maxL := 3) (ret := (some .int)) (by decide) rfl ?_
  intro p e s m args below meth c s₁ B hml hv
  obtain ⟨ha, hP, hK, hN, hM⟩ := hv
  have hx := B.exec
  have hb := B.bytes
  have hr := B.returns
  have hg : ∀ w ∈ gw, w.before args s = true := fun w h9 => atoms_spec (ws := w_St_latestIn) B.pre w (List.mem_cons_of_mem _ h9)
  have hown : s.vm.findClass "ClauseLedger$Steps" = some m.cls := findClass_of_methodNamed B.named
  have hlocks := B.notSynchronized
  have he : entryFrame m args 3 = entryFrame m ([.ref (h 31), .int a1] : List Value).toArray 3 := by rw [ha]
  rw [he, lg_entry_eq]
  have hl := lv_entry ([.ref (h 31), .int a1]) (n := 3) (Nat.le_of_ble_eq_true rfl)
  generalize (lg_sl ([.ref (h 31), .int a1]) ++ List.replicate (3 - (lg_sl ([.ref (h 31), .int a1])).length) Slot.unset).toArray = ls at hl ⊢
  have hl : lv_has ls 3 [(0, .ref (h 31)), (1, .int a1)] := hl
  generalize hv : f_St_latestIn a1 σ = v
  replace hv := hv.symm
  have B7 : ∀ (n7 : Nat) (ls : Array Slot) (x1 : Int32) (x2 : Int32), v = f_St_latestIn_7 n7 x1 x2 σ → k_St_latestIn_7 n7 x1 x2 σ → lv_has ls 3 [(0, .ref (h 31)), (1, .int x1), (2, .int x2)] → W p l e (headSpec w_St_latestIn rm_St_latestIn).room s m args below meth c s.heap [] 0 0 (MQ below (k2_QcV (.int v)) args s 0 0 (fun _ => False)) (F0 m 7 ls []) := by
    intro n7
    induction n7 with
    | zero => intro ls x1 x2 hv hk hl; exact hk.elim
    | succ n7 ih7 =>
      intro ls x1 x2 hv hk hl
      rw [f_St_latestIn_7] at hv
      rw [k_St_latestIn_7] at hk
      refine lv_iload_n hx hb d_St_latestIn_7 rfl (lv_at hl 2 rfl) ?_
      refine lv_if_lt (tgt := 29) hx hb d_St_latestIn_8 (by decide) (fun hc => ?_) (fun hc => ?_)
      · have hv := hv.trans (if_pos hc)
        have hk := hk.1 hc
        refine lv_iconst (v := -1) hx hb d_St_latestIn_29 (by decide) ?_
        exact W.iret hx hb hr (fun t ht hW => ⟨by rw [hv], ht⟩) (fun q h => nomatch h) d_St_latestIn_30
      · have hv := hv.trans (if_neg hc)
        have hk := hk.2 hc
        refine lv_aload_n hx hb d_St_latestIn_11 rfl (lv_at hl 0 rfl) ?_
        refine va_get (v := .ref (h 34)) (C := R_St) (T := T_St) (N := 5) hx hb hg in_St hown hK hP 31 rfl rfl 2 (by decide) (hg _ m_270) (fun _ h9 => h9) rfl d_St_latestIn_12 ?_
        refine lv_iload_n hx hb d_St_latestIn_15 rfl (lv_at hl 2 rfl) ?_
        obtain ⟨hk0, hk⟩ := hk
        refine va_iald hx hb hK hP 34 0 rfl rfl hk0 d_St_latestIn_16 ?_
        refine lv_iload_n hx hb d_St_latestIn_17 rfl (lv_at hl 1 rfl) ?_
        refine lv_icmp_ne (tgt := 23) hx hb d_St_latestIn_18 (by decide) (fun hc => ?_) (fun hc => ?_)
        · have hv := hv.trans (if_neg hc)
          have hk := hk.2 hc
          refine lv_iinc (k := 2) (v := x2 + (-1)) (lv' := [(2, .int (x2 + (-1))), (0, .ref (h 31)), (1, .int x1)]) hx hb d_St_latestIn_23 hl rfl (by first | rfl | simp [lit1, litm1]) (by decide) rfl (fun ls hl => ?_)
          refine lv_goto (tgt := 7) hx hb d_St_latestIn_26 (by decide) ?_
          exact ih7 _ x1 (x2 + (-1)) hv hk (lv_sub hl [1, 2, 0] rfl)
        · have hv := hv.trans (if_pos hc)
          have hk := hk.1 hc
          refine lv_iload_n hx hb d_St_latestIn_21 rfl (lv_at hl 2 rfl) ?_
          exact W.iret hx hb hr (fun t ht hW => ⟨by rw [hv], ht⟩) (fun q h => nomatch h) d_St_latestIn_22
  unfold f_St_latestIn at hv
  unfold k_St_latestIn at hk
  refine lv_aload_n hx hb d_St_latestIn_0 rfl (lv_at hl 0 rfl) ?_
  refine va_get (v := .int (σ.1 31 4)) (C := R_St) (T := T_St) (N := 5) hx hb hg in_St hown hK hP 31 rfl rfl 4 (by decide) (hg _ m_272) (fun _ h9 => h9) rfl d_St_latestIn_1 ?_
  refine lv_iconst (v := 1) hx hb d_St_latestIn_4 (by decide) ?_
  refine lv_isub hx hb d_St_latestIn_5 ?_
  refine lv_istore_n (lv' := [(2, .int ((σ.1 31 4) - 1)), (0, .ref (h 31)), (1, .int a1)]) hx hb d_St_latestIn_6 rfl hl (by decide) rfl (fun ls hl => ?_)
  exact B7 1000 _ a1 ((σ.1 31 4) - 1) hv hk (lv_sub hl [1, 2, 0] rfl)

-- ClauseLedger$Steps.count()I
abbrev b_St_count : ByteArray := prog_9_method_2_code
def y_St_count : MethodName := ⟨"ClauseLedger$Steps", "count", "()I"⟩
theorem hd_St_count : y_St_count.cls ≠ "java/lang/invoke/MethodHandle" ∧ y_St_count.cls ≠ "java/lang/invoke/VarHandle" ∧ (parseMethodDescriptor y_St_count.desc).map (fun d => d.parameters.length) = some 0 := by decide +kernel
theorem d_St_count_0 : decode b_St_count 0 = .ok (.aload_n 0, 1) := by decide +kernel
theorem d_St_count_1 : decode b_St_count 1 = .ok (.getfield 25, 3) := by decide +kernel
theorem d_St_count_4 : decode b_St_count 4 = .ok (.ireturn, 1) := by decide +kernel
def f_St_count (σ : St) : Int32 := σ.1 31 4
def k_St_count (σ : St) : Prop := True
abbrev w_St_count : List Cond := Cond.code y_St_count b_St_count 1 (some .int) :: gw
abbrev rm_St_count : Room := { frames := 0, cells := 0, slots := 0, locals := 0 }
set_option maxHeartbeats 4000000 in
set_option maxRecDepth 100000 in
theorem c_St_count (l : Launch) (D : va_G) (ty : Nat → ClassId) (h : Nat → Nat) (px : va_W) (sa : Nat → Nat) (σ : St) (hk : k_St_count σ) : Met l y_St_count w_St_count rm_St_count (va_Pc [.ref (h 31)] (fun U => va_P D classes (Wc ty h σ px) U.heap ∧ va_K D classes (Ta ty) U ∧ NW U ∧ MK sa (fun _ => False) U U.heap)) (k2_QcV (.int (f_St_count σ))) 0 0 (fun _ => False) := by
  refine Met.ofW (cc := b_St_count) (maxL := 1) (ret := (some .int)) (by decide) rfl ?_
  intro p e s m args below meth c s₁ B hml hv
  obtain ⟨ha, hP, hK, hN, hM⟩ := hv
  have hx := B.exec
  have hb := B.bytes
  have hr := B.returns
  have hg : ∀ w ∈ gw, w.before args s = true := fun w h9 => atoms_spec (ws := w_St_count) B.pre w (List.mem_cons_of_mem _ h9)
  have hown : s.vm.findClass "ClauseLedger$Steps" = some m.cls := findClass_of_methodNamed B.named
  have hlocks := B.notSynchronized
  have he : entryFrame m args 1 = entryFrame m ([.ref (h 31)] : List Value).toArray 1 := by rw [ha]
  rw [he, lg_entry_eq]
  have hl := lv_entry ([.ref (h 31)]) (n := 1) (Nat.le_of_ble_eq_true rfl)
  generalize (lg_sl ([.ref (h 31)]) ++ List.replicate (1 - (lg_sl ([.ref (h 31)])).length) Slot.unset).toArray = ls at hl ⊢
  have hl : lv_has ls 1 [(0, .ref (h 31))] := hl
  generalize hv : f_St_count σ = v
  replace hv := hv.symm
  unfold f_St_count at hv
  unfold k_St_count at hk
  refine lv_aload_n hx hb d_St_count_0 rfl (lv_at hl 0 rfl) ?_
  refine va_get (v := .int (σ.1 31 4)) (C := R_St) (T := T_St) (N := 5) hx hb hg in_St hown hK hP 31 rfl rfl 4 (by decide) (hg _ m_272) (fun _ h9 => h9) rfl d_St_count_1 ?_
  exact W.iret hx hb hr (fun t ht hW => ⟨by rw [hv], ht⟩) (fun q h => nomatch h) d_St_count_4

-- ClauseLedger$Steps.isAssumed(I)Z
abbrev b_St_isAssumed : ByteArray := prog_9_method_8_code
def y_St_isAssumed : MethodName := ⟨"ClauseLedger$Steps", "isAssumed", "(I)Z"⟩
theorem hd_St_isAssumed : y_St_isAssumed.cls ≠ "java/lang/invoke/MethodHandle" ∧ y_St_isAssumed.cls ≠ "java/lang/invoke/VarHandle" ∧ (parseMethodDescriptor y_St_isAssumed.desc).map (fun d => d.parameters.length) = some 1 := by decide +kernel
theorem d_St_isAssumed_0 : decode b_St_isAssumed 0 = .ok (.aload_n 0, 1) := by decide +kernel
theorem d_St_isAssumed_1 : decode b_St_isAssumed 1 = .ok (.iload_n 1, 1) := by decide +kernel
theorem d_St_isAssumed_2 : decode b_St_isAssumed 2 = .ok (.invokevirtual 29, 3) := by decide +kernel
theorem d_St_isAssumed_5 : decode b_St_isAssumed 5 = .ok (.ifCond .eq 16, 3) := by decide +kernel
theorem d_St_isAssumed_8 : decode b_St_isAssumed 8 = .ok (.aload_n 0, 1) := by decide +kernel
theorem d_St_isAssumed_9 : decode b_St_isAssumed 9 = .ok (.getfield 21, 3) := by decide +kernel
theorem d_St_isAssumed_12 : decode b_St_isAssumed 12 = .ok (.iload_n 1, 1) := by decide +kernel
theorem d_St_isAssumed_13 : decode b_St_isAssumed 13 = .ok (.baload, 1) := by decide +kernel
theorem d_St_isAssumed_14 : decode b_St_isAssumed 14 = .ok (.ifCond .eq 7, 3) := by decide +kernel
theorem d_St_isAssumed_17 : decode b_St_isAssumed 17 = .ok (.iconst 1, 1) := by decide +kernel
theorem d_St_isAssumed_18 : decode b_St_isAssumed 18 = .ok (.goto 4, 3) := by decide +kernel
theorem d_St_isAssumed_21 : decode b_St_isAssumed 21 = .ok (.iconst 0, 1) := by decide +kernel
theorem d_St_isAssumed_22 : decode b_St_isAssumed 22 = .ok (.ireturn, 1) := by decide +kernel
def f_St_isAssumed_22 (s0 : Int32) (σ : St) : Int32 := s0
def k_St_isAssumed_22 (s0 : Int32) (σ : St) : Prop := (narrow .boolean (.int s0) = .int s0) ∧ True
def f_St_isAssumed_21 (σ : St) : Int32 := f_St_isAssumed_22 0 σ
def k_St_isAssumed_21 (σ : St) : Prop := k_St_isAssumed_22 0 σ
def f_St_isAssumed (a1 : Int32) (σ : St) : Int32 := if (f_St_has a1 σ) = 0 then (f_St_isAssumed_21 σ) else (if (σ.1 35 a1.toNatClampNeg) = 0 then (f_St_isAssumed_21 σ) else (f_St_isAssumed_22 1 σ))
def k_St_isAssumed (a1 : Int32) (σ : St) : Prop := (k_St_has a1 σ) ∧ (((f_St_has a1 σ) = 0 → (k_St_isAssumed_21 σ)) ∧ (¬ (f_St_has a1 σ) = 0 → (vp_in a1 60 ∧ (((σ.1 35 a1.toNatClampNeg) = 0 → (k_St_isAssumed_21 σ)) ∧ (¬ (σ.1 35 a1.toNatClampNeg) = 0 → (k_St_isAssumed_22 1 σ))))))
abbrev w_St_isAssumed : List Cond := Cond.code y_St_isAssumed b_St_isAssumed 2 (some .boolean) :: gw
abbrev rm_St_isAssumed : Room := { frames := 1, cells := 0, slots := 0, locals := 21 }
set_option maxHeartbeats 4000000 in
set_option maxRecDepth 100000 in
theorem c_St_isAssumed (l : Launch) (D : va_G) (ty : Nat → ClassId) (h : Nat → Nat) (px : va_W) (sa : Nat → Nat) (σ : St) (a1 : Int32) (hk : k_St_isAssumed a1 σ) : Met l y_St_isAssumed w_St_isAssumed rm_St_isAssumed (va_Pc [.ref (h 31), .int a1] (fun U => va_P D classes (Wc ty h σ px) U.heap ∧ va_K D classes (Ta ty) U ∧ NW U ∧ MK sa (fun _ => False) U U.heap)) (k2_QcV (.int (f_St_isAssumed a1 σ))) 0 0 (fun _ => False) := by
  refine Met.ofW (cc := b_St_isAssumed) (maxL := 2) (ret := (some .boolean)) (by decide) rfl ?_
  intro p e s m args below meth c s₁ B hml hv
  obtain ⟨ha, hP, hK, hN, hM⟩ := hv
  have hx := B.exec
  have hb := B.bytes
  have hr := B.returns
  have hg : ∀ w ∈ gw, w.before args s = true := fun w h9 => atoms_spec (ws := w_St_isAssumed) B.pre w (List.mem_cons_of_mem _ h9)
  have hown : s.vm.findClass "ClauseLedger$Steps" = some m.cls := findClass_of_methodNamed B.named
  have hlocks := B.notSynchronized
  have he : entryFrame m args 2 = entryFrame m ([.ref (h 31), .int a1] : List Value).toArray 2 := by rw [ha]
  rw [he, lg_entry_eq]
  have hl := lv_entry ([.ref (h 31), .int a1]) (n := 2) (Nat.le_of_ble_eq_true rfl)
  generalize (lg_sl ([.ref (h 31), .int a1]) ++ List.replicate (2 - (lg_sl ([.ref (h 31), .int a1])).length) Slot.unset).toArray = ls at hl ⊢
  have hl : lv_has ls 2 [(0, .ref (h 31)), (1, .int a1)] := hl
  generalize hv : f_St_isAssumed a1 σ = v
  replace hv := hv.symm
  have B22 : ∀ (ls : Array Slot) (s0 : Int32), v = f_St_isAssumed_22 s0 σ → k_St_isAssumed_22 s0 σ → lv_has ls 2 [] → W p l e (headSpec w_St_isAssumed rm_St_isAssumed).room s m args below meth c s.heap [] 0 0 (MQ below (k2_QcV (.int v)) args s 0 0 (fun _ => False)) (F0 m 22 ls [.int s0]) := by
    intro ls s0 hv hk hl
    unfold f_St_isAssumed_22 at hv
    unfold k_St_isAssumed_22 at hk
    obtain ⟨hk0, hk⟩ := hk
    exact W.zret hx hb hr hk0 (fun t ht hW => ⟨by rw [hv], ht⟩) (fun q h => nomatch h) d_St_isAssumed_22
  have B21 : ∀ (ls : Array Slot), v = f_St_isAssumed_21 σ → k_St_isAssumed_21 σ → lv_has ls 2 [] → W p l e (headSpec w_St_isAssumed rm_St_isAssumed).room s m args below meth c s.heap [] 0 0 (MQ below (k2_QcV (.int v)) args s 0 0 (fun _ => False)) (F0 m 21 ls []) := by
    intro ls hv hk hl
    unfold f_St_isAssumed_21 at hv
    unfold k_St_isAssumed_21 at hk
    refine lv_iconst (v := 0) hx hb d_St_isAssumed_21 (by decide) ?_
    exact B22 _ 0 hv hk (lv_sub hl [] rfl)
  unfold f_St_isAssumed at hv
  unfold k_St_isAssumed at hk
  refine lv_aload_n hx hb d_St_isAssumed_0 rfl (lv_at hl 0 rfl) ?_
  refine lv_iload_n hx hb d_St_isAssumed_1 rfl (lv_at hl 1 rfl) ?_
  obtain ⟨hk0, hk⟩ := hk
  refine zz_callV (va_runV (As := [.int a1]) (rest := []) ⟨hx, hb, hml, hown, hg⟩ (c_St_has l D ty h px sa σ a1 hk0) ⟨callB_of 1 hg (gw_C m_380) rfl rfl rfl (hg _ m_12) (hg _ m_377) hd_St_has ⟨Nat.le_of_ble_eq_true rfl, Nat.le_of_ble_eq_true rfl⟩, hg _ m_378, hg _ m_379⟩ (zz_preV hM hN hK hP 31 rfl rfl) rfl rfl hl.1 rfl (lv_room (Nat.le_of_ble_eq_true rfl)) d_St_isAssumed_2 ⟨Nat.le_of_ble_eq_true rfl, Nat.le_of_ble_eq_true rfl⟩) ?_
  refine lv_if_eq (tgt := 21) hx hb d_St_isAssumed_5 (by decide) (fun hc => ?_) (fun hc => ?_)
  · have hv := hv.trans (if_pos hc)
    have hk := hk.1 hc
    exact B21 _  hv hk (lv_sub hl [] rfl)
  · have hv := hv.trans (if_neg hc)
    have hk := hk.2 hc
    refine lv_aload_n hx hb d_St_isAssumed_8 rfl (lv_at hl 0 rfl) ?_
    refine va_get (v := .ref (h 35)) (C := R_St) (T := T_St) (N := 5) hx hb hg in_St hown hK hP 31 rfl rfl 3 (by decide) (hg _ m_271) (fun _ h9 => h9) rfl d_St_isAssumed_9 ?_
    refine lv_iload_n hx hb d_St_isAssumed_12 rfl (lv_at hl 1 rfl) ?_
    obtain ⟨hk0, hk⟩ := hk
    refine va_zald hx hb hK hP 35 3 rfl rfl hk0 d_St_isAssumed_13 ?_
    refine lv_if_eq (tgt := 21) hx hb d_St_isAssumed_14 (by decide) (fun hc => ?_) (fun hc => ?_)
    · have hv := hv.trans (if_pos hc)
      have hk := hk.1 hc
      exact B21 _  hv hk (lv_sub hl [] rfl)
    · have hv := hv.trans (if_neg hc)
      have hk := hk.2 hc
      refine lv_iconst (v := 1) hx hb d_St_isAssumed_17 (by decide) ?_
      refine lv_goto (tgt := 22) hx hb d_St_isAssumed_18 (by decide) ?_
      exact B22 _ 1 hv hk (lv_sub hl [] rfl)

-- ClauseLedger.joinOppositesAssumedIn(I)V
abbrev b_CL_joinOppositesAssumedIn : ByteArray := prog_1_method_36_code
def y_CL_joinOppositesAssumedIn : MethodName := ⟨"ClauseLedger", "joinOppositesAssumedIn", "(I)V"⟩
theorem hd_CL_joinOppositesAssumedIn : y_CL_joinOppositesAssumedIn.cls ≠ "java/lang/invoke/MethodHandle" ∧ y_CL_joinOppositesAssumedIn.cls ≠ "java/lang/invoke/VarHandle" ∧ (parseMethodDescriptor y_CL_joinOppositesAssumedIn.desc).map (fun d => d.parameters.length) = some 1 := by decide +kernel
theorem d_CL_joinOppositesAssumedIn_0 : decode b_CL_joinOppositesAssumedIn 0 = .ok (.iconst 0, 1) := by decide +kernel
theorem d_CL_joinOppositesAssumedIn_1 : decode b_CL_joinOppositesAssumedIn 1 = .ok (.istore_n 2, 1) := by decide +kernel
theorem d_CL_joinOppositesAssumedIn_2 : decode b_CL_joinOppositesAssumedIn 2 = .ok (.iload_n 2, 1) := by decide +kernel
theorem d_CL_joinOppositesAssumedIn_3 : decode b_CL_joinOppositesAssumedIn 3 = .ok (.aload_n 0, 1) := by decide +kernel
theorem d_CL_joinOppositesAssumedIn_4 : decode b_CL_joinOppositesAssumedIn 4 = .ok (.getfield 79, 3) := by decide +kernel
theorem d_CL_joinOppositesAssumedIn_7 : decode b_CL_joinOppositesAssumedIn 7 = .ok (.invokevirtual 255, 3) := by decide +kernel
theorem d_CL_joinOppositesAssumedIn_10 : decode b_CL_joinOppositesAssumedIn 10 = .ok (.if_icmp .ge 55, 3) := by decide +kernel
theorem d_CL_joinOppositesAssumedIn_13 : decode b_CL_joinOppositesAssumedIn 13 = .ok (.aload_n 0, 1) := by decide +kernel
theorem d_CL_joinOppositesAssumedIn_14 : decode b_CL_joinOppositesAssumedIn 14 = .ok (.getfield 79, 3) := by decide +kernel
theorem d_CL_joinOppositesAssumedIn_17 : decode b_CL_joinOppositesAssumedIn 17 = .ok (.iload_n 2, 1) := by decide +kernel
theorem d_CL_joinOppositesAssumedIn_18 : decode b_CL_joinOppositesAssumedIn 18 = .ok (.invokevirtual 249, 3) := by decide +kernel
theorem d_CL_joinOppositesAssumedIn_21 : decode b_CL_joinOppositesAssumedIn 21 = .ok (.iload_n 1, 1) := by decide +kernel
theorem d_CL_joinOppositesAssumedIn_22 : decode b_CL_joinOppositesAssumedIn 22 = .ok (.if_icmp .ne 37, 3) := by decide +kernel
theorem d_CL_joinOppositesAssumedIn_25 : decode b_CL_joinOppositesAssumedIn 25 = .ok (.aload_n 0, 1) := by decide +kernel
theorem d_CL_joinOppositesAssumedIn_26 : decode b_CL_joinOppositesAssumedIn 26 = .ok (.getfield 79, 3) := by decide +kernel
theorem d_CL_joinOppositesAssumedIn_29 : decode b_CL_joinOppositesAssumedIn 29 = .ok (.iload_n 2, 1) := by decide +kernel
theorem d_CL_joinOppositesAssumedIn_30 : decode b_CL_joinOppositesAssumedIn 30 = .ok (.invokevirtual 288, 3) := by decide +kernel
theorem d_CL_joinOppositesAssumedIn_33 : decode b_CL_joinOppositesAssumedIn 33 = .ok (.ifCond .eq 26, 3) := by decide +kernel
theorem d_CL_joinOppositesAssumedIn_36 : decode b_CL_joinOppositesAssumedIn 36 = .ok (.aload_n 0, 1) := by decide +kernel
theorem d_CL_joinOppositesAssumedIn_37 : decode b_CL_joinOppositesAssumedIn 37 = .ok (.getfield 65, 3) := by decide +kernel
theorem d_CL_joinOppositesAssumedIn_40 : decode b_CL_joinOppositesAssumedIn 40 = .ok (.aload_n 0, 1) := by decide +kernel
theorem d_CL_joinOppositesAssumedIn_41 : decode b_CL_joinOppositesAssumedIn 41 = .ok (.getfield 19, 3) := by decide +kernel
theorem d_CL_joinOppositesAssumedIn_44 : decode b_CL_joinOppositesAssumedIn 44 = .ok (.aload_n 0, 1) := by decide +kernel
theorem d_CL_joinOppositesAssumedIn_45 : decode b_CL_joinOppositesAssumedIn 45 = .ok (.getfield 79, 3) := by decide +kernel
theorem d_CL_joinOppositesAssumedIn_48 : decode b_CL_joinOppositesAssumedIn 48 = .ok (.iload_n 2, 1) := by decide +kernel
theorem d_CL_joinOppositesAssumedIn_49 : decode b_CL_joinOppositesAssumedIn 49 = .ok (.iconst 0, 1) := by decide +kernel
theorem d_CL_joinOppositesAssumedIn_50 : decode b_CL_joinOppositesAssumedIn 50 = .ok (.invokevirtual 245, 3) := by decide +kernel
theorem d_CL_joinOppositesAssumedIn_53 : decode b_CL_joinOppositesAssumedIn 53 = .ok (.invokevirtual 182, 3) := by decide +kernel
theorem d_CL_joinOppositesAssumedIn_56 : decode b_CL_joinOppositesAssumedIn 56 = .ok (.invokevirtual 141, 3) := by decide +kernel
theorem d_CL_joinOppositesAssumedIn_59 : decode b_CL_joinOppositesAssumedIn 59 = .ok (.iinc 2 1, 3) := by decide +kernel
theorem d_CL_joinOppositesAssumedIn_62 : decode b_CL_joinOppositesAssumedIn 62 = .ok (.goto (-60), 3) := by decide +kernel
theorem d_CL_joinOppositesAssumedIn_65 : decode b_CL_joinOppositesAssumedIn 65 = .ok (.return_, 1) := by decide +kernel
def f_CL_joinOppositesAssumedIn_59 (F2 : (Int32 → Int32 → St → St)) (x1 : Int32) (x2 : Int32) (σ : St) : St := F2 x1 (x2 + 1) σ
def k_CL_joinOppositesAssumedIn_59 (K2 : (Int32 → Int32 → St → Prop)) (x1 : Int32) (x2 : Int32) (σ : St) : Prop := K2 x1 (x2 + 1) σ
def f_CL_joinOppositesAssumedIn_56 (F2 : (Int32 → Int32 → St → St)) (x1 : Int32) (x2 : Int32) (s0 : Int32) (σ : St) : St := f_CL_joinOppositesAssumedIn_59 F2 x1 x2 (f_Ro_join s0 σ)
def k_CL_joinOppositesAssumedIn_56 (K2 : (Int32 → Int32 → St → Prop)) (x1 : Int32) (x2 : Int32) (s0 : Int32) (σ : St) : Prop := (k_Ro_join s0 σ) ∧ (k_CL_joinOppositesAssumedIn_59 K2 x1 x2 (f_Ro_join s0 σ))
def f_CL_joinOppositesAssumedIn_2 : Nat → Int32 → Int32 → St → St
  | 0, _, _, σ => σ
  | n + 1, x1, x2, σ => if (f_St_count σ) ≤ x2 then σ else (if (f_St_scopeOf x2 σ) = x1 then (if (f_St_isAssumed x2 σ) = 0 then (f_CL_joinOppositesAssumedIn_59 (f_CL_joinOppositesAssumedIn_2 n) x1 x2 σ) else (f_CL_joinOppositesAssumedIn_56 (f_CL_joinOppositesAssumedIn_2 n) x1 x2 ((f_Te_opposite (f_St_truthOf x2 0 σ) σ).1) ((f_Te_opposite (f_St_truthOf x2 0 σ) σ).2))) else (f_CL_joinOppositesAssumedIn_59 (f_CL_joinOppositesAssumedIn_2 n) x1 x2 σ))
def k_CL_joinOppositesAssumedIn_2 : Nat → Int32 → Int32 → St → Prop
  | 0, _, _, _ => False
  | n + 1, x1, x2, σ => (k_St_count σ) ∧ (((f_St_count σ) ≤ x2 → True) ∧ (¬ (f_St_count σ) ≤ x2 → ((k_St_scopeOf x2 σ) ∧ (((f_St_scopeOf x2 σ) = x1 → ((k_St_isAssumed x2 σ) ∧ (((f_St_isAssumed x2 σ) = 0 → (k_CL_joinOppositesAssumedIn_59 (k_CL_joinOppositesAssumedIn_2 n) x1 x2 σ)) ∧ (¬ (f_St_isAssumed x2 σ) = 0 → ((k_St_truthOf x2 0 σ) ∧ ((k_Te_opposite (f_St_truthOf x2 0 σ) σ) ∧ (k_CL_joinOppositesAssumedIn_56 (k_CL_joinOppositesAssumedIn_2 n) x1 x2 ((f_Te_opposite (f_St_truthOf x2 0 σ) σ).1) ((f_Te_opposite (f_St_truthOf x2 0 σ) σ).2)))))))) ∧ (¬ (f_St_scopeOf x2 σ) = x1 → (k_CL_joinOppositesAssumedIn_59 (k_CL_joinOppositesAssumedIn_2 n) x1 x2 σ))))))
def f_CL_joinOppositesAssumedIn (a1 : Int32) (σ : St) : St := f_CL_joinOppositesAssumedIn_2 1000 a1 0 σ
def k_CL_joinOppositesAssumedIn (a1 : Int32) (σ : St) : Prop := k_CL_joinOppositesAssumedIn_2 1000 a1 0 σ
abbrev w_CL_joinOppositesAssumedIn : List Cond := Cond.code y_CL_joinOppositesAssumedIn b_CL_joinOppositesAssumedIn 3 none :: gw
abbrev rm_CL_joinOppositesAssumedIn : Room := { frames := 4, cells := 0, slots := 0, locals := 97 }
set_option maxHeartbeats 4000000 in
set_option maxRecDepth 100000 in
theorem c_CL_joinOppositesAssumedIn (l : Launch) (D : va_G) (ty : Nat → ClassId) (h : Nat → Nat) (px : va_W) (sa : Nat → Nat) (σ : St) (sz : Nat) (a1 : Int32) (hk : k_CL_joinOppositesAssumedIn a1 σ) : Met l y_CL_joinOppositesAssumedIn w_CL_joinOppositesAssumedIn rm_CL_joinOppositesAssumedIn (va_Pc [.ref (h 0), .int a1] (fun U => U.heap.size = sz ∧ va_P D classes (Wc ty h σ px) U.heap ∧ va_K D classes (Ta ty) U ∧ NW U ∧ MK sa (va_A (Wc ty h σ px) sz) U U.heap ∧ va_D (fun _ => True) (Wc ty h σ px))) (va_Qv (fun u : St => u = f_CL_joinOppositesAssumedIn a1 σ) (fun u t => va_P D classes (Wc ty h u px) t.heap) (va_A (Wc ty h σ px) sz)) 0 0 (va_A (Wc ty h σ px) sz) := by
  refine Met.ofW (cc := b_CL_joinOppositesAssumedIn) (maxL := 3) (ret := none) (by decide) rfl ?_
  intro p e s m args below meth c s₁ B hml hv
  obtain ⟨ha, hsz, hP, hK, hN, hM, hD0⟩ := hv
  have hx := B.exec
  have hb := B.bytes
  have hr := B.returns
  have hg : ∀ w ∈ gw, w.before args s = true := fun w h9 => atoms_spec (ws := w_CL_joinOppositesAssumedIn) B.pre w (List.mem_cons_of_mem _ h9)
  have hown : s.vm.findClass "ClauseLedger" = some m.cls := findClass_of_methodNamed B.named
  have hlocks := B.notSynchronized
  subst hsz
  have hD := hD0.self (sz := s.heap.size)
  generalize hAe : va_A (Wc ty h σ px) s.heap.size = A at hD hM ⊢
  have hA : ∀ q : Nat, s.heap.size ≤ q → A q := fun q h9 => by rw [← hAe]; exact Or.inr h9
  have hS : va_S A s.heap s.heap [] := va_S.rf
  have he : entryFrame m args 3 = entryFrame m ([.ref (h 0), .int a1] : List Value).toArray 3 := by rw [ha]
  rw [he, lg_entry_eq]
  have hl := lv_entry ([.ref (h 0), .int a1]) (n := 3) (Nat.le_of_ble_eq_true rfl)
  generalize (lg_sl ([.ref (h 0), .int a1]) ++ List.replicate (3 - (lg_sl ([.ref (h 0), .int a1])).length) Slot.unset).toArray = ls at hl ⊢
  have hl : lv_has ls 3 [(0, .ref (h 0)), (1, .int a1)] := hl
  generalize hv : f_CL_joinOppositesAssumedIn a1 σ = v
  replace hv := hv.symm
  have B2 : ∀ (n2 : Nat) (H : Heap) (locs : List Loc) (ls : Array Slot) (x1 : Int32) (x2 : Int32) (σ : St), v = f_CL_joinOppositesAssumedIn_2 n2 x1 x2 σ → k_CL_joinOppositesAssumedIn_2 n2 x1 x2 σ → lv_has ls 3 [(0, .ref (h 0)), (1, .int x1), (2, .int x2)] → va_P D classes (Wc ty h σ px) H → va_D A (Wc ty h σ px) → va_S A s.heap H locs → W p l e (headSpec w_CL_joinOppositesAssumedIn rm_CL_joinOppositesAssumedIn).room s m args below meth c H locs 0 0 (MQ below (va_Qv (fun u : St => u = v) (fun u t => va_P D classes (Wc ty h u px) t.heap) A) args s 0 0 A) (F0 m 2 ls []) := by
    intro n2
    induction n2 with
    | zero => intro H locs ls x1 x2 σ hv hk hl hP hD hS; exact hk.elim
    | succ n2 ih2 =>
      have B59 : ∀ (H : Heap) (locs : List Loc) (ls : Array Slot) (x1 : Int32) (x2 : Int32) (σ : St), v = f_CL_joinOppositesAssumedIn_59 (f_CL_joinOppositesAssumedIn_2 n2) x1 x2 σ → k_CL_joinOppositesAssumedIn_59 (k_CL_joinOppositesAssumedIn_2 n2) x1 x2 σ → lv_has ls 3 [(0, .ref (h 0)), (1, .int x1), (2, .int x2)] → va_P D classes (Wc ty h σ px) H → va_D A (Wc ty h σ px) → va_S A s.heap H locs → W p l e (headSpec w_CL_joinOppositesAssumedIn rm_CL_joinOppositesAssumedIn).room s m args below meth c H locs 0 0 (MQ below (va_Qv (fun u : St => u = v) (fun u t => va_P D classes (Wc ty h u px) t.heap) A) args s 0 0 A) (F0 m 59 ls []) := by
        intro H locs ls x1 x2 σ hv hk hl hP hD hS
        unfold f_CL_joinOppositesAssumedIn_59 at hv
        unfold k_CL_joinOppositesAssumedIn_59 at hk
        refine lv_iinc (k := 2) (v := x2 + 1) (lv' := [(2, .int (x2 + 1)), (0, .ref (h 0)), (1, .int x1)]) hx hb d_CL_joinOppositesAssumedIn_59 hl rfl (by first | rfl | simp [lit1, litm1]) (by decide) rfl (fun ls hl => ?_)
        refine lv_goto (tgt := 2) hx hb d_CL_joinOppositesAssumedIn_62 (by decide) ?_
        exact ih2 _ _ _ x1 (x2 + 1) σ hv hk (lv_sub hl [1, 2, 0] rfl) hP hD hS
      have B56 : ∀ (H : Heap) (locs : List Loc) (ls : Array Slot) (x1 : Int32) (x2 : Int32) (s0 : Int32) (σ : St), v = f_CL_joinOppositesAssumedIn_56 (f_CL_joinOppositesAssumedIn_2 n2) x1 x2 s0 σ → k_CL_joinOppositesAssumedIn_56 (k_CL_joinOppositesAssumedIn_2 n2) x1 x2 s0 σ → lv_has ls 3 [(0, .ref (h 0)), (1, .int x1), (2, .int x2)] → va_P D classes (Wc ty h σ px) H → va_D A (Wc ty h σ px) → va_S A s.heap H locs → W p l e (headSpec w_CL_joinOppositesAssumedIn rm_CL_joinOppositesAssumedIn).room s m args below meth c H locs 0 0 (MQ below (va_Qv (fun u : St => u = v) (fun u t => va_P D classes (Wc ty h u px) t.heap) A) args s 0 0 A) (F0 m 56 ls [.int s0, .ref (h 25)]) := by
        intro H locs ls x1 x2 s0 σ hv hk hl hP hD hS
        unfold f_CL_joinOppositesAssumedIn_56 at hv
        unfold k_CL_joinOppositesAssumedIn_56 at hk
        obtain ⟨hk0, hk⟩ := hk
        refine va_callv (va_runV (As := [.int s0]) (rest := []) ⟨hx, hb, hml, hown, hg⟩ (c_Ro_join l D ty h px sa σ H.size s0 hk0) ⟨callB_of 1 hg (gw_C m_939) rfl rfl rfl (hg _ m_10) (hg _ m_936) hd_Ro_join ⟨Nat.le_of_ble_eq_true rfl, Nat.le_of_ble_eq_true rfl⟩, hg _ m_937, hg _ m_938⟩ (zz_preVW hM hS hA hN hK hP hD 25 rfl rfl) rfl rfl hl.1 rfl (lv_room (Nat.le_of_ble_eq_true rfl)) d_CL_joinOppositesAssumedIn_56 ⟨Nat.le_of_ble_eq_true rfl, Nat.le_of_ble_eq_true rfl⟩) hS (fun q _ h => zz_free hD hS hA q h) (zz_free hD hS hA) (fun u56 t H locs ht hvm hp hP1 hz hk1 hS => ?_)
        rw [ht] at hP1
        rw [← hp] at hv hk
        have hD : va_D A (Wc ty h u56 px) := zz_D hD rfl
        have hP := hP1
        exact B59 _ _ _ x1 x2 u56 hv hk (lv_sub hl [0, 1, 2] rfl) hP hD hS
      intro H locs ls x1 x2 σ hv hk hl hP hD hS
      rw [f_CL_joinOppositesAssumedIn_2] at hv
      rw [k_CL_joinOppositesAssumedIn_2] at hk
      refine lv_iload_n hx hb d_CL_joinOppositesAssumedIn_2 rfl (lv_at hl 2 rfl) ?_
      refine lv_aload_n hx hb d_CL_joinOppositesAssumedIn_3 rfl (lv_at hl 0 rfl) ?_
      refine va_get (v := .ref (h 31)) (C := R_CL) (T := T_CL) (N := 11) hx hb hg in_CL hown hK hP 0 rfl rfl 9 (by decide) (hg _ m_293) (fun _ h9 => h9) rfl d_CL_joinOppositesAssumedIn_4 ?_
      obtain ⟨hk0, hk⟩ := hk
      refine zz_callV (va_runV (As := []) (rest := [.int x2]) ⟨hx, hb, hml, hown, hg⟩ (c_St_count l D ty h px sa σ  hk0) ⟨callB_of 0 hg (gw_C m_418) rfl rfl rfl (hg _ m_12) (hg _ m_415) hd_St_count ⟨Nat.le_of_ble_eq_true rfl, Nat.le_of_ble_eq_true rfl⟩, hg _ m_416, hg _ m_417⟩ (zz_preV (hM.at hS) hN hK hP 31 rfl rfl) rfl rfl hl.1 rfl (lv_room (Nat.le_of_ble_eq_true rfl)) d_CL_joinOppositesAssumedIn_7 ⟨Nat.le_of_ble_eq_true rfl, Nat.le_of_ble_eq_true rfl⟩) ?_
      refine lv_icmp_ge (tgt := 65) hx hb d_CL_joinOppositesAssumedIn_10 (by decide) (fun hc => ?_) (fun hc => ?_)
      · have hv := hv.trans (if_pos hc)
        have hk := hk.1 hc
        exact W.vret hx hb hr (fun t ht hW => ⟨⟨_, rfl, hv.symm, by dsimp only; rw [ht]; exact hP⟩, hS.F ht⟩) hS.2.2 d_CL_joinOppositesAssumedIn_65
      · have hv := hv.trans (if_neg hc)
        have hk := hk.2 hc
        refine lv_aload_n hx hb d_CL_joinOppositesAssumedIn_13 rfl (lv_at hl 0 rfl) ?_
        refine va_get (v := .ref (h 31)) (C := R_CL) (T := T_CL) (N := 11) hx hb hg in_CL hown hK hP 0 rfl rfl 9 (by decide) (hg _ m_293) (fun _ h9 => h9) rfl d_CL_joinOppositesAssumedIn_14 ?_
        refine lv_iload_n hx hb d_CL_joinOppositesAssumedIn_17 rfl (lv_at hl 2 rfl) ?_
        obtain ⟨hk0, hk⟩ := hk
        refine zz_callV (va_runV (As := [.int x2]) (rest := []) ⟨hx, hb, hml, hown, hg⟩ (c_St_scopeOf l D ty h px sa σ x2 hk0) ⟨callB_of 1 hg (gw_C m_394) rfl rfl rfl (hg _ m_12) (hg _ m_391) hd_St_scopeOf ⟨Nat.le_of_ble_eq_true rfl, Nat.le_of_ble_eq_true rfl⟩, hg _ m_392, hg _ m_393⟩ (zz_preV (hM.at hS) hN hK hP 31 rfl rfl) rfl rfl hl.1 rfl (lv_room (Nat.le_of_ble_eq_true rfl)) d_CL_joinOppositesAssumedIn_18 ⟨Nat.le_of_ble_eq_true rfl, Nat.le_of_ble_eq_true rfl⟩) ?_
        refine lv_iload_n hx hb d_CL_joinOppositesAssumedIn_21 rfl (lv_at hl 1 rfl) ?_
        refine lv_icmp_ne (tgt := 59) hx hb d_CL_joinOppositesAssumedIn_22 (by decide) (fun hc => ?_) (fun hc => ?_)
        · have hv := hv.trans (if_neg hc)
          have hk := hk.2 hc
          exact B59 _ _ _ x1 x2 σ hv hk (lv_sub hl [0, 1, 2] rfl) hP hD hS
        · have hv := hv.trans (if_pos hc)
          have hk := hk.1 hc
          refine lv_aload_n hx hb d_CL_joinOppositesAssumedIn_25 rfl (lv_at hl 0 rfl) ?_
          refine va_get (v := .ref (h 31)) (C := R_CL) (T := T_CL) (N := 11) hx hb hg in_CL hown hK hP 0 rfl rfl 9 (by decide) (hg _ m_293) (fun _ h9 => h9) rfl d_CL_joinOppositesAssumedIn_26 ?_
          refine lv_iload_n hx hb d_CL_joinOppositesAssumedIn_29 rfl (lv_at hl 2 rfl) ?_
          obtain ⟨hk0, hk⟩ := hk
          refine zz_callV (va_runV (As := [.int x2]) (rest := []) ⟨hx, hb, hml, hown, hg⟩ (c_St_isAssumed l D ty h px sa σ x2 hk0) ⟨callB_of 1 hg (gw_C m_1244) rfl rfl rfl (hg _ m_12) (hg _ m_1241) hd_St_isAssumed ⟨Nat.le_of_ble_eq_true rfl, Nat.le_of_ble_eq_true rfl⟩, hg _ m_1242, hg _ m_1243⟩ (zz_preV (hM.at hS) hN hK hP 31 rfl rfl) rfl rfl hl.1 rfl (lv_room (Nat.le_of_ble_eq_true rfl)) d_CL_joinOppositesAssumedIn_30 ⟨Nat.le_of_ble_eq_true rfl, Nat.le_of_ble_eq_true rfl⟩) ?_
          refine lv_if_eq (tgt := 59) hx hb d_CL_joinOppositesAssumedIn_33 (by decide) (fun hc => ?_) (fun hc => ?_)
          · have hv := hv.trans (if_pos hc)
            have hk := hk.1 hc
            exact B59 _ _ _ x1 x2 σ hv hk (lv_sub hl [0, 1, 2] rfl) hP hD hS
          · have hv := hv.trans (if_neg hc)
            have hk := hk.2 hc
            refine lv_aload_n hx hb d_CL_joinOppositesAssumedIn_36 rfl (lv_at hl 0 rfl) ?_
            refine va_get (v := .ref (h 25)) (C := R_CL) (T := T_CL) (N := 11) hx hb hg in_CL hown hK hP 0 rfl rfl 7 (by decide) (hg _ m_291) (fun _ h9 => h9) rfl d_CL_joinOppositesAssumedIn_37 ?_
            refine lv_aload_n hx hb d_CL_joinOppositesAssumedIn_40 rfl (lv_at hl 0 rfl) ?_
            refine va_get (v := .ref (h 6)) (C := R_CL) (T := T_CL) (N := 11) hx hb hg in_CL hown hK hP 0 rfl rfl 1 (by decide) (hg _ m_285) (fun _ h9 => h9) rfl d_CL_joinOppositesAssumedIn_41 ?_
            refine lv_aload_n hx hb d_CL_joinOppositesAssumedIn_44 rfl (lv_at hl 0 rfl) ?_
            refine va_get (v := .ref (h 31)) (C := R_CL) (T := T_CL) (N := 11) hx hb hg in_CL hown hK hP 0 rfl rfl 9 (by decide) (hg _ m_293) (fun _ h9 => h9) rfl d_CL_joinOppositesAssumedIn_45 ?_
            refine lv_iload_n hx hb d_CL_joinOppositesAssumedIn_48 rfl (lv_at hl 2 rfl) ?_
            refine lv_iconst (v := 0) hx hb d_CL_joinOppositesAssumedIn_49 (by decide) ?_
            obtain ⟨hk0, hk⟩ := hk
            refine zz_callV (va_runV (As := [.int x2, .int 0]) (rest := [.ref (h 6), .ref (h 25)]) ⟨hx, hb, hml, hown, hg⟩ (c_St_truthOf l D ty h px sa σ x2 0 hk0) ⟨callB_of 2 hg (gw_C m_384) rfl rfl rfl (hg _ m_12) (hg _ m_381) hd_St_truthOf ⟨Nat.le_of_ble_eq_true rfl, Nat.le_of_ble_eq_true rfl⟩, hg _ m_382, hg _ m_383⟩ (zz_preV (hM.at hS) hN hK hP 31 rfl rfl) rfl rfl hl.1 rfl (lv_room (Nat.le_of_ble_eq_true rfl)) d_CL_joinOppositesAssumedIn_50 ⟨Nat.le_of_ble_eq_true rfl, Nat.le_of_ble_eq_true rfl⟩) ?_
            obtain ⟨hk0, hk⟩ := hk
            refine va_calli (va_runV (As := [.int (f_St_truthOf x2 0 σ)]) (rest := [.ref (h 25)]) ⟨hx, hb, hml, hown, hg⟩ (c_Te_opposite l D ty h px sa σ H.size (f_St_truthOf x2 0 σ) hk0) ⟨callB_of 1 hg (gw_C m_1014) rfl rfl rfl (hg _ m_3) (hg _ m_1011) hd_Te_opposite ⟨Nat.le_of_ble_eq_true rfl, Nat.le_of_ble_eq_true rfl⟩, hg _ m_1012, hg _ m_1013⟩ (zz_preVW hM hS hA hN hK hP hD 6 rfl rfl) rfl rfl hl.1 rfl (lv_room (Nat.le_of_ble_eq_true rfl)) d_CL_joinOppositesAssumedIn_53 ⟨Nat.le_of_ble_eq_true rfl, Nat.le_of_ble_eq_true rfl⟩) hS (fun q _ h => zz_free hD hS hA q h) (zz_free hD hS hA) (fun r53 u53 t H locs ht hvm hp hP1 hz hk1 hS => ?_)
            rw [ht] at hP1
            rw [← hp] at hv hk
            have hD : va_D A (Wc ty h u53 px) := zz_D hD rfl
            have hP := hP1
            exact B56 _ _ _ x1 x2 r53 u53 hv hk (lv_sub hl [0, 1, 2] rfl) hP hD hS
  unfold f_CL_joinOppositesAssumedIn at hv
  unfold k_CL_joinOppositesAssumedIn at hk
  refine lv_iconst (v := 0) hx hb d_CL_joinOppositesAssumedIn_0 (by decide) ?_
  refine lv_istore_n (lv' := [(2, .int 0), (0, .ref (h 0)), (1, .int a1)]) hx hb d_CL_joinOppositesAssumedIn_1 rfl hl (by decide) rfl (fun ls hl => ?_)
  exact B2 1000 _ _ _ a1 0 σ hv hk (lv_sub hl [1, 2, 0] rfl) hP hD hS

-- ClauseLedger$Scopes.around(I)I
abbrev b_Sc_around : ByteArray := prog_7_method_4_code
def y_Sc_around : MethodName := ⟨"ClauseLedger$Scopes", "around", "(I)I"⟩
theorem hd_Sc_around : y_Sc_around.cls ≠ "java/lang/invoke/MethodHandle" ∧ y_Sc_around.cls ≠ "java/lang/invoke/VarHandle" ∧ (parseMethodDescriptor y_Sc_around.desc).map (fun d => d.parameters.length) = some 1 := by decide +kernel
theorem d_Sc_around_0 : decode b_Sc_around 0 = .ok (.aload_n 0, 1) := by decide +kernel
theorem d_Sc_around_1 : decode b_Sc_around 1 = .ok (.iload_n 1, 1) := by decide +kernel
theorem d_Sc_around_2 : decode b_Sc_around 2 = .ok (.invokevirtual 29, 3) := by decide +kernel
theorem d_Sc_around_5 : decode b_Sc_around 5 = .ok (.ifCond .eq 12, 3) := by decide +kernel
theorem d_Sc_around_8 : decode b_Sc_around 8 = .ok (.aload_n 0, 1) := by decide +kernel
theorem d_Sc_around_9 : decode b_Sc_around 9 = .ok (.getfield 9, 3) := by decide +kernel
theorem d_Sc_around_12 : decode b_Sc_around 12 = .ok (.iload_n 1, 1) := by decide +kernel
theorem d_Sc_around_13 : decode b_Sc_around 13 = .ok (.iaload, 1) := by decide +kernel
theorem d_Sc_around_14 : decode b_Sc_around 14 = .ok (.goto 4, 3) := by decide +kernel
theorem d_Sc_around_17 : decode b_Sc_around 17 = .ok (.iconst 0, 1) := by decide +kernel
theorem d_Sc_around_18 : decode b_Sc_around 18 = .ok (.ireturn, 1) := by decide +kernel
def f_Sc_around_18 (s0 : Int32) (σ : St) : Int32 := s0
def k_Sc_around_18 (s0 : Int32) (σ : St) : Prop := True
def f_Sc_around (a1 : Int32) (σ : St) : Int32 := if (f_Sc_has a1 σ) = 0 then (f_Sc_around_18 0 σ) else (f_Sc_around_18 (σ.1 28 a1.toNatClampNeg) σ)
def k_Sc_around (a1 : Int32) (σ : St) : Prop := (k_Sc_has a1 σ) ∧ (((f_Sc_has a1 σ) = 0 → (k_Sc_around_18 0 σ)) ∧ (¬ (f_Sc_has a1 σ) = 0 → (vp_in a1 21 ∧ (k_Sc_around_18 (σ.1 28 a1.toNatClampNeg) σ))))
abbrev w_Sc_around : List Cond := Cond.code y_Sc_around b_Sc_around 2 (some .int) :: gw
abbrev rm_Sc_around : Room := { frames := 1, cells := 0, slots := 0, locals := 21 }
set_option maxHeartbeats 4000000 in
set_option maxRecDepth 100000 in
theorem c_Sc_around (l : Launch) (D : va_G) (ty : Nat → ClassId) (h : Nat → Nat) (px : va_W) (sa : Nat → Nat) (σ : St) (a1 : Int32) (hk : k_Sc_around a1 σ) : Met l y_Sc_around w_Sc_around rm_Sc_around (va_Pc [.ref (h 27), .int a1] (fun U => va_P D classes (Wc ty h σ px) U.heap ∧ va_K D classes (Ta ty) U ∧ NW U ∧ MK sa (fun _ => False) U U.heap)) (k2_QcV (.int (f_Sc_around a1 σ))) 0 0 (fun _ => False) := by
  refine Met.ofW (cc := b_Sc_around) (maxL := 2) (ret := (some .int)) (by decide) rfl ?_
  intro p e s m args below meth c s₁ B hml hv
  obtain ⟨ha, hP, hK, hN, hM⟩ := hv
  have hx := B.exec
  have hb := B.bytes
  have hr := B.returns
  have hg : ∀ w ∈ gw, w.before args s = true := fun w h9 => atoms_spec (ws := w_Sc_around) B.pre w (List.mem_cons_of_mem _ h9)
  have hown : s.vm.findClass "ClauseLedger$Scopes" = some m.cls := findClass_of_methodNamed B.named
  have hlocks := B.notSynchronized
  have he : entryFrame m args 2 = entryFrame m ([.ref (h 27), .int a1] : List Value).toArray 2 := by rw [ha]
  rw [he, lg_entry_eq]
  have hl := lv_entry ([.ref (h 27), .int a1]) (n := 2) (Nat.le_of_ble_eq_true rfl)
  generalize (lg_sl ([.ref (h 27), .int a1]) ++ List.replicate (2 - (lg_sl ([.ref (h 27), .int a1])).length) Slot.unset).toArray = ls at hl ⊢
  have hl : lv_has ls 2 [(0, .ref (h 27)), (1, .int a1)] := hl
  generalize hv : f_Sc_around a1 σ = v
  replace hv := hv.symm
  have B18 : ∀ (ls : Array Slot) (s0 : Int32), v = f_Sc_around_18 s0 σ → k_Sc_around_18 s0 σ → lv_has ls 2 [] → W p l e (headSpec w_Sc_around rm_Sc_around).room s m args below meth c s.heap [] 0 0 (MQ below (k2_QcV (.int v)) args s 0 0 (fun _ => False)) (F0 m 18 ls [.int s0]) := by
    intro ls s0 hv hk hl
    unfold f_Sc_around_18 at hv
    unfold k_Sc_around_18 at hk
    exact W.iret hx hb hr (fun t ht hW => ⟨by rw [hv], ht⟩) (fun q h => nomatch h) d_Sc_around_18
  unfold f_Sc_around at hv
  unfold k_Sc_around at hk
  refine lv_aload_n hx hb d_Sc_around_0 rfl (lv_at hl 0 rfl) ?_
  refine lv_iload_n hx hb d_Sc_around_1 rfl (lv_at hl 1 rfl) ?_
  obtain ⟨hk0, hk⟩ := hk
  refine zz_callV (va_runV (As := [.int a1]) (rest := []) ⟨hx, hb, hml, hown, hg⟩ (c_Sc_has l D ty h px sa σ a1 hk0) ⟨callB_of 1 hg (gw_C m_402) rfl rfl rfl (hg _ m_11) (hg _ m_399) hd_Sc_has ⟨Nat.le_of_ble_eq_true rfl, Nat.le_of_ble_eq_true rfl⟩, hg _ m_401, hg _ ms_2⟩ (zz_preV hM hN hK hP 27 rfl rfl) rfl rfl hl.1 rfl (lv_room (Nat.le_of_ble_eq_true rfl)) d_Sc_around_2 ⟨Nat.le_of_ble_eq_true rfl, Nat.le_of_ble_eq_true rfl⟩) ?_
  refine lv_if_eq (tgt := 17) hx hb d_Sc_around_5 (by decide) (fun hc => ?_) (fun hc => ?_)
  · have hv := hv.trans (if_pos hc)
    have hk := hk.1 hc
    refine lv_iconst (v := 0) hx hb d_Sc_around_17 (by decide) ?_
    exact B18 _ 0 hv hk (lv_sub hl [] rfl)
  · have hv := hv.trans (if_neg hc)
    have hk := hk.2 hc
    refine lv_aload_n hx hb d_Sc_around_8 rfl (lv_at hl 0 rfl) ?_
    refine va_get (v := .ref (h 28)) (C := R_Sc) (T := T_Sc) (N := 5) hx hb hg in_Sc hown hK hP 27 rfl rfl 0 (by decide) (hg _ m_245) (fun _ h9 => h9) rfl d_Sc_around_9 ?_
    refine lv_iload_n hx hb d_Sc_around_12 rfl (lv_at hl 1 rfl) ?_
    obtain ⟨hk0, hk⟩ := hk
    refine va_iald hx hb hK hP 28 0 rfl rfl hk0 d_Sc_around_13 ?_
    refine lv_goto (tgt := 18) hx hb d_Sc_around_14 (by decide) ?_
    exact B18 _ (σ.1 28 a1.toNatClampNeg) hv hk (lv_sub hl [] rfl)

-- ClauseLedger$Scopes.closeInner()V
abbrev b_Sc_closeInner : ByteArray := prog_7_method_8_code
def y_Sc_closeInner : MethodName := ⟨"ClauseLedger$Scopes", "closeInner", "()V"⟩
theorem hd_Sc_closeInner : y_Sc_closeInner.cls ≠ "java/lang/invoke/MethodHandle" ∧ y_Sc_closeInner.cls ≠ "java/lang/invoke/VarHandle" ∧ (parseMethodDescriptor y_Sc_closeInner.desc).map (fun d => d.parameters.length) = some 0 := by decide +kernel
theorem d_Sc_closeInner_0 : decode b_Sc_closeInner 0 = .ok (.aload_n 0, 1) := by decide +kernel
theorem d_Sc_closeInner_1 : decode b_Sc_closeInner 1 = .ok (.getfield 26, 3) := by decide +kernel
theorem d_Sc_closeInner_4 : decode b_Sc_closeInner 4 = .ok (.ifCond .eq 26, 3) := by decide +kernel
theorem d_Sc_closeInner_7 : decode b_Sc_closeInner 7 = .ok (.aload_n 0, 1) := by decide +kernel
theorem d_Sc_closeInner_8 : decode b_Sc_closeInner 8 = .ok (.getfield 18, 3) := by decide +kernel
theorem d_Sc_closeInner_11 : decode b_Sc_closeInner 11 = .ok (.aload_n 0, 1) := by decide +kernel
theorem d_Sc_closeInner_12 : decode b_Sc_closeInner 12 = .ok (.getfield 26, 3) := by decide +kernel
theorem d_Sc_closeInner_15 : decode b_Sc_closeInner 15 = .ok (.iconst 1, 1) := by decide +kernel
theorem d_Sc_closeInner_16 : decode b_Sc_closeInner 16 = .ok (.bastore, 1) := by decide +kernel
theorem d_Sc_closeInner_17 : decode b_Sc_closeInner 17 = .ok (.aload_n 0, 1) := by decide +kernel
theorem d_Sc_closeInner_18 : decode b_Sc_closeInner 18 = .ok (.aload_n 0, 1) := by decide +kernel
theorem d_Sc_closeInner_19 : decode b_Sc_closeInner 19 = .ok (.getfield 9, 3) := by decide +kernel
theorem d_Sc_closeInner_22 : decode b_Sc_closeInner 22 = .ok (.aload_n 0, 1) := by decide +kernel
theorem d_Sc_closeInner_23 : decode b_Sc_closeInner 23 = .ok (.getfield 26, 3) := by decide +kernel
theorem d_Sc_closeInner_26 : decode b_Sc_closeInner 26 = .ok (.iaload, 1) := by decide +kernel
theorem d_Sc_closeInner_27 : decode b_Sc_closeInner 27 = .ok (.putfield 26, 3) := by decide +kernel
theorem d_Sc_closeInner_30 : decode b_Sc_closeInner 30 = .ok (.return_, 1) := by decide +kernel
def f_Sc_closeInner_30 (σ : St) : St := σ
def k_Sc_closeInner_30 (σ : St) : Prop := True
def f_Sc_closeInner_17 (σ : St) : St := f_Sc_closeInner_30 (sF σ 27 4 (σ.1 28 (σ.1 27 4).toNatClampNeg))
def k_Sc_closeInner_17 (σ : St) : Prop := vp_in (σ.1 27 4) 21 ∧ (k_Sc_closeInner_30 (sF σ 27 4 (σ.1 28 (σ.1 27 4).toNatClampNeg)))
def f_Sc_closeInner (σ : St) : St := if (σ.1 27 4) = 0 then (f_Sc_closeInner_30 σ) else (f_Sc_closeInner_17 (sA σ 30 (σ.1 27 4) (vp_nar .boolean 1)))
def k_Sc_closeInner (σ : St) : Prop := ((σ.1 27 4) = 0 → (k_Sc_closeInner_30 σ)) ∧ (¬ (σ.1 27 4) = 0 → (vp_in (σ.1 27 4) 21 ∧ (k_Sc_closeInner_17 (sA σ 30 (σ.1 27 4) (vp_nar .boolean 1)))))
abbrev w_Sc_closeInner : List Cond := Cond.code y_Sc_closeInner b_Sc_closeInner 1 none :: gw
abbrev rm_Sc_closeInner : Room := { frames := 0, cells := 0, slots := 0, locals := 0 }
set_option maxHeartbeats 4000000 in
set_option maxRecDepth 100000 in
theorem c_Sc_closeInner (l : Launch) (D : va_G) (ty : Nat → ClassId) (h : Nat → Nat) (px : va_W) (sa : Nat → Nat) (σ : St) (sz : Nat) (hk : k_Sc_closeInner σ) : Met l y_Sc_closeInner w_Sc_closeInner rm_Sc_closeInner (va_Pc [.ref (h 27)] (fun U => U.heap.size = sz ∧ va_P D classes (Wc ty h σ px) U.heap ∧ va_K D classes (Ta ty) U ∧ NW U ∧ MK sa (va_A (Wc ty h σ px) sz) U U.heap ∧ va_D (fun _ => True) (Wc ty h σ px))) (va_Qv (fun u : St => u = f_Sc_closeInner σ) (fun u t => va_P D classes (Wc ty h u px) t.heap) (va_A (Wc ty h σ px) sz)) 0 0 (va_A (Wc ty h σ px) sz) := by
  refine Met.ofW (cc := b_Sc_closeInner) (maxL := 1) (ret := none) (by decide) rfl ?_
  intro p e s m args below meth c s₁ B hml hv
  obtain ⟨ha, hsz, hP, hK, hN, hM, hD0⟩ := hv
  have hx := B.exec
  have hb := B.bytes
  have hr := B.returns
  have hg : ∀ w ∈ gw, w.before args s = true := fun w h9 => atoms_spec (ws := w_Sc_closeInner) B.pre w (List.mem_cons_of_mem _ h9)
  have hown : s.vm.findClass "ClauseLedger$Scopes" = some m.cls := findClass_of_methodNamed B.named
  have hlocks := B.notSynchronized
  subst hsz
  have hD := hD0.self (sz := s.heap.size)
  generalize hAe : va_A (Wc ty h σ px) s.heap.size = A at hD hM ⊢
  have hA : ∀ q : Nat, s.heap.size ≤ q → A q := fun q h9 => by rw [← hAe]; exact Or.inr h9
  have hS : va_S A s.heap s.heap [] := va_S.rf
  have he : entryFrame m args 1 = entryFrame m ([.ref (h 27)] : List Value).toArray 1 := by rw [ha]
  rw [he, lg_entry_eq]
  have hl := lv_entry ([.ref (h 27)]) (n := 1) (Nat.le_of_ble_eq_true rfl)
  generalize (lg_sl ([.ref (h 27)]) ++ List.replicate (1 - (lg_sl ([.ref (h 27)])).length) Slot.unset).toArray = ls at hl ⊢
  have hl : lv_has ls 1 [(0, .ref (h 27))] := hl
  generalize hv : f_Sc_closeInner σ = v
  replace hv := hv.symm
  have B30 : ∀ (H : Heap) (locs : List Loc) (ls : Array Slot) (σ : St), v = f_Sc_closeInner_30 σ → k_Sc_closeInner_30 σ → lv_has ls 1 [] → va_P D classes (Wc ty h σ px) H → va_D A (Wc ty h σ px) → va_S A s.heap H locs → W p l e (headSpec w_Sc_closeInner rm_Sc_closeInner).room s m args below meth c H locs 0 0 (MQ below (va_Qv (fun u : St => u = v) (fun u t => va_P D classes (Wc ty h u px) t.heap) A) args s 0 0 A) (F0 m 30 ls []) := by
    intro H locs ls σ hv hk hl hP hD hS
    unfold f_Sc_closeInner_30 at hv
    unfold k_Sc_closeInner_30 at hk
    exact W.vret hx hb hr (fun t ht hW => ⟨⟨_, rfl, hv.symm, by dsimp only; rw [ht]; exact hP⟩, hS.F ht⟩) hS.2.2 d_Sc_closeInner_30
  have B17 : ∀ (H : Heap) (locs : List Loc) (ls : Array Slot) (σ : St), v = f_Sc_closeInner_17 σ → k_Sc_closeInner_17 σ → lv_has ls 1 [(0, .ref (h 27))] → va_P D classes (Wc ty h σ px) H → va_D A (Wc ty h σ px) → va_S A s.heap H locs → W p l e (headSpec w_Sc_closeInner rm_Sc_closeInner).room s m args below meth c H locs 0 0 (MQ below (va_Qv (fun u : St => u = v) (fun u t => va_P D classes (Wc ty h u px) t.heap) A) args s 0 0 A) (F0 m 17 ls []) := by
    intro H locs ls σ hv hk hl hP hD hS
    unfold f_Sc_closeInner_17 at hv
    unfold k_Sc_closeInner_17 at hk
    refine lv_aload_n hx hb d_Sc_closeInner_17 rfl (lv_at hl 0 rfl) ?_
    refine lv_aload_n hx hb d_Sc_closeInner_18 rfl (lv_at hl 0 rfl) ?_
    refine va_get (v := .ref (h 28)) (C := R_Sc) (T := T_Sc) (N := 5) hx hb hg in_Sc hown hK hP 27 rfl rfl 0 (by decide) (hg _ m_245) (fun _ h9 => h9) rfl d_Sc_closeInner_19 ?_
    refine lv_aload_n hx hb d_Sc_closeInner_22 rfl (lv_at hl 0 rfl) ?_
    refine va_get (v := .int (σ.1 27 4)) (C := R_Sc) (T := T_Sc) (N := 5) hx hb hg in_Sc hown hK hP 27 rfl rfl 4 (by decide) (hg _ m_249) (fun _ h9 => h9) rfl d_Sc_closeInner_23 ?_
    obtain ⟨hk0, hk⟩ := hk
    refine va_iald hx hb hK hP 28 0 rfl rfl hk0 d_Sc_closeInner_26 ?_
    refine va_put (v := .int (σ.1 28 (σ.1 27 4).toNatClampNeg)) (ty := .int) (C := R_Sc) (T := T_Sc) (N := 5) hx hb hg in_Sc ty_Sc ok_Sc nm_Sc hown hK hP hD hS 27 rfl rfl 4 (by decide) (hg _ m_249) (fun _ h9 => h9) rfl (by decide +kernel) rfl rfl (Nat.le_of_ble_eq_true rfl) d_Sc_closeInner_27 (fun H locs hP hD hS => ?_)
    have hP : va_P D classes (Wc ty h (sF σ 27 4 (σ.1 28 (σ.1 27 4).toNatClampNeg)) px) H := hP
    have hD : va_D A (Wc ty h (sF σ 27 4 (σ.1 28 (σ.1 27 4).toNatClampNeg)) px) := hD
    exact B30 _ _ _  (sF σ 27 4 (σ.1 28 (σ.1 27 4).toNatClampNeg)) hv hk (lv_sub hl [] rfl) hP hD hS
  unfold f_Sc_closeInner at hv
  unfold k_Sc_closeInner at hk
  refine lv_aload_n hx hb d_Sc_closeInner_0 rfl (lv_at hl 0 rfl) ?_
  refine va_get (v := .int (σ.1 27 4)) (C := R_Sc) (T := T_Sc) (N := 5) hx hb hg in_Sc hown hK hP 27 rfl rfl 4 (by decide) (hg _ m_249) (fun _ h9 => h9) rfl d_Sc_closeInner_1 ?_
  refine lv_if_eq (tgt := 30) hx hb d_Sc_closeInner_4 (by decide) (fun hc => ?_) (fun hc => ?_)
  · have hv := hv.trans (if_pos hc)
    have hk := hk.1 hc
    exact B30 _ _ _  σ hv hk (lv_sub hl [] rfl) hP hD hS
  · have hv := hv.trans (if_neg hc)
    have hk := hk.2 hc
    refine lv_aload_n hx hb d_Sc_closeInner_7 rfl (lv_at hl 0 rfl) ?_
    refine va_get (v := .ref (h 30)) (C := R_Sc) (T := T_Sc) (N := 5) hx hb hg in_Sc hown hK hP 27 rfl rfl 2 (by decide) (hg _ m_247) (fun _ h9 => h9) rfl d_Sc_closeInner_8 ?_
    refine lv_aload_n hx hb d_Sc_closeInner_11 rfl (lv_at hl 0 rfl) ?_
    refine va_get (v := .int (σ.1 27 4)) (C := R_Sc) (T := T_Sc) (N := 5) hx hb hg in_Sc hown hK hP 27 rfl rfl 4 (by decide) (hg _ m_249) (fun _ h9 => h9) rfl d_Sc_closeInner_12 ?_
    refine lv_iconst (v := 1) hx hb d_Sc_closeInner_15 (by decide) ?_
    obtain ⟨hk0, hk⟩ := hk
    refine va_zast hx hb hK hP hD hS 30 3 rfl rfl hk0 d_Sc_closeInner_16 (fun H locs hP hD hS => ?_)
    have hP : va_P D classes (Wc ty h (sA σ 30 (σ.1 27 4) (vp_nar .boolean 1)) px) H := hP
    have hD : va_D A (Wc ty h (sA σ 30 (σ.1 27 4) (vp_nar .boolean 1)) px) := hD
    exact B17 _ _ _  (sA σ 30 (σ.1 27 4) (vp_nar .boolean 1)) hv hk (lv_sub hl [0] rfl) hP hD hS

-- ClauseLedger.close()I
abbrev b_CL_close : ByteArray := prog_1_method_18_code
def y_CL_close : MethodName := ⟨"ClauseLedger", "close", "()I"⟩
theorem hd_CL_close : y_CL_close.cls ≠ "java/lang/invoke/MethodHandle" ∧ y_CL_close.cls ≠ "java/lang/invoke/VarHandle" ∧ (parseMethodDescriptor y_CL_close.desc).map (fun d => d.parameters.length) = some 0 := by decide +kernel
theorem d_CL_close_0 : decode b_CL_close 0 = .ok (.aload_n 0, 1) := by decide +kernel
theorem d_CL_close_1 : decode b_CL_close 1 = .ok (.invokevirtual 102, 3) := by decide +kernel
theorem d_CL_close_4 : decode b_CL_close 4 = .ok (.ifCond .eq 5, 3) := by decide +kernel
theorem d_CL_close_7 : decode b_CL_close 7 = .ok (.iconst (-1), 1) := by decide +kernel
theorem d_CL_close_8 : decode b_CL_close 8 = .ok (.ireturn, 1) := by decide +kernel
theorem d_CL_close_9 : decode b_CL_close 9 = .ok (.aload_n 0, 1) := by decide +kernel
theorem d_CL_close_10 : decode b_CL_close 10 = .ok (.getfield 72, 3) := by decide +kernel
theorem d_CL_close_13 : decode b_CL_close 13 = .ok (.invokevirtual 145, 3) := by decide +kernel
theorem d_CL_close_16 : decode b_CL_close 16 = .ok (.istore_n 1, 1) := by decide +kernel
theorem d_CL_close_17 : decode b_CL_close 17 = .ok (.aload_n 0, 1) := by decide +kernel
theorem d_CL_close_18 : decode b_CL_close 18 = .ok (.getfield 79, 3) := by decide +kernel
theorem d_CL_close_21 : decode b_CL_close 21 = .ok (.iload_n 1, 1) := by decide +kernel
theorem d_CL_close_22 : decode b_CL_close 22 = .ok (.invokevirtual 230, 3) := by decide +kernel
theorem d_CL_close_25 : decode b_CL_close 25 = .ok (.istore_n 2, 1) := by decide +kernel
theorem d_CL_close_26 : decode b_CL_close 26 = .ok (.iload_n 1, 1) := by decide +kernel
theorem d_CL_close_27 : decode b_CL_close 27 = .ok (.ifCond .eq 8, 3) := by decide +kernel
theorem d_CL_close_30 : decode b_CL_close 30 = .ok (.iload_n 2, 1) := by decide +kernel
theorem d_CL_close_31 : decode b_CL_close 31 = .ok (.iconst (-1), 1) := by decide +kernel
theorem d_CL_close_32 : decode b_CL_close 32 = .ok (.if_icmp .ne 8, 3) := by decide +kernel
theorem d_CL_close_35 : decode b_CL_close 35 = .ok (.aload_n 0, 1) := by decide +kernel
theorem d_CL_close_36 : decode b_CL_close 36 = .ok (.invokevirtual 112, 3) := by decide +kernel
theorem d_CL_close_39 : decode b_CL_close 39 = .ok (.ireturn, 1) := by decide +kernel
theorem d_CL_close_40 : decode b_CL_close 40 = .ok (.aload_n 0, 1) := by decide +kernel
theorem d_CL_close_41 : decode b_CL_close 41 = .ok (.getfield 65, 3) := by decide +kernel
theorem d_CL_close_44 : decode b_CL_close 44 = .ok (.invokevirtual 140, 3) := by decide +kernel
theorem d_CL_close_47 : decode b_CL_close 47 = .ok (.aload_n 0, 1) := by decide +kernel
theorem d_CL_close_48 : decode b_CL_close 48 = .ok (.iload_n 1, 1) := by decide +kernel
theorem d_CL_close_49 : decode b_CL_close 49 = .ok (.invokevirtual 233, 3) := by decide +kernel
theorem d_CL_close_52 : decode b_CL_close 52 = .ok (.aload_n 0, 1) := by decide +kernel
theorem d_CL_close_53 : decode b_CL_close 53 = .ok (.iload_n 2, 1) := by decide +kernel
theorem d_CL_close_54 : decode b_CL_close 54 = .ok (.iconst (-1), 1) := by decide +kernel
theorem d_CL_close_55 : decode b_CL_close 55 = .ok (.invokevirtual 162, 3) := by decide +kernel
theorem d_CL_close_58 : decode b_CL_close 58 = .ok (.aload_n 0, 1) := by decide +kernel
theorem d_CL_close_59 : decode b_CL_close 59 = .ok (.aload_n 0, 1) := by decide +kernel
theorem d_CL_close_60 : decode b_CL_close 60 = .ok (.getfield 72, 3) := by decide +kernel
theorem d_CL_close_63 : decode b_CL_close 63 = .ok (.iload_n 1, 1) := by decide +kernel
theorem d_CL_close_64 : decode b_CL_close 64 = .ok (.invokevirtual 236, 3) := by decide +kernel
theorem d_CL_close_67 : decode b_CL_close 67 = .ok (.iconst 0, 1) := by decide +kernel
theorem d_CL_close_68 : decode b_CL_close 68 = .ok (.invokevirtual 148, 3) := by decide +kernel
theorem d_CL_close_71 : decode b_CL_close 71 = .ok (.istore_n 3, 1) := by decide +kernel
theorem d_CL_close_72 : decode b_CL_close 72 = .ok (.aload_n 0, 1) := by decide +kernel
theorem d_CL_close_73 : decode b_CL_close 73 = .ok (.getfield 72, 3) := by decide +kernel
theorem d_CL_close_76 : decode b_CL_close 76 = .ok (.invokevirtual 239, 3) := by decide +kernel
theorem d_CL_close_79 : decode b_CL_close 79 = .ok (.iload_n 3, 1) := by decide +kernel
theorem d_CL_close_80 : decode b_CL_close 80 = .ok (.ireturn, 1) := by decide +kernel
def f_CL_close_39 (s0 : Int32) (σ : St) : XR := (.inl s0, σ)
def k_CL_close_39 (s0 : Int32) (σ : St) : Prop := True
def f_CL_close_35 (σ : St) : XR := xb (f_CL_throwWrong σ) (fun x u => f_CL_close_39 x u)
def k_CL_close_35 (σ : St) : Prop := (k_CL_throwWrong σ) ∧ (∀ x, (f_CL_throwWrong σ).1 = .inl x → (k_CL_close_39 x ((f_CL_throwWrong σ).2)))
def f_CL_close_79 (x3 : Int32) (σ : St) : XR := (.inl x3, σ)
def k_CL_close_79 (x3 : Int32) (σ : St) : Prop := True
def f_CL_close_71 (s0 : Int32) (σ : St) : XR := f_CL_close_79 s0 (f_Sc_closeInner σ)
def k_CL_close_71 (s0 : Int32) (σ : St) : Prop := (k_Sc_closeInner σ) ∧ (k_CL_close_79 s0 (f_Sc_closeInner σ))
def f_CL_close_58 (x1 : Int32) (σ : St) : XR := xb (f_CL_enterRow (f_Sc_around x1 σ) 0 σ) (fun x u => f_CL_close_71 x u)
def k_CL_close_58 (x1 : Int32) (σ : St) : Prop := (k_Sc_around x1 σ) ∧ ((k_CL_enterRow (f_Sc_around x1 σ) 0 σ) ∧ (∀ x, (f_CL_enterRow (f_Sc_around x1 σ) 0 σ).1 = .inl x → (k_CL_close_71 x ((f_CL_enterRow (f_Sc_around x1 σ) 0 σ).2))))
def f_CL_close_52 (x1 : Int32) (x2 : Int32) (σ : St) : XR := f_CL_close_58 x1 (f_CL_joinAllBut x2 (-1) σ)
def k_CL_close_52 (x1 : Int32) (x2 : Int32) (σ : St) : Prop := (k_CL_joinAllBut x2 (-1) σ) ∧ (k_CL_close_58 x1 (f_CL_joinAllBut x2 (-1) σ))
def f_CL_close_47 (x1 : Int32) (x2 : Int32) (σ : St) : XR := f_CL_close_52 x1 x2 (f_CL_joinOppositesAssumedIn x1 σ)
def k_CL_close_47 (x1 : Int32) (x2 : Int32) (σ : St) : Prop := (k_CL_joinOppositesAssumedIn x1 σ) ∧ (k_CL_close_52 x1 x2 (f_CL_joinOppositesAssumedIn x1 σ))
def f_CL_close_26 (x1 : Int32) (x2 : Int32) (σ : St) : XR := if x1 = 0 then (f_CL_close_35 σ) else (if x2 = (-1) then (f_CL_close_35 σ) else (f_CL_close_47 x1 x2 (f_Ro_wipe σ)))
def k_CL_close_26 (x1 : Int32) (x2 : Int32) (σ : St) : Prop := (x1 = 0 → (k_CL_close_35 σ)) ∧ (¬ x1 = 0 → ((x2 = (-1) → (k_CL_close_35 σ)) ∧ (¬ x2 = (-1) → ((k_Ro_wipe σ) ∧ (k_CL_close_47 x1 x2 (f_Ro_wipe σ))))))
def f_CL_close_17 (x1 : Int32) (σ : St) : XR := f_CL_close_26 x1 (f_St_latestIn x1 σ) σ
def k_CL_close_17 (x1 : Int32) (σ : St) : Prop := (k_St_latestIn x1 σ) ∧ (k_CL_close_26 x1 (f_St_latestIn x1 σ) σ)
def f_CL_close (σ : St) : XR := if (f_CL_isShut σ) = 0 then (f_CL_close_17 (f_Sc_innermost σ) σ) else (.inl (-1), σ)
def k_CL_close (σ : St) : Prop := (k_CL_isShut σ) ∧ (((f_CL_isShut σ) = 0 → ((k_Sc_innermost σ) ∧ (k_CL_close_17 (f_Sc_innermost σ) σ))) ∧ (¬ (f_CL_isShut σ) = 0 → True))
abbrev w_CL_close : List Cond := Cond.code y_CL_close b_CL_close 4 (some .int) :: gw
abbrev rm_CL_close : Room := { frames := 8, cells := 1, slots := 6, locals := 142 }
set_option maxHeartbeats 4000000 in
set_option maxRecDepth 100000 in
theorem c_CL_close (l : Launch) (hlt : l.stackTraces = false) (D : va_G) (ty : Nat → ClassId) (h : Nat → Nat) (px : va_W) (sa : Nat → Nat) (σ : St) (sz : Nat) (hk : k_CL_close σ) : xMet l y_CL_close w_CL_close rm_CL_close (va_Pc [.ref (h 0)] (fun U => U.heap.size = sz ∧ va_P D classes (Wc ty h σ px) U.heap ∧ va_K D classes (Ta ty) U ∧ NW U ∧ XK sa (va_A (Wc ty h σ px) sz) U U.heap ∧ MK sa (va_A (Wc ty h σ px) sz) U U.heap ∧ va_D (fun _ => True) (Wc ty h σ px))) (Rx D classes (fun u => Wc ty h u px) (va_A (Wc ty h σ px) sz) (f_CL_close σ)) 1 6 (va_A (Wc ty h σ px) sz) := by
  refine xMet.ofW (cc := b_CL_close) (maxL := 4) (ret := (some .int)) (by decide) rfl ?_
  intro p e s m args below meth c s₁ B hml htab hv
  obtain ⟨ha, hsz, hP, hK, hN, hX, hM, hD0⟩ := hv
  have hx := B.exec
  have hb := B.bytes
  have hr := B.returns
  have hg : ∀ w ∈ gw, w.before args s = true := fun w h9 => atoms_spec (ws := w_CL_close) B.pre w (List.mem_cons_of_mem _ h9)
  have hown : s.vm.findClass "ClauseLedger" = some m.cls := findClass_of_methodNamed B.named
  have hlocks := B.notSynchronized
  subst hsz
  have hD := hD0.self (sz := s.heap.size)
  generalize hAe : va_A (Wc ty h σ px) s.heap.size = A at hD hM hX ⊢
  have hA : ∀ q : Nat, s.heap.size ≤ q → A q := fun q h9 => by rw [← hAe]; exact Or.inr h9
  have hS : va_S A s.heap s.heap [] := va_S.rf
  have he : entryFrame m args 4 = entryFrame m ([.ref (h 0)] : List Value).toArray 4 := by rw [ha]
  rw [he, lg_entry_eq]
  have hl := lv_entry ([.ref (h 0)]) (n := 4) (Nat.le_of_ble_eq_true rfl)
  generalize (lg_sl ([.ref (h 0)]) ++ List.replicate (4 - (lg_sl ([.ref (h 0)])).length) Slot.unset).toArray = ls at hl ⊢
  have hl : lv_has ls 4 [(0, .ref (h 0))] := hl
  generalize hv : f_CL_close σ = v
  replace hv := hv.symm
  have B39 : ∀ (H : Heap) (locs : List Loc) (ls : Array Slot) (s0 : Int32) (σ : St), v = f_CL_close_39 s0 σ → k_CL_close_39 s0 σ → lv_has ls 4 [] → va_P D classes (Wc ty h σ px) H → va_D A (Wc ty h σ px) → va_S A s.heap H locs → W p l e (headSpec w_CL_close rm_CL_close).room s m args below meth c H locs 1 6 (xMQ below (Rx D classes (fun u => Wc ty h u px) A v) args s 1 6 A) (F0 m 39 ls [.int s0]) := by
    intro H locs ls s0 σ hv hk hl hP hD hS
    unfold f_CL_close_39 at hv
    unfold k_CL_close_39 at hk
    exact x_ret (fun o t hq => by obtain ⟨rfl, ht⟩ := hq; exact ⟨hS.F ht, by rw [ht, hv]; exact hP, _, rfl, by rw [hv]⟩) (Nat.le_of_ble_eq_true rfl) (Nat.le_of_ble_eq_true rfl) (W.iret (Qc := fun _ _ o t => o = .returned (some (.int s0)) ∧ t.heap = H) hx hb hr (fun t ht hW => ⟨rfl, ht⟩) hS.2.2 d_CL_close_39)
  have B35 : ∀ (H : Heap) (locs : List Loc) (ls : Array Slot) (σ : St), v = f_CL_close_35 σ → k_CL_close_35 σ → lv_has ls 4 [(0, .ref (h 0))] → va_P D classes (Wc ty h σ px) H → va_D A (Wc ty h σ px) → va_S A s.heap H locs → W p l e (headSpec w_CL_close rm_CL_close).room s m args below meth c H locs 0 0 (xMQ below (Rx D classes (fun u => Wc ty h u px) A v) args s 1 6 A) (F0 m 35 ls []) := by
    intro H locs ls σ hv hk hl hP hD hS
    unfold f_CL_close_35 at hv
    unfold k_CL_close_35 at hk
    refine lv_aload_n hx hb d_CL_close_35 rfl (lv_at hl 0 rfl) ?_
    obtain ⟨hk0, hk⟩ := hk
    refine x_callV (As := []) (rest := []) ⟨hx, hb, hml, hown, hg⟩ (c_CL_throwWrong l hlt D ty h px sa σ H.size  hk0) ⟨callB_of 0 hg (gw_C m_774) rfl rfl rfl (hg _ m_1) (hg _ m_771) hd_CL_throwWrong ⟨Nat.le_of_ble_eq_true rfl, Nat.le_of_ble_eq_true rfl⟩, hg _ m_773, hg _ ms_24⟩ (zz_preX hM hN hX hS hA hK hP hD 0 rfl rfl) rfl hl.1 rfl (Nat.le_of_ble_eq_true rfl) d_CL_close_36 ⟨Nat.le_of_ble_eq_true rfl, Nat.le_of_ble_eq_true rfl⟩ (fun r9 st9 t9 L9 h09 hal9 hR9 hL9 => ?_) (fun q9 st9 t9 L9 h09 h19 hal9 hR9 hL9 => ?_)
    · obtain ⟨hF9, hP9, x, rfl, hz9⟩ := hR9
      have hv := hv.trans (xb_l hz9)
      have hk := hk _ hz9
      have hS := zz_xS hS h09 hF9 (zz_free hD hS hA) hL9
      have hD : va_D A (Wc ty h (f_CL_throwWrong σ).2 px) := zz_D hD rfl
      exact B39 _ _ _ x (f_CL_throwWrong σ).2 hv hk (lv_sub hl [] rfl) hP9 hD hS
    · obtain ⟨hF9, hP9, E9, ce9, hz9, hq9, hn9, hc9⟩ := hR9
      have hv := hv.trans (xb_r hz9)
      have hS := zz_xS hS h09 hF9 (zz_free hD hS hA) hL9
      exact x_out htab hlocks (fun t ht hal => ⟨hS.F ht, by rw [ht, hv]; exact hP9, E9, ce9, by rw [hv], by rw [ht]; exact hq9, hn9, by rw [h19.findClass]; exact hc9⟩) hS.2.2 (Nat.le_of_ble_eq_true rfl) (Nat.le_of_ble_eq_true rfl)
  have B79 : ∀ (H : Heap) (locs : List Loc) (ls : Array Slot) (x3 : Int32) (σ : St), v = f_CL_close_79 x3 σ → k_CL_close_79 x3 σ → lv_has ls 4 [(3, .int x3)] → va_P D classes (Wc ty h σ px) H → va_D A (Wc ty h σ px) → va_S A s.heap H locs → W p l e (headSpec w_CL_close rm_CL_close).room s m args below meth c H locs 1 6 (xMQ below (Rx D classes (fun u => Wc ty h u px) A v) args s 1 6 A) (F0 m 79 ls []) := by
    intro H locs ls x3 σ hv hk hl hP hD hS
    unfold f_CL_close_79 at hv
    unfold k_CL_close_79 at hk
    refine lv_iload_n hx hb d_CL_close_79 rfl (lv_at hl 0 rfl) ?_
    exact x_ret (fun o t hq => by obtain ⟨rfl, ht⟩ := hq; exact ⟨hS.F ht, by rw [ht, hv]; exact hP, _, rfl, by rw [hv]⟩) (Nat.le_of_ble_eq_true rfl) (Nat.le_of_ble_eq_true rfl) (W.iret (Qc := fun _ _ o t => o = .returned (some (.int x3)) ∧ t.heap = H) hx hb hr (fun t ht hW => ⟨rfl, ht⟩) hS.2.2 d_CL_close_80)
  have B71 : ∀ (H : Heap) (locs : List Loc) (ls : Array Slot) (s0 : Int32) (σ : St), v = f_CL_close_71 s0 σ → k_CL_close_71 s0 σ → lv_has ls 4 [(0, .ref (h 0))] → va_P D classes (Wc ty h σ px) H → va_D A (Wc ty h σ px) → va_S A s.heap H locs → W p l e (headSpec w_CL_close rm_CL_close).room s m args below meth c H locs 1 6 (xMQ below (Rx D classes (fun u => Wc ty h u px) A v) args s 1 6 A) (F0 m 71 ls [.int s0]) := by
    intro H locs ls s0 σ hv hk hl hP hD hS
    unfold f_CL_close_71 at hv
    unfold k_CL_close_71 at hk
    refine lv_istore_n (lv' := [(3, .int s0), (0, .ref (h 0))]) hx hb d_CL_close_71 rfl hl (by decide) rfl (fun ls hl => ?_)
    refine lv_aload_n hx hb d_CL_close_72 rfl (lv_at hl 1 rfl) ?_
    refine va_get (v := .ref (h 27)) (C := R_CL) (T := T_CL) (N := 11) hx hb hg in_CL hown hK hP 0 rfl rfl 8 (by decide) (hg _ m_292) (fun _ h9 => h9) rfl d_CL_close_73 ?_
    obtain ⟨hk0, hk⟩ := hk
    refine va_callv (va_runV (As := []) (rest := []) ⟨hx, hb, hml, hown, hg⟩ (c_Sc_closeInner l D ty h px sa σ H.size  hk0) ⟨callB_of 0 hg (gw_C m_1252) rfl rfl rfl (hg _ m_11) (hg _ m_1249) hd_Sc_closeInner ⟨Nat.le_of_ble_eq_true rfl, Nat.le_of_ble_eq_true rfl⟩, hg _ m_1250, hg _ m_1251⟩ (zz_preVW hM hS hA hN hK hP hD 27 rfl rfl) rfl rfl hl.1 rfl (lv_room (Nat.le_of_ble_eq_true rfl)) d_CL_close_76 ⟨Nat.le_of_ble_eq_true rfl, Nat.le_of_ble_eq_true rfl⟩) hS (fun q _ h => zz_free hD hS hA q h) (zz_free hD hS hA) (fun u76 t H locs ht hvm hp hP1 hz hk1 hS => ?_)
    rw [ht] at hP1
    rw [← hp] at hv hk
    have hD : va_D A (Wc ty h u76 px) := zz_D hD rfl
    have hP := hP1
    exact B79 _ _ _ s0 u76 hv hk (lv_sub hl [0] rfl) hP hD hS
  have B58 : ∀ (H : Heap) (locs : List Loc) (ls : Array Slot) (x1 : Int32) (σ : St), v = f_CL_close_58 x1 σ → k_CL_close_58 x1 σ → lv_has ls 4 [(0, .ref (h 0)), (1, .int x1)] → va_P D classes (Wc ty h σ px) H → va_D A (Wc ty h σ px) → va_S A s.heap H locs → W p l e (headSpec w_CL_close rm_CL_close).room s m args below meth c H locs 0 0 (xMQ below (Rx D classes (fun u => Wc ty h u px) A v) args s 1 6 A) (F0 m 58 ls []) := by
    intro H locs ls x1 σ hv hk hl hP hD hS
    unfold f_CL_close_58 at hv
    unfold k_CL_close_58 at hk
    refine lv_aload_n hx hb d_CL_close_58 rfl (lv_at hl 0 rfl) ?_
    refine lv_aload_n hx hb d_CL_close_59 rfl (lv_at hl 0 rfl) ?_
    refine va_get (v := .ref (h 27)) (C := R_CL) (T := T_CL) (N := 11) hx hb hg in_CL hown hK hP 0 rfl rfl 8 (by decide) (hg _ m_292) (fun _ h9 => h9) rfl d_CL_close_60 ?_
    refine lv_iload_n hx hb d_CL_close_63 rfl (lv_at hl 1 rfl) ?_
    obtain ⟨hk0, hk⟩ := hk
    refine zz_callV (va_runV (As := [.int x1]) (rest := [.ref (h 0)]) ⟨hx, hb, hml, hown, hg⟩ (c_Sc_around l D ty h px sa σ x1 hk0) ⟨callB_of 1 hg (gw_C m_1248) rfl rfl rfl (hg _ m_11) (hg _ m_1245) hd_Sc_around ⟨Nat.le_of_ble_eq_true rfl, Nat.le_of_ble_eq_true rfl⟩, hg _ m_1246, hg _ m_1247⟩ (zz_preV (hM.at hS) hN hK hP 27 rfl rfl) rfl rfl hl.1 rfl (lv_room (Nat.le_of_ble_eq_true rfl)) d_CL_close_64 ⟨Nat.le_of_ble_eq_true rfl, Nat.le_of_ble_eq_true rfl⟩) ?_
    refine lv_iconst (v := 0) hx hb d_CL_close_67 (by decide) ?_
    obtain ⟨hk0, hk⟩ := hk
    refine x_callV (As := [.int (f_Sc_around x1 σ), .int 0]) (rest := []) ⟨hx, hb, hml, hown, hg⟩ (c_CL_enterRow l hlt D ty h px sa σ H.size (f_Sc_around x1 σ) 0 hk0) ⟨callB_of 2 hg (gw_C m_947) rfl rfl rfl (hg _ m_1) (hg _ m_944) hd_CL_enterRow ⟨Nat.le_of_ble_eq_true rfl, Nat.le_of_ble_eq_true rfl⟩, hg _ m_946, hg _ ms_30⟩ (zz_preX hM hN hX hS hA hK hP hD 0 rfl rfl) rfl hl.1 rfl (Nat.le_of_ble_eq_true rfl) d_CL_close_68 ⟨Nat.le_of_ble_eq_true rfl, Nat.le_of_ble_eq_true rfl⟩ (fun r9 st9 t9 L9 h09 hal9 hR9 hL9 => ?_) (fun q9 st9 t9 L9 h09 h19 hal9 hR9 hL9 => ?_)
    · obtain ⟨hF9, hP9, x, rfl, hz9⟩ := hR9
      have hv := hv.trans (xb_l hz9)
      have hk := hk _ hz9
      have hS := zz_xS hS h09 hF9 (zz_free hD hS hA) hL9
      have hD : va_D A (Wc ty h (f_CL_enterRow (f_Sc_around x1 σ) 0 σ).2 px) := zz_D hD rfl
      exact B71 _ _ _ x (f_CL_enterRow (f_Sc_around x1 σ) 0 σ).2 hv hk (lv_sub hl [0] rfl) hP9 hD hS
    · obtain ⟨hF9, hP9, E9, ce9, hz9, hq9, hn9, hc9⟩ := hR9
      have hv := hv.trans (xb_r hz9)
      have hS := zz_xS hS h09 hF9 (zz_free hD hS hA) hL9
      exact x_out htab hlocks (fun t ht hal => ⟨hS.F ht, by rw [ht, hv]; exact hP9, E9, ce9, by rw [hv], by rw [ht]; exact hq9, hn9, by rw [h19.findClass]; exact hc9⟩) hS.2.2 (Nat.le_of_ble_eq_true rfl) (Nat.le_of_ble_eq_true rfl)
  have B52 : ∀ (H : Heap) (locs : List Loc) (ls : Array Slot) (x1 : Int32) (x2 : Int32) (σ : St), v = f_CL_close_52 x1 x2 σ → k_CL_close_52 x1 x2 σ → lv_has ls 4 [(0, .ref (h 0)), (1, .int x1), (2, .int x2)] → va_P D classes (Wc ty h σ px) H → va_D A (Wc ty h σ px) → va_S A s.heap H locs → W p l e (headSpec w_CL_close rm_CL_close).room s m args below meth c H locs 0 0 (xMQ below (Rx D classes (fun u => Wc ty h u px) A v) args s 1 6 A) (F0 m 52 ls []) := by
    intro H locs ls x1 x2 σ hv hk hl hP hD hS
    unfold f_CL_close_52 at hv
    unfold k_CL_close_52 at hk
    refine lv_aload_n hx hb d_CL_close_52 rfl (lv_at hl 0 rfl) ?_
    refine lv_iload_n hx hb d_CL_close_53 rfl (lv_at hl 2 rfl) ?_
    refine lv_iconst (v := -1) hx hb d_CL_close_54 (by decide) ?_
    obtain ⟨hk0, hk⟩ := hk
    refine va_callv (va_runV (As := [.int x2, .int (-1)]) (rest := []) ⟨hx, hb, hml, hown, hg⟩ (c_CL_joinAllBut l D ty h px sa σ H.size x2 (-1) hk0) ⟨callB_of 2 hg (gw_C m_988) rfl rfl rfl (hg _ m_1) (hg _ m_985) hd_CL_joinAllBut ⟨Nat.le_of_ble_eq_true rfl, Nat.le_of_ble_eq_true rfl⟩, hg _ m_987, hg _ ms_31⟩ (zz_preVW hM hS hA hN hK hP hD 0 rfl rfl) rfl rfl hl.1 rfl (lv_room (Nat.le_of_ble_eq_true rfl)) d_CL_close_55 ⟨Nat.le_of_ble_eq_true rfl, Nat.le_of_ble_eq_true rfl⟩) hS (fun q _ h => zz_free hD hS hA q h) (zz_free hD hS hA) (fun u55 t H locs ht hvm hp hP1 hz hk1 hS => ?_)
    rw [ht] at hP1
    rw [← hp] at hv hk
    have hD : va_D A (Wc ty h u55 px) := zz_D hD rfl
    have hP := hP1
    exact B58 _ _ _ x1 u55 hv hk (lv_sub hl [0, 1] rfl) hP hD hS
  have B47 : ∀ (H : Heap) (locs : List Loc) (ls : Array Slot) (x1 : Int32) (x2 : Int32) (σ : St), v = f_CL_close_47 x1 x2 σ → k_CL_close_47 x1 x2 σ → lv_has ls 4 [(0, .ref (h 0)), (1, .int x1), (2, .int x2)] → va_P D classes (Wc ty h σ px) H → va_D A (Wc ty h σ px) → va_S A s.heap H locs → W p l e (headSpec w_CL_close rm_CL_close).room s m args below meth c H locs 0 0 (xMQ below (Rx D classes (fun u => Wc ty h u px) A v) args s 1 6 A) (F0 m 47 ls []) := by
    intro H locs ls x1 x2 σ hv hk hl hP hD hS
    unfold f_CL_close_47 at hv
    unfold k_CL_close_47 at hk
    refine lv_aload_n hx hb d_CL_close_47 rfl (lv_at hl 0 rfl) ?_
    refine lv_iload_n hx hb d_CL_close_48 rfl (lv_at hl 1 rfl) ?_
    obtain ⟨hk0, hk⟩ := hk
    refine va_callv (va_runV (As := [.int x1]) (rest := []) ⟨hx, hb, hml, hown, hg⟩ (c_CL_joinOppositesAssumedIn l D ty h px sa σ H.size x1 hk0) ⟨callB_of 1 hg (gw_C m_1240) rfl rfl rfl (hg _ m_1) (hg _ m_1237) hd_CL_joinOppositesAssumedIn ⟨Nat.le_of_ble_eq_true rfl, Nat.le_of_ble_eq_true rfl⟩, hg _ m_1239, hg _ ms_48⟩ (zz_preVW hM hS hA hN hK hP hD 0 rfl rfl) rfl rfl hl.1 rfl (lv_room (Nat.le_of_ble_eq_true rfl)) d_CL_close_49 ⟨Nat.le_of_ble_eq_true rfl, Nat.le_of_ble_eq_true rfl⟩) hS (fun q _ h => zz_free hD hS hA q h) (zz_free hD hS hA) (fun u49 t H locs ht hvm hp hP1 hz hk1 hS => ?_)
    rw [ht] at hP1
    rw [← hp] at hv hk
    have hD : va_D A (Wc ty h u49 px) := zz_D hD rfl
    have hP := hP1
    exact B52 _ _ _ x1 x2 u49 hv hk (lv_sub hl [0, 1, 2] rfl) hP hD hS
  have B26 : ∀ (H : Heap) (locs : List Loc) (ls : Array Slot) (x1 : Int32) (x2 : Int32) (σ : St), v = f_CL_close_26 x1 x2 σ → k_CL_close_26 x1 x2 σ → lv_has ls 4 [(0, .ref (h 0)), (1, .int x1), (2, .int x2)] → va_P D classes (Wc ty h σ px) H → va_D A (Wc ty h σ px) → va_S A s.heap H locs → W p l e (headSpec w_CL_close rm_CL_close).room s m args below meth c H locs 0 0 (xMQ below (Rx D classes (fun u => Wc ty h u px) A v) args s 1 6 A) (F0 m 26 ls []) := by
    intro H locs ls x1 x2 σ hv hk hl hP hD hS
    unfold f_CL_close_26 at hv
    unfold k_CL_close_26 at hk
    refine lv_iload_n hx hb d_CL_close_26 rfl (lv_at hl 1 rfl) ?_
    refine lv_if_eq (tgt := 35) hx hb d_CL_close_27 (by decide) (fun hc => ?_) (fun hc => ?_)
    · have hv := hv.trans (if_pos hc)
      have hk := hk.1 hc
      exact B35 _ _ _  σ hv hk (lv_sub hl [0] rfl) hP hD hS
    · have hv := hv.trans (if_neg hc)
      have hk := hk.2 hc
      refine lv_iload_n hx hb d_CL_close_30 rfl (lv_at hl 2 rfl) ?_
      refine lv_iconst (v := -1) hx hb d_CL_close_31 (by decide) ?_
      refine lv_icmp_ne (tgt := 40) hx hb d_CL_close_32 (by decide) (fun hc => ?_) (fun hc => ?_)
      · have hv := hv.trans (if_neg hc)
        have hk := hk.2 hc
        refine lv_aload_n hx hb d_CL_close_40 rfl (lv_at hl 0 rfl) ?_
        refine va_get (v := .ref (h 25)) (C := R_CL) (T := T_CL) (N := 11) hx hb hg in_CL hown hK hP 0 rfl rfl 7 (by decide) (hg _ m_291) (fun _ h9 => h9) rfl d_CL_close_41 ?_
        obtain ⟨hk0, hk⟩ := hk
        refine va_callv (va_runV (As := []) (rest := []) ⟨hx, hb, hml, hown, hg⟩ (c_Ro_wipe l D ty h px sa σ H.size  hk0) ⟨callB_of 0 hg (gw_C m_935) rfl rfl rfl (hg _ m_10) (hg _ m_932) hd_Ro_wipe ⟨Nat.le_of_ble_eq_true rfl, Nat.le_of_ble_eq_true rfl⟩, hg _ m_933, hg _ m_934⟩ (zz_preVW hM hS hA hN hK hP hD 25 rfl rfl) rfl rfl hl.1 rfl (lv_room (Nat.le_of_ble_eq_true rfl)) d_CL_close_44 ⟨Nat.le_of_ble_eq_true rfl, Nat.le_of_ble_eq_true rfl⟩) hS (fun q _ h => zz_free hD hS hA q h) (zz_free hD hS hA) (fun u44 t H locs ht hvm hp hP1 hz hk1 hS => ?_)
        rw [ht] at hP1
        rw [← hp] at hv hk
        have hD : va_D A (Wc ty h u44 px) := zz_D hD rfl
        have hP := hP1
        exact B47 _ _ _ x1 x2 u44 hv hk (lv_sub hl [0, 1, 2] rfl) hP hD hS
      · have hv := hv.trans (if_pos hc)
        have hk := hk.1 hc
        exact B35 _ _ _  σ hv hk (lv_sub hl [0] rfl) hP hD hS
  have B17 : ∀ (H : Heap) (locs : List Loc) (ls : Array Slot) (x1 : Int32) (σ : St), v = f_CL_close_17 x1 σ → k_CL_close_17 x1 σ → lv_has ls 4 [(0, .ref (h 0)), (1, .int x1)] → va_P D classes (Wc ty h σ px) H → va_D A (Wc ty h σ px) → va_S A s.heap H locs → W p l e (headSpec w_CL_close rm_CL_close).room s m args below meth c H locs 0 0 (xMQ below (Rx D classes (fun u => Wc ty h u px) A v) args s 1 6 A) (F0 m 17 ls []) := by
    intro H locs ls x1 σ hv hk hl hP hD hS
    unfold f_CL_close_17 at hv
    unfold k_CL_close_17 at hk
    refine lv_aload_n hx hb d_CL_close_17 rfl (lv_at hl 0 rfl) ?_
    refine va_get (v := .ref (h 31)) (C := R_CL) (T := T_CL) (N := 11) hx hb hg in_CL hown hK hP 0 rfl rfl 9 (by decide) (hg _ m_293) (fun _ h9 => h9) rfl d_CL_close_18 ?_
    refine lv_iload_n hx hb d_CL_close_21 rfl (lv_at hl 1 rfl) ?_
    obtain ⟨hk0, hk⟩ := hk
    refine zz_callV (va_runV (As := [.int x1]) (rest := []) ⟨hx, hb, hml, hown, hg⟩ (c_St_latestIn l D ty h px sa σ x1 hk0) ⟨callB_of 1 hg (gw_C m_1236) rfl rfl rfl (hg _ m_12) (hg _ m_1233) hd_St_latestIn ⟨Nat.le_of_ble_eq_true rfl, Nat.le_of_ble_eq_true rfl⟩, hg _ m_1234, hg _ m_1235⟩ (zz_preV (hM.at hS) hN hK hP 31 rfl rfl) rfl rfl hl.1 rfl (lv_room (Nat.le_of_ble_eq_true rfl)) d_CL_close_22 ⟨Nat.le_of_ble_eq_true rfl, Nat.le_of_ble_eq_true rfl⟩) ?_
    refine lv_istore_n (lv' := [(2, .int (f_St_latestIn x1 σ)), (0, .ref (h 0)), (1, .int x1)]) hx hb d_CL_close_25 rfl hl (by decide) rfl (fun ls hl => ?_)
    exact B26 _ _ _ x1 (f_St_latestIn x1 σ) σ hv hk (lv_sub hl [1, 2, 0] rfl) hP hD hS
  unfold f_CL_close at hv
  unfold k_CL_close at hk
  refine lv_aload_n hx hb d_CL_close_0 rfl (lv_at hl 0 rfl) ?_
  obtain ⟨hk0, hk⟩ := hk
  refine zz_callV (va_runV (As := []) (rest := []) ⟨hx, hb, hml, hown, hg⟩ (c_CL_isShut l D ty h px sa σ  hk0) ⟨callB_of 0 hg (gw_C m_571) rfl rfl rfl (hg _ m_1) (hg _ m_568) hd_CL_isShut ⟨Nat.le_of_ble_eq_true rfl, Nat.le_of_ble_eq_true rfl⟩, hg _ m_570, hg _ ms_8⟩ (zz_preV (hM.at hS) hN hK hP 0 rfl rfl) rfl rfl hl.1 rfl (lv_room (Nat.le_of_ble_eq_true rfl)) d_CL_close_1 ⟨Nat.le_of_ble_eq_true rfl, Nat.le_of_ble_eq_true rfl⟩) ?_
  refine lv_if_eq (tgt := 9) hx hb d_CL_close_4 (by decide) (fun hc => ?_) (fun hc => ?_)
  · have hv := hv.trans (if_pos hc)
    have hk := hk.1 hc
    refine lv_aload_n hx hb d_CL_close_9 rfl (lv_at hl 0 rfl) ?_
    refine va_get (v := .ref (h 27)) (C := R_CL) (T := T_CL) (N := 11) hx hb hg in_CL hown hK hP 0 rfl rfl 8 (by decide) (hg _ m_292) (fun _ h9 => h9) rfl d_CL_close_10 ?_
    obtain ⟨hk0, hk⟩ := hk
    refine zz_callV (va_runV (As := []) (rest := []) ⟨hx, hb, hml, hown, hg⟩ (c_Sc_innermost l D ty h px sa σ  hk0) ⟨callB_of 0 hg (gw_C m_943) rfl rfl rfl (hg _ m_11) (hg _ m_940) hd_Sc_innermost ⟨Nat.le_of_ble_eq_true rfl, Nat.le_of_ble_eq_true rfl⟩, hg _ m_941, hg _ m_942⟩ (zz_preV (hM.at hS) hN hK hP 27 rfl rfl) rfl rfl hl.1 rfl (lv_room (Nat.le_of_ble_eq_true rfl)) d_CL_close_13 ⟨Nat.le_of_ble_eq_true rfl, Nat.le_of_ble_eq_true rfl⟩) ?_
    refine lv_istore_n (lv' := [(1, .int (f_Sc_innermost σ)), (0, .ref (h 0))]) hx hb d_CL_close_16 rfl hl (by decide) rfl (fun ls hl => ?_)
    exact B17 _ _ _ (f_Sc_innermost σ) σ hv hk (lv_sub hl [1, 0] rfl) hP hD hS
  · have hv := hv.trans (if_neg hc)
    have hk := hk.2 hc
    refine lv_iconst (v := -1) hx hb d_CL_close_7 (by decide) ?_
    exact x_ret (fun o t hq => by obtain ⟨rfl, ht⟩ := hq; exact ⟨hS.F ht, by rw [ht, hv]; exact hP, _, rfl, by rw [hv]⟩) (Nat.le_of_ble_eq_true rfl) (Nat.le_of_ble_eq_true rfl) (W.iret (Qc := fun _ _ o t => o = .returned (some (.int (-1))) ∧ t.heap = s.heap) hx hb hr (fun t ht hW => ⟨rfl, ht⟩) hS.2.2 d_CL_close_8)

-- ClauseLedger.clause(II)I
abbrev b_CL_clause : ByteArray := prog_1_method_19_code
def y_CL_clause : MethodName := ⟨"ClauseLedger", "clause", "(II)I"⟩
theorem hd_CL_clause : y_CL_clause.cls ≠ "java/lang/invoke/MethodHandle" ∧ y_CL_clause.cls ≠ "java/lang/invoke/VarHandle" ∧ (parseMethodDescriptor y_CL_clause.desc).map (fun d => d.parameters.length) = some 2 := by decide +kernel
theorem d_CL_clause_0 : decode b_CL_clause 0 = .ok (.iload_n 2, 1) := by decide +kernel
theorem d_CL_clause_1 : decode b_CL_clause 1 = .ok (.iconst (-1), 1) := by decide +kernel
theorem d_CL_clause_2 : decode b_CL_clause 2 = .ok (.if_icmp .ne 14, 3) := by decide +kernel
theorem d_CL_clause_5 : decode b_CL_clause 5 = .ok (.aload_n 0, 1) := by decide +kernel
theorem d_CL_clause_6 : decode b_CL_clause 6 = .ok (.getfield 79, 3) := by decide +kernel
theorem d_CL_clause_9 : decode b_CL_clause 9 = .ok (.iload_n 1, 1) := by decide +kernel
theorem d_CL_clause_10 : decode b_CL_clause 10 = .ok (.invokevirtual 242, 3) := by decide +kernel
theorem d_CL_clause_13 : decode b_CL_clause 13 = .ok (.goto 12, 3) := by decide +kernel
theorem d_CL_clause_16 : decode b_CL_clause 16 = .ok (.aload_n 0, 1) := by decide +kernel
theorem d_CL_clause_17 : decode b_CL_clause 17 = .ok (.getfield 79, 3) := by decide +kernel
theorem d_CL_clause_20 : decode b_CL_clause 20 = .ok (.iload_n 1, 1) := by decide +kernel
theorem d_CL_clause_21 : decode b_CL_clause 21 = .ok (.iload_n 2, 1) := by decide +kernel
theorem d_CL_clause_22 : decode b_CL_clause 22 = .ok (.invokevirtual 245, 3) := by decide +kernel
theorem d_CL_clause_25 : decode b_CL_clause 25 = .ok (.ireturn, 1) := by decide +kernel
def f_CL_clause_25 (s0 : Int32) (σ : St) : Int32 := s0
def k_CL_clause_25 (s0 : Int32) (σ : St) : Prop := True
def f_CL_clause (a1 : Int32) (a2 : Int32) (σ : St) : Int32 := if a2 = (-1) then (f_CL_clause_25 (f_St_sizeOf a1 σ) σ) else (f_CL_clause_25 (f_St_truthOf a1 a2 σ) σ)
def k_CL_clause (a1 : Int32) (a2 : Int32) (σ : St) : Prop := (a2 = (-1) → ((k_St_sizeOf a1 σ) ∧ (k_CL_clause_25 (f_St_sizeOf a1 σ) σ))) ∧ (¬ a2 = (-1) → ((k_St_truthOf a1 a2 σ) ∧ (k_CL_clause_25 (f_St_truthOf a1 a2 σ) σ)))
abbrev w_CL_clause : List Cond := Cond.code y_CL_clause b_CL_clause 3 (some .int) :: gw
abbrev rm_CL_clause : Room := { frames := 3, cells := 0, slots := 0, locals := 64 }
set_option maxHeartbeats 4000000 in
set_option maxRecDepth 100000 in
theorem c_CL_clause (l : Launch) (D : va_G) (ty : Nat → ClassId) (h : Nat → Nat) (px : va_W) (sa : Nat → Nat) (σ : St) (a1 : Int32) (a2 : Int32) (hk : k_CL_clause a1 a2 σ) : Met l y_CL_clause w_CL_clause rm_CL_clause (va_Pc [.ref (h 0), .int a1, .int a2] (fun U => va_P D classes (Wc ty h σ px) U.heap ∧ va_K D classes (Ta ty) U ∧ NW U ∧ MK sa (fun _ => False) U U.heap)) (k2_QcV (.int (f_CL_clause a1 a2 σ))) 0 0 (fun _ => False) := by
  refine Met.ofW (cc := b_CL_clause) (maxL := 3) (ret := (some .int)) (by decide) rfl ?_
  intro p e s m args below meth c s₁ B hml hv
  obtain ⟨ha, hP, hK, hN, hM⟩ := hv
  have hx := B.exec
  have hb := B.bytes
  have hr := B.returns
  have hg : ∀ w ∈ gw, w.before args s = true := fun w h9 => atoms_spec (ws := w_CL_clause) B.pre w (List.mem_cons_of_mem _ h9)
  have hown : s.vm.findClass "ClauseLedger" = some m.cls := findClass_of_methodNamed B.named
  have hlocks := B.notSynchronized
  have he : entryFrame m args 3 = entryFrame m ([.ref (h 0), .int a1, .int a2] : List Value).toArray 3 := by rw [ha]
  rw [he, lg_entry_eq]
  have hl := lv_entry ([.ref (h 0), .int a1, .int a2]) (n := 3) (Nat.le_of_ble_eq_true rfl)
  generalize (lg_sl ([.ref (h 0), .int a1, .int a2]) ++ List.replicate (3 - (lg_sl ([.ref (h 0), .int a1, .int a2])).length) Slot.unset).toArray = ls at hl ⊢
  have hl : lv_has ls 3 [(0, .ref (h 0)), (1, .int a1), (2, .int a2)] := hl
  generalize hv : f_CL_clause a1 a2 σ = v
  replace hv := hv.symm
  have B25 : ∀ (ls : Array Slot) (s0 : Int32), v = f_CL_clause_25 s0 σ → k_CL_clause_25 s0 σ → lv_has ls 3 [] → W p l e (headSpec w_CL_clause rm_CL_clause).room s m args below meth c s.heap [] 0 0 (MQ below (k2_QcV (.int v)) args s 0 0 (fun _ => False)) (F0 m 25 ls [.int s0]) := by
    intro ls s0 hv hk hl
    unfold f_CL_clause_25 at hv
    unfold k_CL_clause_25 at hk
    exact W.iret hx hb hr (fun t ht hW => ⟨by rw [hv], ht⟩) (fun q h => nomatch h) d_CL_clause_25
  unfold f_CL_clause at hv
  unfold k_CL_clause at hk
  refine lv_iload_n hx hb d_CL_clause_0 rfl (lv_at hl 2 rfl) ?_
  refine lv_iconst (v := -1) hx hb d_CL_clause_1 (by decide) ?_
  refine lv_icmp_ne (tgt := 16) hx hb d_CL_clause_2 (by decide) (fun hc => ?_) (fun hc => ?_)
  · have hv := hv.trans (if_neg hc)
    have hk := hk.2 hc
    refine lv_aload_n hx hb d_CL_clause_16 rfl (lv_at hl 0 rfl) ?_
    refine va_get (v := .ref (h 31)) (C := R_CL) (T := T_CL) (N := 11) hx hb hg in_CL hown hK hP 0 rfl rfl 9 (by decide) (hg _ m_293) (fun _ h9 => h9) rfl d_CL_clause_17 ?_
    refine lv_iload_n hx hb d_CL_clause_20 rfl (lv_at hl 1 rfl) ?_
    refine lv_iload_n hx hb d_CL_clause_21 rfl (lv_at hl 2 rfl) ?_
    obtain ⟨hk0, hk⟩ := hk
    refine zz_callV (va_runV (As := [.int a1, .int a2]) (rest := []) ⟨hx, hb, hml, hown, hg⟩ (c_St_truthOf l D ty h px sa σ a1 a2 hk0) ⟨callB_of 2 hg (gw_C m_384) rfl rfl rfl (hg _ m_12) (hg _ m_381) hd_St_truthOf ⟨Nat.le_of_ble_eq_true rfl, Nat.le_of_ble_eq_true rfl⟩, hg _ m_382, hg _ m_383⟩ (zz_preV hM hN hK hP 31 rfl rfl) rfl rfl hl.1 rfl (lv_room (Nat.le_of_ble_eq_true rfl)) d_CL_clause_22 ⟨Nat.le_of_ble_eq_true rfl, Nat.le_of_ble_eq_true rfl⟩) ?_
    exact B25 _ (f_St_truthOf a1 a2 σ) hv hk (lv_sub hl [] rfl)
  · have hv := hv.trans (if_pos hc)
    have hk := hk.1 hc
    refine lv_aload_n hx hb d_CL_clause_5 rfl (lv_at hl 0 rfl) ?_
    refine va_get (v := .ref (h 31)) (C := R_CL) (T := T_CL) (N := 11) hx hb hg in_CL hown hK hP 0 rfl rfl 9 (by decide) (hg _ m_293) (fun _ h9 => h9) rfl d_CL_clause_6 ?_
    refine lv_iload_n hx hb d_CL_clause_9 rfl (lv_at hl 1 rfl) ?_
    obtain ⟨hk0, hk⟩ := hk
    refine zz_callV (va_runV (As := [.int a1]) (rest := []) ⟨hx, hb, hml, hown, hg⟩ (c_St_sizeOf l D ty h px sa σ a1 hk0) ⟨callB_of 1 hg (gw_C m_376) rfl rfl rfl (hg _ m_12) (hg _ m_373) hd_St_sizeOf ⟨Nat.le_of_ble_eq_true rfl, Nat.le_of_ble_eq_true rfl⟩, hg _ m_374, hg _ m_375⟩ (zz_preV hM hN hK hP 31 rfl rfl) rfl rfl hl.1 rfl (lv_room (Nat.le_of_ble_eq_true rfl)) d_CL_clause_10 ⟨Nat.le_of_ble_eq_true rfl, Nat.le_of_ble_eq_true rfl⟩) ?_
    refine lv_goto (tgt := 25) hx hb d_CL_clause_13 (by decide) ?_
    exact B25 _ (f_St_sizeOf a1 σ) hv hk (lv_sub hl [] rfl)

-- ClauseLedger.scope(I)I
abbrev b_CL_scope : ByteArray := prog_1_method_20_code
def y_CL_scope : MethodName := ⟨"ClauseLedger", "scope", "(I)I"⟩
theorem hd_CL_scope : y_CL_scope.cls ≠ "java/lang/invoke/MethodHandle" ∧ y_CL_scope.cls ≠ "java/lang/invoke/VarHandle" ∧ (parseMethodDescriptor y_CL_scope.desc).map (fun d => d.parameters.length) = some 1 := by decide +kernel
theorem d_CL_scope_0 : decode b_CL_scope 0 = .ok (.aload_n 0, 1) := by decide +kernel
theorem d_CL_scope_1 : decode b_CL_scope 1 = .ok (.getfield 79, 3) := by decide +kernel
theorem d_CL_scope_4 : decode b_CL_scope 4 = .ok (.iload_n 1, 1) := by decide +kernel
theorem d_CL_scope_5 : decode b_CL_scope 5 = .ok (.invokevirtual 248, 3) := by decide +kernel
theorem d_CL_scope_8 : decode b_CL_scope 8 = .ok (.ifCond .ne 5, 3) := by decide +kernel
theorem d_CL_scope_11 : decode b_CL_scope 11 = .ok (.iconst (-1), 1) := by decide +kernel
theorem d_CL_scope_12 : decode b_CL_scope 12 = .ok (.ireturn, 1) := by decide +kernel
theorem d_CL_scope_13 : decode b_CL_scope 13 = .ok (.aload_n 0, 1) := by decide +kernel
theorem d_CL_scope_14 : decode b_CL_scope 14 = .ok (.getfield 72, 3) := by decide +kernel
theorem d_CL_scope_17 : decode b_CL_scope 17 = .ok (.aload_n 0, 1) := by decide +kernel
theorem d_CL_scope_18 : decode b_CL_scope 18 = .ok (.getfield 79, 3) := by decide +kernel
theorem d_CL_scope_21 : decode b_CL_scope 21 = .ok (.iload_n 1, 1) := by decide +kernel
theorem d_CL_scope_22 : decode b_CL_scope 22 = .ok (.invokevirtual 249, 3) := by decide +kernel
theorem d_CL_scope_25 : decode b_CL_scope 25 = .ok (.invokevirtual 252, 3) := by decide +kernel
theorem d_CL_scope_28 : decode b_CL_scope 28 = .ok (.aload_n 0, 1) := by decide +kernel
theorem d_CL_scope_29 : decode b_CL_scope 29 = .ok (.iload_n 1, 1) := by decide +kernel
theorem d_CL_scope_30 : decode b_CL_scope 30 = .ok (.invokevirtual 152, 3) := by decide +kernel
theorem d_CL_scope_33 : decode b_CL_scope 33 = .ok (.ifCond .eq 7, 3) := by decide +kernel
theorem d_CL_scope_36 : decode b_CL_scope 36 = .ok (.iconst 0, 1) := by decide +kernel
theorem d_CL_scope_37 : decode b_CL_scope 37 = .ok (.goto 5, 3) := by decide +kernel
theorem d_CL_scope_40 : decode b_CL_scope 40 = .ok (.bipush 100, 2) := by decide +kernel
theorem d_CL_scope_42 : decode b_CL_scope 42 = .ok (.iadd, 1) := by decide +kernel
theorem d_CL_scope_43 : decode b_CL_scope 43 = .ok (.ireturn, 1) := by decide +kernel
def f_CL_scope_42 (s0 : Int32) (s1 : Int32) (σ : St) : Int32 := s1 + s0
def k_CL_scope_42 (s0 : Int32) (s1 : Int32) (σ : St) : Prop := True
def f_CL_scope (a1 : Int32) (σ : St) : Int32 := if (f_St_has a1 σ) = 0 then (-1) else (if (f_CL_stands a1 σ) = 0 then (f_CL_scope_42 100 (f_Sc_depthOf (f_St_scopeOf a1 σ) σ) σ) else (f_CL_scope_42 0 (f_Sc_depthOf (f_St_scopeOf a1 σ) σ) σ))
def k_CL_scope (a1 : Int32) (σ : St) : Prop := (k_St_has a1 σ) ∧ (((f_St_has a1 σ) = 0 → True) ∧ (¬ (f_St_has a1 σ) = 0 → ((k_St_scopeOf a1 σ) ∧ ((k_Sc_depthOf (f_St_scopeOf a1 σ) σ) ∧ ((k_CL_stands a1 σ) ∧ (((f_CL_stands a1 σ) = 0 → (k_CL_scope_42 100 (f_Sc_depthOf (f_St_scopeOf a1 σ) σ) σ)) ∧ (¬ (f_CL_stands a1 σ) = 0 → (k_CL_scope_42 0 (f_Sc_depthOf (f_St_scopeOf a1 σ) σ) σ))))))))
abbrev w_CL_scope : List Cond := Cond.code y_CL_scope b_CL_scope 2 (some .int) :: gw
abbrev rm_CL_scope : Room := { frames := 3, cells := 0, slots := 0, locals := 63 }
set_option maxHeartbeats 4000000 in
set_option maxRecDepth 100000 in
theorem c_CL_scope (l : Launch) (D : va_G) (ty : Nat → ClassId) (h : Nat → Nat) (px : va_W) (sa : Nat → Nat) (σ : St) (a1 : Int32) (hk : k_CL_scope a1 σ) : Met l y_CL_scope w_CL_scope rm_CL_scope (va_Pc [.ref (h 0), .int a1] (fun U => va_P D classes (Wc ty h σ px) U.heap ∧ va_K D classes (Ta ty) U ∧ NW U ∧ MK sa (fun _ => False) U U.heap)) (k2_QcV (.int (f_CL_scope a1 σ))) 0 0 (fun _ => False) := by
  refine Met.ofW (cc := b_CL_scope) (maxL := 2) (ret := (some .int)) (by decide) rfl ?_
  intro p e s m args below meth c s₁ B hml hv
  obtain ⟨ha, hP, hK, hN, hM⟩ := hv
  have hx := B.exec
  have hb := B.bytes
  have hr := B.returns
  have hg : ∀ w ∈ gw, w.before args s = true := fun w h9 => atoms_spec (ws := w_CL_scope) B.pre w (List.mem_cons_of_mem _ h9)
  have hown : s.vm.findClass "ClauseLedger" = some m.cls := findClass_of_methodNamed B.named
  have hlocks := B.notSynchronized
  have he : entryFrame m args 2 = entryFrame m ([.ref (h 0), .int a1] : List Value).toArray 2 := by rw [ha]
  rw [he, lg_entry_eq]
  have hl := lv_entry ([.ref (h 0), .int a1]) (n := 2) (Nat.le_of_ble_eq_true rfl)
  generalize (lg_sl ([.ref (h 0), .int a1]) ++ List.replicate (2 - (lg_sl ([.ref (h 0), .int a1])).length) Slot.unset).toArray = ls at hl ⊢
  have hl : lv_has ls 2 [(0, .ref (h 0)), (1, .int a1)] := hl
  generalize hv : f_CL_scope a1 σ = v
  replace hv := hv.symm
  have B42 : ∀ (ls : Array Slot) (s0 : Int32) (s1 : Int32), v = f_CL_scope_42 s0 s1 σ → k_CL_scope_42 s0 s1 σ → lv_has ls 2 [] → W p l e (headSpec w_CL_scope rm_CL_scope).room s m args below meth c s.heap [] 0 0 (MQ below (k2_QcV (.int v)) args s 0 0 (fun _ => False)) (F0 m 42 ls [.int s0, .int s1]) := by
    intro ls s0 s1 hv hk hl
    unfold f_CL_scope_42 at hv
    unfold k_CL_scope_42 at hk
    refine lv_iadd hx hb d_CL_scope_42 ?_
    exact W.iret hx hb hr (fun t ht hW => ⟨by rw [hv], ht⟩) (fun q h => nomatch h) d_CL_scope_43
  unfold f_CL_scope at hv
  unfold k_CL_scope at hk
  refine lv_aload_n hx hb d_CL_scope_0 rfl (lv_at hl 0 rfl) ?_
  refine va_get (v := .ref (h 31)) (C := R_CL) (T := T_CL) (N := 11) hx hb hg in_CL hown hK hP 0 rfl rfl 9 (by decide) (hg _ m_293) (fun _ h9 => h9) rfl d_CL_scope_1 ?_
  refine lv_iload_n hx hb d_CL_scope_4 rfl (lv_at hl 1 rfl) ?_
  obtain ⟨hk0, hk⟩ := hk
  refine zz_callV (va_runV (As := [.int a1]) (rest := []) ⟨hx, hb, hml, hown, hg⟩ (c_St_has l D ty h px sa σ a1 hk0) ⟨callB_of 1 hg (gw_C m_380) rfl rfl rfl (hg _ m_12) (hg _ m_390) hd_St_has ⟨Nat.le_of_ble_eq_true rfl, Nat.le_of_ble_eq_true rfl⟩, hg _ m_378, hg _ m_379⟩ (zz_preV hM hN hK hP 31 rfl rfl) rfl rfl hl.1 rfl (lv_room (Nat.le_of_ble_eq_true rfl)) d_CL_scope_5 ⟨Nat.le_of_ble_eq_true rfl, Nat.le_of_ble_eq_true rfl⟩) ?_
  refine lv_if_ne (tgt := 13) hx hb d_CL_scope_8 (by decide) (fun hc => ?_) (fun hc => ?_)
  · have hv := hv.trans (if_neg hc)
    have hk := hk.2 hc
    refine lv_aload_n hx hb d_CL_scope_13 rfl (lv_at hl 0 rfl) ?_
    refine va_get (v := .ref (h 27)) (C := R_CL) (T := T_CL) (N := 11) hx hb hg in_CL hown hK hP 0 rfl rfl 8 (by decide) (hg _ m_292) (fun _ h9 => h9) rfl d_CL_scope_14 ?_
    refine lv_aload_n hx hb d_CL_scope_17 rfl (lv_at hl 0 rfl) ?_
    refine va_get (v := .ref (h 31)) (C := R_CL) (T := T_CL) (N := 11) hx hb hg in_CL hown hK hP 0 rfl rfl 9 (by decide) (hg _ m_293) (fun _ h9 => h9) rfl d_CL_scope_18 ?_
    refine lv_iload_n hx hb d_CL_scope_21 rfl (lv_at hl 1 rfl) ?_
    obtain ⟨hk0, hk⟩ := hk
    refine zz_callV (va_runV (As := [.int a1]) (rest := [.ref (h 27)]) ⟨hx, hb, hml, hown, hg⟩ (c_St_scopeOf l D ty h px sa σ a1 hk0) ⟨callB_of 1 hg (gw_C m_394) rfl rfl rfl (hg _ m_12) (hg _ m_391) hd_St_scopeOf ⟨Nat.le_of_ble_eq_true rfl, Nat.le_of_ble_eq_true rfl⟩, hg _ m_392, hg _ m_393⟩ (zz_preV hM hN hK hP 31 rfl rfl) rfl rfl hl.1 rfl (lv_room (Nat.le_of_ble_eq_true rfl)) d_CL_scope_22 ⟨Nat.le_of_ble_eq_true rfl, Nat.le_of_ble_eq_true rfl⟩) ?_
    obtain ⟨hk0, hk⟩ := hk
    refine zz_callV (va_runV (As := [.int (f_St_scopeOf a1 σ)]) (rest := []) ⟨hx, hb, hml, hown, hg⟩ (c_Sc_depthOf l D ty h px sa σ (f_St_scopeOf a1 σ) hk0) ⟨callB_of 1 hg (gw_C m_398) rfl rfl rfl (hg _ m_11) (hg _ m_395) hd_Sc_depthOf ⟨Nat.le_of_ble_eq_true rfl, Nat.le_of_ble_eq_true rfl⟩, hg _ m_396, hg _ m_397⟩ (zz_preV hM hN hK hP 27 rfl rfl) rfl rfl hl.1 rfl (lv_room (Nat.le_of_ble_eq_true rfl)) d_CL_scope_25 ⟨Nat.le_of_ble_eq_true rfl, Nat.le_of_ble_eq_true rfl⟩) ?_
    refine lv_aload_n hx hb d_CL_scope_28 rfl (lv_at hl 0 rfl) ?_
    refine lv_iload_n hx hb d_CL_scope_29 rfl (lv_at hl 1 rfl) ?_
    obtain ⟨hk0, hk⟩ := hk
    refine zz_callV (va_runV (As := [.int a1]) (rest := [.int (f_Sc_depthOf (f_St_scopeOf a1 σ) σ)]) ⟨hx, hb, hml, hown, hg⟩ (c_CL_stands l D ty h px sa σ a1 hk0) ⟨callB_of 1 hg (gw_C m_406) rfl rfl rfl (hg _ m_1) (hg _ m_403) hd_CL_stands ⟨Nat.le_of_ble_eq_true rfl, Nat.le_of_ble_eq_true rfl⟩, hg _ m_405, hg _ ms_3⟩ (zz_preV hM hN hK hP 0 rfl rfl) rfl rfl hl.1 rfl (lv_room (Nat.le_of_ble_eq_true rfl)) d_CL_scope_30 ⟨Nat.le_of_ble_eq_true rfl, Nat.le_of_ble_eq_true rfl⟩) ?_
    refine lv_if_eq (tgt := 40) hx hb d_CL_scope_33 (by decide) (fun hc => ?_) (fun hc => ?_)
    · have hv := hv.trans (if_pos hc)
      have hk := hk.1 hc
      refine lv_bipush (v := 100) hx hb d_CL_scope_40 (by decide) ?_
      exact B42 _ 100 (f_Sc_depthOf (f_St_scopeOf a1 σ) σ) hv hk (lv_sub hl [] rfl)
    · have hv := hv.trans (if_neg hc)
      have hk := hk.2 hc
      refine lv_iconst (v := 0) hx hb d_CL_scope_36 (by decide) ?_
      refine lv_goto (tgt := 42) hx hb d_CL_scope_37 (by decide) ?_
      exact B42 _ 0 (f_Sc_depthOf (f_St_scopeOf a1 σ) σ) hv hk (lv_sub hl [] rfl)
  · have hv := hv.trans (if_pos hc)
    have hk := hk.1 hc
    refine lv_iconst (v := -1) hx hb d_CL_scope_11 (by decide) ?_
    exact W.iret hx hb hr (fun t ht hW => ⟨by rw [hv], ht⟩) (fun q h => nomatch h) d_CL_scope_12

-- ClauseLedger.empty()I
abbrev b_CL_empty : ByteArray := prog_1_method_21_code
def y_CL_empty : MethodName := ⟨"ClauseLedger", "empty", "()I"⟩
theorem hd_CL_empty : y_CL_empty.cls ≠ "java/lang/invoke/MethodHandle" ∧ y_CL_empty.cls ≠ "java/lang/invoke/VarHandle" ∧ (parseMethodDescriptor y_CL_empty.desc).map (fun d => d.parameters.length) = some 0 := by decide +kernel
theorem d_CL_empty_0 : decode b_CL_empty 0 = .ok (.iconst 0, 1) := by decide +kernel
theorem d_CL_empty_1 : decode b_CL_empty 1 = .ok (.istore_n 1, 1) := by decide +kernel
theorem d_CL_empty_2 : decode b_CL_empty 2 = .ok (.iload_n 1, 1) := by decide +kernel
theorem d_CL_empty_3 : decode b_CL_empty 3 = .ok (.aload_n 0, 1) := by decide +kernel
theorem d_CL_empty_4 : decode b_CL_empty 4 = .ok (.getfield 79, 3) := by decide +kernel
theorem d_CL_empty_7 : decode b_CL_empty 7 = .ok (.invokevirtual 255, 3) := by decide +kernel
theorem d_CL_empty_10 : decode b_CL_empty 10 = .ok (.if_icmp .ge 33, 3) := by decide +kernel
theorem d_CL_empty_13 : decode b_CL_empty 13 = .ok (.aload_n 0, 1) := by decide +kernel
theorem d_CL_empty_14 : decode b_CL_empty 14 = .ok (.getfield 79, 3) := by decide +kernel
theorem d_CL_empty_17 : decode b_CL_empty 17 = .ok (.iload_n 1, 1) := by decide +kernel
theorem d_CL_empty_18 : decode b_CL_empty 18 = .ok (.invokevirtual 249, 3) := by decide +kernel
theorem d_CL_empty_21 : decode b_CL_empty 21 = .ok (.ifCond .ne 16, 3) := by decide +kernel
theorem d_CL_empty_24 : decode b_CL_empty 24 = .ok (.aload_n 0, 1) := by decide +kernel
theorem d_CL_empty_25 : decode b_CL_empty 25 = .ok (.getfield 79, 3) := by decide +kernel
theorem d_CL_empty_28 : decode b_CL_empty 28 = .ok (.iload_n 1, 1) := by decide +kernel
theorem d_CL_empty_29 : decode b_CL_empty 29 = .ok (.invokevirtual 242, 3) := by decide +kernel
theorem d_CL_empty_32 : decode b_CL_empty 32 = .ok (.ifCond .ne 5, 3) := by decide +kernel
theorem d_CL_empty_35 : decode b_CL_empty 35 = .ok (.iload_n 1, 1) := by decide +kernel
theorem d_CL_empty_36 : decode b_CL_empty 36 = .ok (.ireturn, 1) := by decide +kernel
theorem d_CL_empty_37 : decode b_CL_empty 37 = .ok (.iinc 1 1, 3) := by decide +kernel
theorem d_CL_empty_40 : decode b_CL_empty 40 = .ok (.goto (-38), 3) := by decide +kernel
theorem d_CL_empty_43 : decode b_CL_empty 43 = .ok (.iconst (-1), 1) := by decide +kernel
theorem d_CL_empty_44 : decode b_CL_empty 44 = .ok (.ireturn, 1) := by decide +kernel
def f_CL_empty_37 (F2 : (Int32 → St → Int32)) (x1 : Int32) (σ : St) : Int32 := F2 (x1 + 1) σ
def k_CL_empty_37 (K2 : (Int32 → St → Prop)) (x1 : Int32) (σ : St) : Prop := K2 (x1 + 1) σ
def f_CL_empty_2 : Nat → Int32 → St → Int32
  | 0, _, σ => 0
  | n + 1, x1, σ => if (f_St_count σ) ≤ x1 then (-1) else (if (f_St_scopeOf x1 σ) = 0 then (if (f_St_sizeOf x1 σ) = 0 then x1 else (f_CL_empty_37 (f_CL_empty_2 n) x1 σ)) else (f_CL_empty_37 (f_CL_empty_2 n) x1 σ))
def k_CL_empty_2 : Nat → Int32 → St → Prop
  | 0, _, _ => False
  | n + 1, x1, σ => (k_St_count σ) ∧ (((f_St_count σ) ≤ x1 → True) ∧ (¬ (f_St_count σ) ≤ x1 → ((k_St_scopeOf x1 σ) ∧ (((f_St_scopeOf x1 σ) = 0 → ((k_St_sizeOf x1 σ) ∧ (((f_St_sizeOf x1 σ) = 0 → True) ∧ (¬ (f_St_sizeOf x1 σ) = 0 → (k_CL_empty_37 (k_CL_empty_2 n) x1 σ))))) ∧ (¬ (f_St_scopeOf x1 σ) = 0 → (k_CL_empty_37 (k_CL_empty_2 n) x1 σ))))))
def f_CL_empty (σ : St) : Int32 := f_CL_empty_2 1000 0 σ
def k_CL_empty (σ : St) : Prop := k_CL_empty_2 1000 0 σ
abbrev w_CL_empty : List Cond := Cond.code y_CL_empty b_CL_empty 2 (some .int) :: gw
abbrev rm_CL_empty : Room := { frames := 2, cells := 0, slots := 0, locals := 42 }
set_option maxHeartbeats 4000000 in
set_option maxRecDepth 100000 in
theorem c_CL_empty (l : Launch) (D : va_G) (ty : Nat → ClassId) (h : Nat → Nat) (px : va_W) (sa : Nat → Nat) (σ : St) (hk : k_CL_empty σ) : Met l y_CL_empty w_CL_empty rm_CL_empty (va_Pc [.ref (h 0)] (fun U => va_P D classes (Wc ty h σ px) U.heap ∧ va_K D classes (Ta ty) U ∧ NW U ∧ MK sa (fun _ => False) U U.heap)) (k2_QcV (.int (f_CL_empty σ))) 0 0 (fun _ => False) := by
  refine Met.ofW (cc := b_CL_empty) (maxL := 2) (ret := (some .int)) (by decide) rfl ?_
  intro p e s m args below meth c s₁ B hml hv
  obtain ⟨ha, hP, hK, hN, hM⟩ := hv
  have hx := B.exec
  have hb := B.bytes
  have hr := B.returns
  have hg : ∀ w ∈ gw, w.before args s = true := fun w h9 => atoms_spec (ws := w_CL_empty) B.pre w (List.mem_cons_of_mem _ h9)
  have hown : s.vm.findClass "ClauseLedger" = some m.cls := findClass_of_methodNamed B.named
  have hlocks := B.notSynchronized
  have he : entryFrame m args 2 = entryFrame m ([.ref (h 0)] : List Value).toArray 2 := by rw [ha]
  rw [he, lg_entry_eq]
  have hl := lv_entry ([.ref (h 0)]) (n := 2) (Nat.le_of_ble_eq_true rfl)
  generalize (lg_sl ([.ref (h 0)]) ++ List.replicate (2 - (lg_sl ([.ref (h 0)])).length) Slot.unset).toArray = ls at hl ⊢
  have hl : lv_has ls 2 [(0, .ref (h 0))] := hl
  generalize hv : f_CL_empty σ = v
  replace hv := hv.symm
  have B2 : ∀ (n2 : Nat) (ls : Array Slot) (x1 : Int32), v = f_CL_empty_2 n2 x1 σ → k_CL_empty_2 n2 x1 σ → lv_has ls 2 [(0, .ref (h 0)), (1, .int x1)] → W p l e (headSpec w_CL_empty rm_CL_empty).room s m args below meth c s.heap [] 0 0 (MQ below (k2_QcV (.int v)) args s 0 0 (fun _ => False)) (F0 m 2 ls []) := by
    intro n2
    induction n2 with
    | zero => intro ls x1 hv hk hl; exact hk.elim
    | succ n2 ih2 =>
      have B37 : ∀ (ls : Array Slot) (x1 : Int32), v = f_CL_empty_37 (f_CL_empty_2 n2) x1 σ → k_CL_empty_37 (k_CL_empty_2 n2) x1 σ → lv_has ls 2 [(0, .ref (h 0)), (1, .int x1)] → W p l e (headSpec w_CL_empty rm_CL_empty).room s m args below meth c s.heap [] 0 0 (MQ below (k2_QcV (.int v)) args s 0 0 (fun _ => False)) (F0 m 37 ls []) := by
        intro ls x1 hv hk hl
        unfold f_CL_empty_37 at hv
        unfold k_CL_empty_37 at hk
        refine lv_iinc (k := 1) (v := x1 + 1) (lv' := [(1, .int (x1 + 1)), (0, .ref (h 0))]) hx hb d_CL_empty_37 hl rfl (by first | rfl | simp [lit1, litm1]) (by decide) rfl (fun ls hl => ?_)
        refine lv_goto (tgt := 2) hx hb d_CL_empty_40 (by decide) ?_
        exact ih2 _ (x1 + 1) hv hk (lv_sub hl [1, 0] rfl)
      intro ls x1 hv hk hl
      rw [f_CL_empty_2] at hv
      rw [k_CL_empty_2] at hk
      refine lv_iload_n hx hb d_CL_empty_2 rfl (lv_at hl 1 rfl) ?_
      refine lv_aload_n hx hb d_CL_empty_3 rfl (lv_at hl 0 rfl) ?_
      refine va_get (v := .ref (h 31)) (C := R_CL) (T := T_CL) (N := 11) hx hb hg in_CL hown hK hP 0 rfl rfl 9 (by decide) (hg _ m_293) (fun _ h9 => h9) rfl d_CL_empty_4 ?_
      obtain ⟨hk0, hk⟩ := hk
      refine zz_callV (va_runV (As := []) (rest := [.int x1]) ⟨hx, hb, hml, hown, hg⟩ (c_St_count l D ty h px sa σ  hk0) ⟨callB_of 0 hg (gw_C m_418) rfl rfl rfl (hg _ m_12) (hg _ m_415) hd_St_count ⟨Nat.le_of_ble_eq_true rfl, Nat.le_of_ble_eq_true rfl⟩, hg _ m_416, hg _ m_417⟩ (zz_preV hM hN hK hP 31 rfl rfl) rfl rfl hl.1 rfl (lv_room (Nat.le_of_ble_eq_true rfl)) d_CL_empty_7 ⟨Nat.le_of_ble_eq_true rfl, Nat.le_of_ble_eq_true rfl⟩) ?_
      refine lv_icmp_ge (tgt := 43) hx hb d_CL_empty_10 (by decide) (fun hc => ?_) (fun hc => ?_)
      · have hv := hv.trans (if_pos hc)
        have hk := hk.1 hc
        refine lv_iconst (v := -1) hx hb d_CL_empty_43 (by decide) ?_
        exact W.iret hx hb hr (fun t ht hW => ⟨by rw [hv], ht⟩) (fun q h => nomatch h) d_CL_empty_44
      · have hv := hv.trans (if_neg hc)
        have hk := hk.2 hc
        refine lv_aload_n hx hb d_CL_empty_13 rfl (lv_at hl 0 rfl) ?_
        refine va_get (v := .ref (h 31)) (C := R_CL) (T := T_CL) (N := 11) hx hb hg in_CL hown hK hP 0 rfl rfl 9 (by decide) (hg _ m_293) (fun _ h9 => h9) rfl d_CL_empty_14 ?_
        refine lv_iload_n hx hb d_CL_empty_17 rfl (lv_at hl 1 rfl) ?_
        obtain ⟨hk0, hk⟩ := hk
        refine zz_callV (va_runV (As := [.int x1]) (rest := []) ⟨hx, hb, hml, hown, hg⟩ (c_St_scopeOf l D ty h px sa σ x1 hk0) ⟨callB_of 1 hg (gw_C m_394) rfl rfl rfl (hg _ m_12) (hg _ m_391) hd_St_scopeOf ⟨Nat.le_of_ble_eq_true rfl, Nat.le_of_ble_eq_true rfl⟩, hg _ m_392, hg _ m_393⟩ (zz_preV hM hN hK hP 31 rfl rfl) rfl rfl hl.1 rfl (lv_room (Nat.le_of_ble_eq_true rfl)) d_CL_empty_18 ⟨Nat.le_of_ble_eq_true rfl, Nat.le_of_ble_eq_true rfl⟩) ?_
        refine lv_if_ne (tgt := 37) hx hb d_CL_empty_21 (by decide) (fun hc => ?_) (fun hc => ?_)
        · have hv := hv.trans (if_neg hc)
          have hk := hk.2 hc
          exact B37 _ x1 hv hk (lv_sub hl [0, 1] rfl)
        · have hv := hv.trans (if_pos hc)
          have hk := hk.1 hc
          refine lv_aload_n hx hb d_CL_empty_24 rfl (lv_at hl 0 rfl) ?_
          refine va_get (v := .ref (h 31)) (C := R_CL) (T := T_CL) (N := 11) hx hb hg in_CL hown hK hP 0 rfl rfl 9 (by decide) (hg _ m_293) (fun _ h9 => h9) rfl d_CL_empty_25 ?_
          refine lv_iload_n hx hb d_CL_empty_28 rfl (lv_at hl 1 rfl) ?_
          obtain ⟨hk0, hk⟩ := hk
          refine zz_callV (va_runV (As := [.int x1]) (rest := []) ⟨hx, hb, hml, hown, hg⟩ (c_St_sizeOf l D ty h px sa σ x1 hk0) ⟨callB_of 1 hg (gw_C m_376) rfl rfl rfl (hg _ m_12) (hg _ m_373) hd_St_sizeOf ⟨Nat.le_of_ble_eq_true rfl, Nat.le_of_ble_eq_true rfl⟩, hg _ m_374, hg _ m_375⟩ (zz_preV hM hN hK hP 31 rfl rfl) rfl rfl hl.1 rfl (lv_room (Nat.le_of_ble_eq_true rfl)) d_CL_empty_29 ⟨Nat.le_of_ble_eq_true rfl, Nat.le_of_ble_eq_true rfl⟩) ?_
          refine lv_if_ne (tgt := 37) hx hb d_CL_empty_32 (by decide) (fun hc => ?_) (fun hc => ?_)
          · have hv := hv.trans (if_neg hc)
            have hk := hk.2 hc
            exact B37 _ x1 hv hk (lv_sub hl [0, 1] rfl)
          · have hv := hv.trans (if_pos hc)
            have hk := hk.1 hc
            refine lv_iload_n hx hb d_CL_empty_35 rfl (lv_at hl 1 rfl) ?_
            exact W.iret hx hb hr (fun t ht hW => ⟨by rw [hv], ht⟩) (fun q h => nomatch h) d_CL_empty_36
  unfold f_CL_empty at hv
  unfold k_CL_empty at hk
  refine lv_iconst (v := 0) hx hb d_CL_empty_0 (by decide) ?_
  refine lv_istore_n (lv' := [(1, .int 0), (0, .ref (h 0))]) hx hb d_CL_empty_1 rfl hl (by decide) rfl (fun ls hl => ?_)
  exact B2 1000 _ 0 hv hk (lv_sub hl [1, 0] rfl)

-- ClauseLedger.lookAtLedger(I)I
abbrev b_CL_lookAtLedger : ByteArray := prog_1_method_24_code
def y_CL_lookAtLedger : MethodName := ⟨"ClauseLedger", "lookAtLedger", "(I)I"⟩
theorem hd_CL_lookAtLedger : y_CL_lookAtLedger.cls ≠ "java/lang/invoke/MethodHandle" ∧ y_CL_lookAtLedger.cls ≠ "java/lang/invoke/VarHandle" ∧ (parseMethodDescriptor y_CL_lookAtLedger.desc).map (fun d => d.parameters.length) = some 1 := by decide +kernel
theorem d_CL_lookAtLedger_0 : decode b_CL_lookAtLedger 0 = .ok (.iload_n 1, 1) := by decide +kernel
theorem d_CL_lookAtLedger_1 : decode b_CL_lookAtLedger 1 = .ok (.tableswitch 48 0 2 #[27, 35, 43], 27) := by decide +kernel
theorem d_CL_lookAtLedger_28 : decode b_CL_lookAtLedger 28 = .ok (.aload_n 0, 1) := by decide +kernel
theorem d_CL_lookAtLedger_29 : decode b_CL_lookAtLedger 29 = .ok (.getfield 19, 3) := by decide +kernel
theorem d_CL_lookAtLedger_32 : decode b_CL_lookAtLedger 32 = .ok (.invokevirtual 91, 3) := by decide +kernel
theorem d_CL_lookAtLedger_35 : decode b_CL_lookAtLedger 35 = .ok (.ireturn, 1) := by decide +kernel
theorem d_CL_lookAtLedger_36 : decode b_CL_lookAtLedger 36 = .ok (.aload_n 0, 1) := by decide +kernel
theorem d_CL_lookAtLedger_37 : decode b_CL_lookAtLedger 37 = .ok (.getfield 79, 3) := by decide +kernel
theorem d_CL_lookAtLedger_40 : decode b_CL_lookAtLedger 40 = .ok (.invokevirtual 255, 3) := by decide +kernel
theorem d_CL_lookAtLedger_43 : decode b_CL_lookAtLedger 43 = .ok (.ireturn, 1) := by decide +kernel
theorem d_CL_lookAtLedger_44 : decode b_CL_lookAtLedger 44 = .ok (.aload_n 0, 1) := by decide +kernel
theorem d_CL_lookAtLedger_45 : decode b_CL_lookAtLedger 45 = .ok (.getfield 267, 3) := by decide +kernel
theorem d_CL_lookAtLedger_48 : decode b_CL_lookAtLedger 48 = .ok (.ireturn, 1) := by decide +kernel
theorem d_CL_lookAtLedger_49 : decode b_CL_lookAtLedger 49 = .ok (.bipush (-2), 2) := by decide +kernel
theorem d_CL_lookAtLedger_51 : decode b_CL_lookAtLedger 51 = .ok (.ireturn, 1) := by decide +kernel
def f_CL_lookAtLedger (a1 : Int32) (σ : St) : Int32 := if a1 = 0 then (f_Te_count σ) else (if a1 = 1 then (f_St_count σ) else (if a1 = 2 then (σ.1 0 10) else (-2)))
def k_CL_lookAtLedger (a1 : Int32) (σ : St) : Prop := (a1 = 0 → ((k_Te_count σ) ∧ True)) ∧ (¬ a1 = 0 → ((a1 = 1 → ((k_St_count σ) ∧ True)) ∧ (¬ a1 = 1 → ((a1 = 2 → True) ∧ (¬ a1 = 2 → True)))))
abbrev w_CL_lookAtLedger : List Cond := Cond.code y_CL_lookAtLedger b_CL_lookAtLedger 2 (some .int) :: gw
abbrev rm_CL_lookAtLedger : Room := { frames := 1, cells := 0, slots := 0, locals := 20 }
set_option maxHeartbeats 4000000 in
set_option maxRecDepth 100000 in
theorem c_CL_lookAtLedger (l : Launch) (D : va_G) (ty : Nat → ClassId) (h : Nat → Nat) (px : va_W) (sa : Nat → Nat) (σ : St) (a1 : Int32) (hk : k_CL_lookAtLedger a1 σ) : Met l y_CL_lookAtLedger w_CL_lookAtLedger rm_CL_lookAtLedger (va_Pc [.ref (h 0), .int a1] (fun U => va_P D classes (Wc ty h σ px) U.heap ∧ va_K D classes (Ta ty) U ∧ NW U ∧ MK sa (fun _ => False) U U.heap)) (k2_QcV (.int (f_CL_lookAtLedger a1 σ))) 0 0 (fun _ => False) := by
  refine Met.ofW (cc := b_CL_lookAtLedger) (maxL := 2) (ret := (some .int)) (by decide) rfl ?_
  intro p e s m args below meth c s₁ B hml hv
  obtain ⟨ha, hP, hK, hN, hM⟩ := hv
  have hx := B.exec
  have hb := B.bytes
  have hr := B.returns
  have hg : ∀ w ∈ gw, w.before args s = true := fun w h9 => atoms_spec (ws := w_CL_lookAtLedger) B.pre w (List.mem_cons_of_mem _ h9)
  have hown : s.vm.findClass "ClauseLedger" = some m.cls := findClass_of_methodNamed B.named
  have hlocks := B.notSynchronized
  have he : entryFrame m args 2 = entryFrame m ([.ref (h 0), .int a1] : List Value).toArray 2 := by rw [ha]
  rw [he, lg_entry_eq]
  have hl := lv_entry ([.ref (h 0), .int a1]) (n := 2) (Nat.le_of_ble_eq_true rfl)
  generalize (lg_sl ([.ref (h 0), .int a1]) ++ List.replicate (2 - (lg_sl ([.ref (h 0), .int a1])).length) Slot.unset).toArray = ls at hl ⊢
  have hl : lv_has ls 2 [(0, .ref (h 0)), (1, .int a1)] := hl
  generalize hv : f_CL_lookAtLedger a1 σ = v
  replace hv := hv.symm
  unfold f_CL_lookAtLedger at hv
  unfold k_CL_lookAtLedger at hk
  refine lv_iload_n hx hb d_CL_lookAtLedger_0 rfl (lv_at hl 1 rfl) ?_
  by_cases hc0 : a1 = 0
  · have hv := hv.trans (if_pos hc0)
    have hk := hk.1 hc0
    refine lv_tableIn (tgt := 28) hx hb d_CL_lookAtLedger_1 (by rw [hc0]; decide) (by rw [hc0]; decide) (by rw [hc0]; rfl) (by decide) ?_
    refine lv_aload_n hx hb d_CL_lookAtLedger_28 rfl (lv_at hl 0 rfl) ?_
    refine va_get (v := .ref (h 6)) (C := R_CL) (T := T_CL) (N := 11) hx hb hg in_CL hown hK hP 0 rfl rfl 1 (by decide) (hg _ m_285) (fun _ h9 => h9) rfl d_CL_lookAtLedger_29 ?_
    obtain ⟨hk0, hk⟩ := hk
    refine zz_callV (va_runV (As := []) (rest := []) ⟨hx, hb, hml, hown, hg⟩ (c_Te_count l D ty h px sa σ  hk0) ⟨callB_of 0 hg (gw_C m_349) rfl rfl rfl (hg _ m_3) (hg _ m_346) hd_Te_count ⟨Nat.le_of_ble_eq_true rfl, Nat.le_of_ble_eq_true rfl⟩, hg _ m_347, hg _ m_348⟩ (zz_preV hM hN hK hP 6 rfl rfl) rfl rfl hl.1 rfl (lv_room (Nat.le_of_ble_eq_true rfl)) d_CL_lookAtLedger_32 ⟨Nat.le_of_ble_eq_true rfl, Nat.le_of_ble_eq_true rfl⟩) ?_
    exact W.iret hx hb hr (fun t ht hW => ⟨by rw [hv], ht⟩) (fun q h => nomatch h) d_CL_lookAtLedger_35
  · have hv := hv.trans (if_neg hc0)
    have hk := hk.2 hc0
    by_cases hc1 : a1 = 1
    · have hv := hv.trans (if_pos hc1)
      have hk := hk.1 hc1
      refine lv_tableIn (tgt := 36) hx hb d_CL_lookAtLedger_1 (by rw [hc1]; decide) (by rw [hc1]; decide) (by rw [hc1]; rfl) (by decide) ?_
      refine lv_aload_n hx hb d_CL_lookAtLedger_36 rfl (lv_at hl 0 rfl) ?_
      refine va_get (v := .ref (h 31)) (C := R_CL) (T := T_CL) (N := 11) hx hb hg in_CL hown hK hP 0 rfl rfl 9 (by decide) (hg _ m_293) (fun _ h9 => h9) rfl d_CL_lookAtLedger_37 ?_
      obtain ⟨hk0, hk⟩ := hk
      refine zz_callV (va_runV (As := []) (rest := []) ⟨hx, hb, hml, hown, hg⟩ (c_St_count l D ty h px sa σ  hk0) ⟨callB_of 0 hg (gw_C m_418) rfl rfl rfl (hg _ m_12) (hg _ m_415) hd_St_count ⟨Nat.le_of_ble_eq_true rfl, Nat.le_of_ble_eq_true rfl⟩, hg _ m_416, hg _ m_417⟩ (zz_preV hM hN hK hP 31 rfl rfl) rfl rfl hl.1 rfl (lv_room (Nat.le_of_ble_eq_true rfl)) d_CL_lookAtLedger_40 ⟨Nat.le_of_ble_eq_true rfl, Nat.le_of_ble_eq_true rfl⟩) ?_
      exact W.iret hx hb hr (fun t ht hW => ⟨by rw [hv], ht⟩) (fun q h => nomatch h) d_CL_lookAtLedger_43
    · have hv := hv.trans (if_neg hc1)
      have hk := hk.2 hc1
      by_cases hc2 : a1 = 2
      · have hv := hv.trans (if_pos hc2)
        have hk := hk.1 hc2
        refine lv_tableIn (tgt := 44) hx hb d_CL_lookAtLedger_1 (by rw [hc2]; decide) (by rw [hc2]; decide) (by rw [hc2]; rfl) (by decide) ?_
        refine lv_aload_n hx hb d_CL_lookAtLedger_44 rfl (lv_at hl 0 rfl) ?_
        refine va_get (v := .int (σ.1 0 10)) (C := R_CL) (T := T_CL) (N := 11) hx hb hg in_CL hown hK hP 0 rfl rfl 10 (by decide) (hg _ m_294) (fun _ h9 => h9) rfl d_CL_lookAtLedger_45 ?_
        exact W.iret hx hb hr (fun t ht hW => ⟨by rw [hv], ht⟩) (fun q h => nomatch h) d_CL_lookAtLedger_48
      · have hv := hv.trans (if_neg hc2)
        have hk := hk.2 hc2
        refine lv_tableOut (tgt := 49) hx hb d_CL_lookAtLedger_1 (by have := lv_neT hc0 (by decide : (0 : Int32).toInt = 0); have := lv_neT hc1 (by decide : (1 : Int32).toInt = 1); have := lv_neT hc2 (by decide : (2 : Int32).toInt = 2); omega) (by decide) ?_
        refine lv_bipush (v := -2) hx hb d_CL_lookAtLedger_49 (by decide) ?_
        exact W.iret hx hb hr (fun t ht hW => ⟨by rw [hv], ht⟩) (fun q h => nomatch h) d_CL_lookAtLedger_51

-- ClauseLedger.look(II)I
abbrev b_CL_look : ByteArray := prog_1_method_22_code
def y_CL_look : MethodName := ⟨"ClauseLedger", "look", "(II)I"⟩
theorem hd_CL_look : y_CL_look.cls ≠ "java/lang/invoke/MethodHandle" ∧ y_CL_look.cls ≠ "java/lang/invoke/VarHandle" ∧ (parseMethodDescriptor y_CL_look.desc).map (fun d => d.parameters.length) = some 2 := by decide +kernel
theorem d_CL_look_0 : decode b_CL_look 0 = .ok (.iload_n 1, 1) := by decide +kernel
theorem d_CL_look_1 : decode b_CL_look 1 = .ok (.iconst (-1), 1) := by decide +kernel
theorem d_CL_look_2 : decode b_CL_look 2 = .ok (.if_icmp .ne 9, 3) := by decide +kernel
theorem d_CL_look_5 : decode b_CL_look 5 = .ok (.aload_n 0, 1) := by decide +kernel
theorem d_CL_look_6 : decode b_CL_look 6 = .ok (.iload_n 2, 1) := by decide +kernel
theorem d_CL_look_7 : decode b_CL_look 7 = .ok (.invokevirtual 256, 3) := by decide +kernel
theorem d_CL_look_10 : decode b_CL_look 10 = .ok (.ireturn, 1) := by decide +kernel
theorem d_CL_look_11 : decode b_CL_look 11 = .ok (.aload_n 0, 1) := by decide +kernel
theorem d_CL_look_12 : decode b_CL_look 12 = .ok (.getfield 19, 3) := by decide +kernel
theorem d_CL_look_15 : decode b_CL_look 15 = .ok (.iload_n 1, 1) := by decide +kernel
theorem d_CL_look_16 : decode b_CL_look 16 = .ok (.invokevirtual 130, 3) := by decide +kernel
theorem d_CL_look_19 : decode b_CL_look 19 = .ok (.ifCond .ne 6, 3) := by decide +kernel
theorem d_CL_look_22 : decode b_CL_look 22 = .ok (.bipush (-2), 2) := by decide +kernel
theorem d_CL_look_24 : decode b_CL_look 24 = .ok (.ireturn, 1) := by decide +kernel
theorem d_CL_look_25 : decode b_CL_look 25 = .ok (.iload_n 2, 1) := by decide +kernel
theorem d_CL_look_26 : decode b_CL_look 26 = .ok (.tableswitch 92 0 5 #[38, 47, 56, 65, 74, 83], 38) := by decide +kernel
theorem d_CL_look_64 : decode b_CL_look 64 = .ok (.aload_n 0, 1) := by decide +kernel
theorem d_CL_look_65 : decode b_CL_look 65 = .ok (.getfield 19, 3) := by decide +kernel
theorem d_CL_look_68 : decode b_CL_look 68 = .ok (.iload_n 1, 1) := by decide +kernel
theorem d_CL_look_69 : decode b_CL_look 69 = .ok (.invokevirtual 173, 3) := by decide +kernel
theorem d_CL_look_72 : decode b_CL_look 72 = .ok (.ireturn, 1) := by decide +kernel
theorem d_CL_look_73 : decode b_CL_look 73 = .ok (.aload_n 0, 1) := by decide +kernel
theorem d_CL_look_74 : decode b_CL_look 74 = .ok (.getfield 19, 3) := by decide +kernel
theorem d_CL_look_77 : decode b_CL_look 77 = .ok (.iload_n 1, 1) := by decide +kernel
theorem d_CL_look_78 : decode b_CL_look 78 = .ok (.invokevirtual 212, 3) := by decide +kernel
theorem d_CL_look_81 : decode b_CL_look 81 = .ok (.ireturn, 1) := by decide +kernel
theorem d_CL_look_82 : decode b_CL_look 82 = .ok (.aload_n 0, 1) := by decide +kernel
theorem d_CL_look_83 : decode b_CL_look 83 = .ok (.getfield 19, 3) := by decide +kernel
theorem d_CL_look_86 : decode b_CL_look 86 = .ok (.iload_n 1, 1) := by decide +kernel
theorem d_CL_look_87 : decode b_CL_look 87 = .ok (.invokevirtual 259, 3) := by decide +kernel
theorem d_CL_look_90 : decode b_CL_look 90 = .ok (.ireturn, 1) := by decide +kernel
theorem d_CL_look_91 : decode b_CL_look 91 = .ok (.aload_n 0, 1) := by decide +kernel
theorem d_CL_look_92 : decode b_CL_look 92 = .ok (.getfield 19, 3) := by decide +kernel
theorem d_CL_look_95 : decode b_CL_look 95 = .ok (.iload_n 1, 1) := by decide +kernel
theorem d_CL_look_96 : decode b_CL_look 96 = .ok (.invokevirtual 179, 3) := by decide +kernel
theorem d_CL_look_99 : decode b_CL_look 99 = .ok (.ireturn, 1) := by decide +kernel
theorem d_CL_look_100 : decode b_CL_look 100 = .ok (.aload_n 0, 1) := by decide +kernel
theorem d_CL_look_101 : decode b_CL_look 101 = .ok (.getfield 19, 3) := by decide +kernel
theorem d_CL_look_104 : decode b_CL_look 104 = .ok (.iload_n 1, 1) := by decide +kernel
theorem d_CL_look_105 : decode b_CL_look 105 = .ok (.invokevirtual 176, 3) := by decide +kernel
theorem d_CL_look_108 : decode b_CL_look 108 = .ok (.ireturn, 1) := by decide +kernel
theorem d_CL_look_109 : decode b_CL_look 109 = .ok (.aload_n 0, 1) := by decide +kernel
theorem d_CL_look_110 : decode b_CL_look 110 = .ok (.getfield 19, 3) := by decide +kernel
theorem d_CL_look_113 : decode b_CL_look 113 = .ok (.iload_n 1, 1) := by decide +kernel
theorem d_CL_look_114 : decode b_CL_look 114 = .ok (.invokevirtual 209, 3) := by decide +kernel
theorem d_CL_look_117 : decode b_CL_look 117 = .ok (.ireturn, 1) := by decide +kernel
theorem d_CL_look_118 : decode b_CL_look 118 = .ok (.bipush (-2), 2) := by decide +kernel
theorem d_CL_look_120 : decode b_CL_look 120 = .ok (.ireturn, 1) := by decide +kernel
def f_CL_look (a1 : Int32) (a2 : Int32) (σ : St) : Int32 := if a1 = (-1) then (f_CL_lookAtLedger a2 σ) else (if (f_Te_has a1 σ) = 0 then (-2) else (if a2 = 0 then (f_Te_kindOf a1 σ) else (if a2 = 1 then (f_Te_sortOf a1 σ) else (if a2 = 2 then (f_Te_depthOf a1 σ) else (if a2 = 3 then (f_Te_firstOf a1 σ) else (if a2 = 4 then (f_Te_secondOf a1 σ) else (if a2 = 5 then (f_Te_nameOf a1 σ) else (-2))))))))
def k_CL_look (a1 : Int32) (a2 : Int32) (σ : St) : Prop := (a1 = (-1) → ((k_CL_lookAtLedger a2 σ) ∧ True)) ∧ (¬ a1 = (-1) → ((k_Te_has a1 σ) ∧ (((f_Te_has a1 σ) = 0 → True) ∧ (¬ (f_Te_has a1 σ) = 0 → ((a2 = 0 → ((k_Te_kindOf a1 σ) ∧ True)) ∧ (¬ a2 = 0 → ((a2 = 1 → ((k_Te_sortOf a1 σ) ∧ True)) ∧ (¬ a2 = 1 → ((a2 = 2 → ((k_Te_depthOf a1 σ) ∧ True)) ∧ (¬ a2 = 2 → ((a2 = 3 → ((k_Te_firstOf a1 σ) ∧ True)) ∧ (¬ a2 = 3 → ((a2 = 4 → ((k_Te_secondOf a1 σ) ∧ True)) ∧ (¬ a2 = 4 → ((a2 = 5 → ((k_Te_nameOf a1 σ) ∧ True)) ∧ (¬ a2 = 5 → True))))))))))))))))
abbrev w_CL_look : List Cond := Cond.code y_CL_look b_CL_look 3 (some .int) :: gw
abbrev rm_CL_look : Room := { frames := 2, cells := 0, slots := 0, locals := 42 }
set_option maxHeartbeats 4000000 in
set_option maxRecDepth 100000 in
theorem c_CL_look (l : Launch) (D : va_G) (ty : Nat → ClassId) (h : Nat → Nat) (px : va_W) (sa : Nat → Nat) (σ : St) (a1 : Int32) (a2 : Int32) (hk : k_CL_look a1 a2 σ) : Met l y_CL_look w_CL_look rm_CL_look (va_Pc [.ref (h 0), .int a1, .int a2] (fun U => va_P D classes (Wc ty h σ px) U.heap ∧ va_K D classes (Ta ty) U ∧ NW U ∧ MK sa (fun _ => False) U U.heap)) (k2_QcV (.int (f_CL_look a1 a2 σ))) 0 0 (fun _ => False) := by
  refine Met.ofW (cc := b_CL_look) (maxL := 3) (ret := (some .int)) (by decide) rfl ?_
  intro p e s m args below meth c s₁ B hml hv
  obtain ⟨ha, hP, hK, hN, hM⟩ := hv
  have hx := B.exec
  have hb := B.bytes
  have hr := B.returns
  have hg : ∀ w ∈ gw, w.before args s = true := fun w h9 => atoms_spec (ws := w_CL_look) B.pre w (List.mem_cons_of_mem _ h9)
  have hown : s.vm.findClass "ClauseLedger" = some m.cls := findClass_of_methodNamed B.named
  have hlocks := B.notSynchronized
  have he : entryFrame m args 3 = entryFrame m ([.ref (h 0), .int a1, .int a2] : List Value).toArray 3 := by rw [ha]
  rw [he, lg_entry_eq]
  have hl := lv_entry ([.ref (h 0), .int a1, .int a2]) (n := 3) (Nat.le_of_ble_eq_true rfl)
  generalize (lg_sl ([.ref (h 0), .int a1, .int a2]) ++ List.replicate (3 - (lg_sl ([.ref (h 0), .int a1, .int a2])).length) Slot.unset).toArray = ls at hl ⊢
  have hl : lv_has ls 3 [(0, .ref (h 0)), (1, .int a1), (2, .int a2)] := hl
  generalize hv : f_CL_look a1 a2 σ = v
  replace hv := hv.symm
  unfold f_CL_look at hv
  unfold k_CL_look at hk
  refine lv_iload_n hx hb d_CL_look_0 rfl (lv_at hl 1 rfl) ?_
  refine lv_iconst (v := -1) hx hb d_CL_look_1 (by decide) ?_
  refine lv_icmp_ne (tgt := 11) hx hb d_CL_look_2 (by decide) (fun hc => ?_) (fun hc => ?_)
  · have hv := hv.trans (if_neg hc)
    have hk := hk.2 hc
    refine lv_aload_n hx hb d_CL_look_11 rfl (lv_at hl 0 rfl) ?_
    refine va_get (v := .ref (h 6)) (C := R_CL) (T := T_CL) (N := 11) hx hb hg in_CL hown hK hP 0 rfl rfl 1 (by decide) (hg _ m_285) (fun _ h9 => h9) rfl d_CL_look_12 ?_
    refine lv_iload_n hx hb d_CL_look_15 rfl (lv_at hl 1 rfl) ?_
    obtain ⟨hk0, hk⟩ := hk
    refine zz_callV (va_runV (As := [.int a1]) (rest := []) ⟨hx, hb, hml, hown, hg⟩ (c_Te_has l D ty h px sa σ a1 hk0) ⟨callB_of 1 hg (gw_C m_430) rfl rfl rfl (hg _ m_3) (hg _ m_427) hd_Te_has ⟨Nat.le_of_ble_eq_true rfl, Nat.le_of_ble_eq_true rfl⟩, hg _ m_428, hg _ m_429⟩ (zz_preV hM hN hK hP 6 rfl rfl) rfl rfl hl.1 rfl (lv_room (Nat.le_of_ble_eq_true rfl)) d_CL_look_16 ⟨Nat.le_of_ble_eq_true rfl, Nat.le_of_ble_eq_true rfl⟩) ?_
    refine lv_if_ne (tgt := 25) hx hb d_CL_look_19 (by decide) (fun hc => ?_) (fun hc => ?_)
    · have hv := hv.trans (if_neg hc)
      have hk := hk.2 hc
      refine lv_iload_n hx hb d_CL_look_25 rfl (lv_at hl 2 rfl) ?_
      by_cases hc0 : a2 = 0
      · have hv := hv.trans (if_pos hc0)
        have hk := hk.1 hc0
        refine lv_tableIn (tgt := 64) hx hb d_CL_look_26 (by rw [hc0]; decide) (by rw [hc0]; decide) (by rw [hc0]; rfl) (by decide) ?_
        refine lv_aload_n hx hb d_CL_look_64 rfl (lv_at hl 0 rfl) ?_
        refine va_get (v := .ref (h 6)) (C := R_CL) (T := T_CL) (N := 11) hx hb hg in_CL hown hK hP 0 rfl rfl 1 (by decide) (hg _ m_285) (fun _ h9 => h9) rfl d_CL_look_65 ?_
        refine lv_iload_n hx hb d_CL_look_68 rfl (lv_at hl 1 rfl) ?_
        obtain ⟨hk0, hk⟩ := hk
        refine zz_callV (va_runV (As := [.int a1]) (rest := []) ⟨hx, hb, hml, hown, hg⟩ (c_Te_kindOf l D ty h px sa σ a1 hk0) ⟨callB_of 1 hg (gw_C m_434) rfl rfl rfl (hg _ m_3) (hg _ m_431) hd_Te_kindOf ⟨Nat.le_of_ble_eq_true rfl, Nat.le_of_ble_eq_true rfl⟩, hg _ m_432, hg _ m_433⟩ (zz_preV hM hN hK hP 6 rfl rfl) rfl rfl hl.1 rfl (lv_room (Nat.le_of_ble_eq_true rfl)) d_CL_look_69 ⟨Nat.le_of_ble_eq_true rfl, Nat.le_of_ble_eq_true rfl⟩) ?_
        exact W.iret hx hb hr (fun t ht hW => ⟨by rw [hv], ht⟩) (fun q h => nomatch h) d_CL_look_72
      · have hv := hv.trans (if_neg hc0)
        have hk := hk.2 hc0
        by_cases hc1 : a2 = 1
        · have hv := hv.trans (if_pos hc1)
          have hk := hk.1 hc1
          refine lv_tableIn (tgt := 73) hx hb d_CL_look_26 (by rw [hc1]; decide) (by rw [hc1]; decide) (by rw [hc1]; rfl) (by decide) ?_
          refine lv_aload_n hx hb d_CL_look_73 rfl (lv_at hl 0 rfl) ?_
          refine va_get (v := .ref (h 6)) (C := R_CL) (T := T_CL) (N := 11) hx hb hg in_CL hown hK hP 0 rfl rfl 1 (by decide) (hg _ m_285) (fun _ h9 => h9) rfl d_CL_look_74 ?_
          refine lv_iload_n hx hb d_CL_look_77 rfl (lv_at hl 1 rfl) ?_
          obtain ⟨hk0, hk⟩ := hk
          refine zz_callV (va_runV (As := [.int a1]) (rest := []) ⟨hx, hb, hml, hown, hg⟩ (c_Te_sortOf l D ty h px sa σ a1 hk0) ⟨callB_of 1 hg (gw_C m_439) rfl rfl rfl (hg _ m_3) (hg _ m_436) hd_Te_sortOf ⟨Nat.le_of_ble_eq_true rfl, Nat.le_of_ble_eq_true rfl⟩, hg _ m_437, hg _ m_438⟩ (zz_preV hM hN hK hP 6 rfl rfl) rfl rfl hl.1 rfl (lv_room (Nat.le_of_ble_eq_true rfl)) d_CL_look_78 ⟨Nat.le_of_ble_eq_true rfl, Nat.le_of_ble_eq_true rfl⟩) ?_
          exact W.iret hx hb hr (fun t ht hW => ⟨by rw [hv], ht⟩) (fun q h => nomatch h) d_CL_look_81
        · have hv := hv.trans (if_neg hc1)
          have hk := hk.2 hc1
          by_cases hc2 : a2 = 2
          · have hv := hv.trans (if_pos hc2)
            have hk := hk.1 hc2
            refine lv_tableIn (tgt := 82) hx hb d_CL_look_26 (by rw [hc2]; decide) (by rw [hc2]; decide) (by rw [hc2]; rfl) (by decide) ?_
            refine lv_aload_n hx hb d_CL_look_82 rfl (lv_at hl 0 rfl) ?_
            refine va_get (v := .ref (h 6)) (C := R_CL) (T := T_CL) (N := 11) hx hb hg in_CL hown hK hP 0 rfl rfl 1 (by decide) (hg _ m_285) (fun _ h9 => h9) rfl d_CL_look_83 ?_
            refine lv_iload_n hx hb d_CL_look_86 rfl (lv_at hl 1 rfl) ?_
            obtain ⟨hk0, hk⟩ := hk
            refine zz_callV (va_runV (As := [.int a1]) (rest := []) ⟨hx, hb, hml, hown, hg⟩ (c_Te_depthOf l D ty h px sa σ a1 hk0) ⟨callB_of 1 hg (gw_C m_443) rfl rfl rfl (hg _ m_3) (hg _ m_440) hd_Te_depthOf ⟨Nat.le_of_ble_eq_true rfl, Nat.le_of_ble_eq_true rfl⟩, hg _ m_441, hg _ m_442⟩ (zz_preV hM hN hK hP 6 rfl rfl) rfl rfl hl.1 rfl (lv_room (Nat.le_of_ble_eq_true rfl)) d_CL_look_87 ⟨Nat.le_of_ble_eq_true rfl, Nat.le_of_ble_eq_true rfl⟩) ?_
            exact W.iret hx hb hr (fun t ht hW => ⟨by rw [hv], ht⟩) (fun q h => nomatch h) d_CL_look_90
          · have hv := hv.trans (if_neg hc2)
            have hk := hk.2 hc2
            by_cases hc3 : a2 = 3
            · have hv := hv.trans (if_pos hc3)
              have hk := hk.1 hc3
              refine lv_tableIn (tgt := 91) hx hb d_CL_look_26 (by rw [hc3]; decide) (by rw [hc3]; decide) (by rw [hc3]; rfl) (by decide) ?_
              refine lv_aload_n hx hb d_CL_look_91 rfl (lv_at hl 0 rfl) ?_
              refine va_get (v := .ref (h 6)) (C := R_CL) (T := T_CL) (N := 11) hx hb hg in_CL hown hK hP 0 rfl rfl 1 (by decide) (hg _ m_285) (fun _ h9 => h9) rfl d_CL_look_92 ?_
              refine lv_iload_n hx hb d_CL_look_95 rfl (lv_at hl 1 rfl) ?_
              obtain ⟨hk0, hk⟩ := hk
              refine zz_callV (va_runV (As := [.int a1]) (rest := []) ⟨hx, hb, hml, hown, hg⟩ (c_Te_firstOf l D ty h px sa σ a1 hk0) ⟨callB_of 1 hg (gw_C m_447) rfl rfl rfl (hg _ m_3) (hg _ m_444) hd_Te_firstOf ⟨Nat.le_of_ble_eq_true rfl, Nat.le_of_ble_eq_true rfl⟩, hg _ m_445, hg _ m_446⟩ (zz_preV hM hN hK hP 6 rfl rfl) rfl rfl hl.1 rfl (lv_room (Nat.le_of_ble_eq_true rfl)) d_CL_look_96 ⟨Nat.le_of_ble_eq_true rfl, Nat.le_of_ble_eq_true rfl⟩) ?_
              exact W.iret hx hb hr (fun t ht hW => ⟨by rw [hv], ht⟩) (fun q h => nomatch h) d_CL_look_99
            · have hv := hv.trans (if_neg hc3)
              have hk := hk.2 hc3
              by_cases hc4 : a2 = 4
              · have hv := hv.trans (if_pos hc4)
                have hk := hk.1 hc4
                refine lv_tableIn (tgt := 100) hx hb d_CL_look_26 (by rw [hc4]; decide) (by rw [hc4]; decide) (by rw [hc4]; rfl) (by decide) ?_
                refine lv_aload_n hx hb d_CL_look_100 rfl (lv_at hl 0 rfl) ?_
                refine va_get (v := .ref (h 6)) (C := R_CL) (T := T_CL) (N := 11) hx hb hg in_CL hown hK hP 0 rfl rfl 1 (by decide) (hg _ m_285) (fun _ h9 => h9) rfl d_CL_look_101 ?_
                refine lv_iload_n hx hb d_CL_look_104 rfl (lv_at hl 1 rfl) ?_
                obtain ⟨hk0, hk⟩ := hk
                refine zz_callV (va_runV (As := [.int a1]) (rest := []) ⟨hx, hb, hml, hown, hg⟩ (c_Te_secondOf l D ty h px sa σ a1 hk0) ⟨callB_of 1 hg (gw_C m_451) rfl rfl rfl (hg _ m_3) (hg _ m_448) hd_Te_secondOf ⟨Nat.le_of_ble_eq_true rfl, Nat.le_of_ble_eq_true rfl⟩, hg _ m_449, hg _ m_450⟩ (zz_preV hM hN hK hP 6 rfl rfl) rfl rfl hl.1 rfl (lv_room (Nat.le_of_ble_eq_true rfl)) d_CL_look_105 ⟨Nat.le_of_ble_eq_true rfl, Nat.le_of_ble_eq_true rfl⟩) ?_
                exact W.iret hx hb hr (fun t ht hW => ⟨by rw [hv], ht⟩) (fun q h => nomatch h) d_CL_look_108
              · have hv := hv.trans (if_neg hc4)
                have hk := hk.2 hc4
                by_cases hc5 : a2 = 5
                · have hv := hv.trans (if_pos hc5)
                  have hk := hk.1 hc5
                  refine lv_tableIn (tgt := 109) hx hb d_CL_look_26 (by rw [hc5]; decide) (by rw [hc5]; decide) (by rw [hc5]; rfl) (by decide) ?_
                  refine lv_aload_n hx hb d_CL_look_109 rfl (lv_at hl 0 rfl) ?_
                  refine va_get (v := .ref (h 6)) (C := R_CL) (T := T_CL) (N := 11) hx hb hg in_CL hown hK hP 0 rfl rfl 1 (by decide) (hg _ m_285) (fun _ h9 => h9) rfl d_CL_look_110 ?_
                  refine lv_iload_n hx hb d_CL_look_113 rfl (lv_at hl 1 rfl) ?_
                  obtain ⟨hk0, hk⟩ := hk
                  refine zz_callV (va_runV (As := [.int a1]) (rest := []) ⟨hx, hb, hml, hown, hg⟩ (c_Te_nameOf l D ty h px sa σ a1 hk0) ⟨callB_of 1 hg (gw_C m_455) rfl rfl rfl (hg _ m_3) (hg _ m_452) hd_Te_nameOf ⟨Nat.le_of_ble_eq_true rfl, Nat.le_of_ble_eq_true rfl⟩, hg _ m_453, hg _ m_454⟩ (zz_preV hM hN hK hP 6 rfl rfl) rfl rfl hl.1 rfl (lv_room (Nat.le_of_ble_eq_true rfl)) d_CL_look_114 ⟨Nat.le_of_ble_eq_true rfl, Nat.le_of_ble_eq_true rfl⟩) ?_
                  exact W.iret hx hb hr (fun t ht hW => ⟨by rw [hv], ht⟩) (fun q h => nomatch h) d_CL_look_117
                · have hv := hv.trans (if_neg hc5)
                  have hk := hk.2 hc5
                  refine lv_tableOut (tgt := 118) hx hb d_CL_look_26 (by have := lv_neT hc0 (by decide : (0 : Int32).toInt = 0); have := lv_neT hc1 (by decide : (1 : Int32).toInt = 1); have := lv_neT hc2 (by decide : (2 : Int32).toInt = 2); have := lv_neT hc3 (by decide : (3 : Int32).toInt = 3); have := lv_neT hc4 (by decide : (4 : Int32).toInt = 4); have := lv_neT hc5 (by decide : (5 : Int32).toInt = 5); omega) (by decide) ?_
                  refine lv_bipush (v := -2) hx hb d_CL_look_118 (by decide) ?_
                  exact W.iret hx hb hr (fun t ht hW => ⟨by rw [hv], ht⟩) (fun q h => nomatch h) d_CL_look_120
    · have hv := hv.trans (if_pos hc)
      have hk := hk.1 hc
      refine lv_bipush (v := -2) hx hb d_CL_look_22 (by decide) ?_
      exact W.iret hx hb hr (fun t ht hW => ⟨by rw [hv], ht⟩) (fun q h => nomatch h) d_CL_look_24
  · have hv := hv.trans (if_pos hc)
    have hk := hk.1 hc
    refine lv_aload_n hx hb d_CL_look_5 rfl (lv_at hl 0 rfl) ?_
    refine lv_iload_n hx hb d_CL_look_6 rfl (lv_at hl 2 rfl) ?_
    obtain ⟨hk0, hk⟩ := hk
    refine zz_callV (va_runV (As := [.int a2]) (rest := []) ⟨hx, hb, hml, hown, hg⟩ (c_CL_lookAtLedger l D ty h px sa σ a2 hk0) ⟨callB_of 1 hg (gw_C m_426) rfl rfl rfl (hg _ m_1) (hg _ m_423) hd_CL_lookAtLedger ⟨Nat.le_of_ble_eq_true rfl, Nat.le_of_ble_eq_true rfl⟩, hg _ m_425, hg _ ms_4⟩ (zz_preV hM hN hK hP 0 rfl rfl) rfl rfl hl.1 rfl (lv_room (Nat.le_of_ble_eq_true rfl)) d_CL_look_7 ⟨Nat.le_of_ble_eq_true rfl, Nat.le_of_ble_eq_true rfl⟩) ?_
    exact W.iret hx hb hr (fun t ht hW => ⟨by rw [hv], ht⟩) (fun q h => nomatch h) d_CL_look_10

-- ClauseLedger$Writer.letterOfMark(I)C
abbrev b_Wr_letterOfMark : ByteArray := prog_12_method_7_code
def y_Wr_letterOfMark : MethodName := ⟨"ClauseLedger$Writer", "letterOfMark", "(I)C"⟩
theorem hd_Wr_letterOfMark : y_Wr_letterOfMark.cls ≠ "java/lang/invoke/MethodHandle" ∧ y_Wr_letterOfMark.cls ≠ "java/lang/invoke/VarHandle" ∧ (parseMethodDescriptor y_Wr_letterOfMark.desc).map (fun d => d.parameters.length) = some 1 := by decide +kernel
theorem d_Wr_letterOfMark_0 : decode b_Wr_letterOfMark 0 = .ok (.aload_n 0, 1) := by decide +kernel
theorem d_Wr_letterOfMark_1 : decode b_Wr_letterOfMark 1 = .ok (.getfield 9, 3) := by decide +kernel
theorem d_Wr_letterOfMark_4 : decode b_Wr_letterOfMark 4 = .ok (.iload_n 1, 1) := by decide +kernel
theorem d_Wr_letterOfMark_5 : decode b_Wr_letterOfMark 5 = .ok (.invokevirtual 32, 3) := by decide +kernel
theorem d_Wr_letterOfMark_8 : decode b_Wr_letterOfMark 8 = .ok (.iconst 3, 1) := by decide +kernel
theorem d_Wr_letterOfMark_9 : decode b_Wr_letterOfMark 9 = .ok (.isub, 1) := by decide +kernel
theorem d_Wr_letterOfMark_10 : decode b_Wr_letterOfMark 10 = .ok (.istore_n 2, 1) := by decide +kernel
theorem d_Wr_letterOfMark_11 : decode b_Wr_letterOfMark 11 = .ok (.iload_n 2, 1) := by decide +kernel
theorem d_Wr_letterOfMark_12 : decode b_Wr_letterOfMark 12 = .ok (.ifCond .lt 12, 3) := by decide +kernel
theorem d_Wr_letterOfMark_15 : decode b_Wr_letterOfMark 15 = .ok (.iload_n 2, 1) := by decide +kernel
theorem d_Wr_letterOfMark_16 : decode b_Wr_letterOfMark 16 = .ok (.ldc 55, 2) := by decide +kernel
theorem d_Wr_letterOfMark_18 : decode b_Wr_letterOfMark 18 = .ok (.invokevirtual 57, 3) := by decide +kernel
theorem d_Wr_letterOfMark_21 : decode b_Wr_letterOfMark 21 = .ok (.if_icmp .lt 16, 3) := by decide +kernel
theorem d_Wr_letterOfMark_24 : decode b_Wr_letterOfMark 24 = .ok (.bipush 97, 2) := by decide +kernel
theorem d_Wr_letterOfMark_26 : decode b_Wr_letterOfMark 26 = .ok (.aload_n 0, 1) := by decide +kernel
theorem d_Wr_letterOfMark_27 : decode b_Wr_letterOfMark 27 = .ok (.getfield 9, 3) := by decide +kernel
theorem d_Wr_letterOfMark_30 : decode b_Wr_letterOfMark 30 = .ok (.iload_n 1, 1) := by decide +kernel
theorem d_Wr_letterOfMark_31 : decode b_Wr_letterOfMark 31 = .ok (.invokevirtual 52, 3) := by decide +kernel
theorem d_Wr_letterOfMark_34 : decode b_Wr_letterOfMark 34 = .ok (.iadd, 1) := by decide +kernel
theorem d_Wr_letterOfMark_35 : decode b_Wr_letterOfMark 35 = .ok (.i2c, 1) := by decide +kernel
theorem d_Wr_letterOfMark_36 : decode b_Wr_letterOfMark 36 = .ok (.ireturn, 1) := by decide +kernel
theorem d_Wr_letterOfMark_37 : decode b_Wr_letterOfMark 37 = .ok (.ldc 55, 2) := by decide +kernel
theorem d_Wr_letterOfMark_39 : decode b_Wr_letterOfMark 39 = .ok (.iload_n 2, 1) := by decide +kernel
theorem d_Wr_letterOfMark_40 : decode b_Wr_letterOfMark 40 = .ok (.invokevirtual 63, 3) := by decide +kernel
theorem d_Wr_letterOfMark_43 : decode b_Wr_letterOfMark 43 = .ok (.ireturn, 1) := by decide +kernel
def f_Wr_letterOfMark_24 (x1 : Int32) (σ : St) : Int32 := ((97 + (f_Te_nameOf x1 σ)).toUInt32 % 65536).toInt32
def k_Wr_letterOfMark_24 (x1 : Int32) (σ : St) : Prop := (k_Te_nameOf x1 σ) ∧ ((narrow .char (.int (((97 + (f_Te_nameOf x1 σ)).toUInt32 % 65536).toInt32)) = .int (((97 + (f_Te_nameOf x1 σ)).toUInt32 % 65536).toInt32)) ∧ True)
def f_Wr_letterOfMark_11 (x1 : Int32) (x2 : Int32) (σ : St) : Int32 := if x2 < 0 then (f_Wr_letterOfMark_24 x1 σ) else (if x2 < (f_JS_length σ) then (f_JS_charAt x2 σ) else (f_Wr_letterOfMark_24 x1 σ))
def k_Wr_letterOfMark_11 (x1 : Int32) (x2 : Int32) (σ : St) : Prop := (x2 < 0 → (k_Wr_letterOfMark_24 x1 σ)) ∧ (¬ x2 < 0 → ((k_JS_length σ) ∧ ((x2 < (f_JS_length σ) → ((k_JS_charAt x2 σ) ∧ ((narrow .char (.int (f_JS_charAt x2 σ)) = .int (f_JS_charAt x2 σ)) ∧ True))) ∧ (¬ x2 < (f_JS_length σ) → (k_Wr_letterOfMark_24 x1 σ)))))
def f_Wr_letterOfMark (a1 : Int32) (σ : St) : Int32 := f_Wr_letterOfMark_11 a1 ((f_Te_kindOf a1 σ) - 3) σ
def k_Wr_letterOfMark (a1 : Int32) (σ : St) : Prop := (k_Te_kindOf a1 σ) ∧ (k_Wr_letterOfMark_11 a1 ((f_Te_kindOf a1 σ) - 3) σ)
abbrev w_Wr_letterOfMark : List Cond := Cond.code y_Wr_letterOfMark b_Wr_letterOfMark 3 (some .char) :: gw
abbrev rm_Wr_letterOfMark : Room := { frames := 8, cells := 0, slots := 0, locals := 212 }
set_option maxHeartbeats 4000000 in
set_option maxRecDepth 100000 in
theorem c_Wr_letterOfMark (l : Launch) (D : va_G) (ty : Nat → ClassId) (h : Nat → Nat) (px : va_W) (sa : Nat → Nat) (σ : St) (a1 : Int32) (hk : k_Wr_letterOfMark a1 σ) : Met l y_Wr_letterOfMark w_Wr_letterOfMark rm_Wr_letterOfMark (va_Pc [.ref (h 21), .int a1] (fun U => va_P D classes (Wc ty h σ px) U.heap ∧ va_K D classes (Ta ty) U ∧ NW U ∧ MK sa (fun _ => False) U U.heap)) (k2_QcV (.int (f_Wr_letterOfMark a1 σ))) 0 0 (fun _ => False) := by
  refine Met.ofW (cc := b_Wr_letterOfMark) (maxL := 3) (ret := (some .char)) (by decide) rfl ?_
  intro p e s m args below meth c s₁ B hml hv
  obtain ⟨ha, hP, hK, hN, hM⟩ := hv
  have hx := B.exec
  have hb := B.bytes
  have hr := B.returns
  have hg : ∀ w ∈ gw, w.before args s = true := fun w h9 => atoms_spec (ws := w_Wr_letterOfMark) B.pre w (List.mem_cons_of_mem _ h9)
  have hown : s.vm.findClass "ClauseLedger$Writer" = some m.cls := findClass_of_methodNamed B.named
  have hlocks := B.notSynchronized
  have he : entryFrame m args 3 = entryFrame m ([.ref (h 21), .int a1] : List Value).toArray 3 := by rw [ha]
  rw [he, lg_entry_eq]
  have hl := lv_entry ([.ref (h 21), .int a1]) (n := 3) (Nat.le_of_ble_eq_true rfl)
  generalize (lg_sl ([.ref (h 21), .int a1]) ++ List.replicate (3 - (lg_sl ([.ref (h 21), .int a1])).length) Slot.unset).toArray = ls at hl ⊢
  have hl : lv_has ls 3 [(0, .ref (h 21)), (1, .int a1)] := hl
  generalize hv : f_Wr_letterOfMark a1 σ = v
  replace hv := hv.symm
  have B24 : ∀ (ls : Array Slot) (x1 : Int32), v = f_Wr_letterOfMark_24 x1 σ → k_Wr_letterOfMark_24 x1 σ → lv_has ls 3 [(0, .ref (h 21)), (1, .int x1)] → W p l e (headSpec w_Wr_letterOfMark rm_Wr_letterOfMark).room s m args below meth c s.heap [] 0 0 (MQ below (k2_QcV (.int v)) args s 0 0 (fun _ => False)) (F0 m 24 ls []) := by
    intro ls x1 hv hk hl
    unfold f_Wr_letterOfMark_24 at hv
    unfold k_Wr_letterOfMark_24 at hk
    refine lv_bipush (v := 97) hx hb d_Wr_letterOfMark_24 (by decide) ?_
    refine lv_aload_n hx hb d_Wr_letterOfMark_26 rfl (lv_at hl 0 rfl) ?_
    refine va_get (v := .ref (h 6)) (C := R_Wr) (T := T_Wr) (N := 1) hx hb hg in_Wr hown hK hP 21 rfl rfl 0 (by decide) (hg _ m_152) (fun _ h9 => h9) rfl d_Wr_letterOfMark_27 ?_
    refine lv_iload_n hx hb d_Wr_letterOfMark_30 rfl (lv_at hl 1 rfl) ?_
    obtain ⟨hk0, hk⟩ := hk
    refine zz_callV (va_runV (As := [.int x1]) (rest := [.int 97]) ⟨hx, hb, hml, hown, hg⟩ (c_Te_nameOf l D ty h px sa σ x1 hk0) ⟨callB_of 1 hg (gw_C m_455) rfl rfl rfl (hg _ m_3) (hg _ m_492) hd_Te_nameOf ⟨Nat.le_of_ble_eq_true rfl, Nat.le_of_ble_eq_true rfl⟩, hg _ m_453, hg _ m_454⟩ (zz_preV hM hN hK hP 6 rfl rfl) rfl rfl hl.1 rfl (lv_room (Nat.le_of_ble_eq_true rfl)) d_Wr_letterOfMark_31 ⟨Nat.le_of_ble_eq_true rfl, Nat.le_of_ble_eq_true rfl⟩) ?_
    refine lv_iadd hx hb d_Wr_letterOfMark_34 ?_
    refine lv_i2c hx hb d_Wr_letterOfMark_35 rfl ?_
    obtain ⟨hk0, hk⟩ := hk
    exact W.zret hx hb hr hk0 (fun t ht hW => ⟨by rw [hv], ht⟩) (fun q h => nomatch h) d_Wr_letterOfMark_36
  have B11 : ∀ (ls : Array Slot) (x1 : Int32) (x2 : Int32), v = f_Wr_letterOfMark_11 x1 x2 σ → k_Wr_letterOfMark_11 x1 x2 σ → lv_has ls 3 [(0, .ref (h 21)), (1, .int x1), (2, .int x2)] → W p l e (headSpec w_Wr_letterOfMark rm_Wr_letterOfMark).room s m args below meth c s.heap [] 0 0 (MQ below (k2_QcV (.int v)) args s 0 0 (fun _ => False)) (F0 m 11 ls []) := by
    intro ls x1 x2 hv hk hl
    unfold f_Wr_letterOfMark_11 at hv
    unfold k_Wr_letterOfMark_11 at hk
    refine lv_iload_n hx hb d_Wr_letterOfMark_11 rfl (lv_at hl 2 rfl) ?_
    refine lv_if_lt (tgt := 24) hx hb d_Wr_letterOfMark_12 (by decide) (fun hc => ?_) (fun hc => ?_)
    · have hv := hv.trans (if_pos hc)
      have hk := hk.1 hc
      exact B24 _ x1 hv hk (lv_sub hl [0, 1] rfl)
    · have hv := hv.trans (if_neg hc)
      have hk := hk.2 hc
      refine lv_iload_n hx hb d_Wr_letterOfMark_15 rfl (lv_at hl 2 rfl) ?_
      refine va_ldcS hx hb hown hM.2.2.1 d_Wr_letterOfMark_16 ?_
      obtain ⟨hk0, hk⟩ := hk
      refine zz_callV (va_runV (As := []) (rest := [.int x2]) ⟨hx, hb, hml, hown, hg⟩ (c_JS_length l D ty h px sa σ  hk0) ⟨callB_of 0 hg (gw_C m_485) rfl rfl rfl (hg _ m_15) (hg _ m_482) hd_JS_length ⟨Nat.le_of_ble_eq_true rfl, Nat.le_of_ble_eq_true rfl⟩, hg _ m_483, hg _ m_484⟩ (zz_preT hM hN hK hP) rfl rfl hl.1 rfl (lv_room (Nat.le_of_ble_eq_true rfl)) d_Wr_letterOfMark_18 ⟨Nat.le_of_ble_eq_true rfl, Nat.le_of_ble_eq_true rfl⟩) ?_
      refine lv_icmp_lt (tgt := 37) hx hb d_Wr_letterOfMark_21 (by decide) (fun hc => ?_) (fun hc => ?_)
      · have hv := hv.trans (if_pos hc)
        have hk := hk.1 hc
        refine va_ldcS hx hb hown hM.2.2.1 d_Wr_letterOfMark_37 ?_
        refine lv_iload_n hx hb d_Wr_letterOfMark_39 rfl (lv_at hl 2 rfl) ?_
        obtain ⟨hk0, hk⟩ := hk
        refine zz_callV (va_runV (As := [.int x2]) (rest := []) ⟨hx, hb, hml, hown, hg⟩ (c_JS_charAt l D ty h px sa σ x2 hk0) ⟨callB_of 1 hg (gw_C m_496) rfl rfl rfl (hg _ m_15) (hg _ m_493) hd_JS_charAt ⟨Nat.le_of_ble_eq_true rfl, Nat.le_of_ble_eq_true rfl⟩, hg _ m_494, hg _ m_495⟩ (zz_preT hM hN hK hP) rfl rfl hl.1 rfl (lv_room (Nat.le_of_ble_eq_true rfl)) d_Wr_letterOfMark_40 ⟨Nat.le_of_ble_eq_true rfl, Nat.le_of_ble_eq_true rfl⟩) ?_
        obtain ⟨hk0, hk⟩ := hk
        exact W.zret hx hb hr hk0 (fun t ht hW => ⟨by rw [hv], ht⟩) (fun q h => nomatch h) d_Wr_letterOfMark_43
      · have hv := hv.trans (if_neg hc)
        have hk := hk.2 hc
        exact B24 _ x1 hv hk (lv_sub hl [0, 1] rfl)
  unfold f_Wr_letterOfMark at hv
  unfold k_Wr_letterOfMark at hk
  refine lv_aload_n hx hb d_Wr_letterOfMark_0 rfl (lv_at hl 0 rfl) ?_
  refine va_get (v := .ref (h 6)) (C := R_Wr) (T := T_Wr) (N := 1) hx hb hg in_Wr hown hK hP 21 rfl rfl 0 (by decide) (hg _ m_152) (fun _ h9 => h9) rfl d_Wr_letterOfMark_1 ?_
  refine lv_iload_n hx hb d_Wr_letterOfMark_4 rfl (lv_at hl 1 rfl) ?_
  obtain ⟨hk0, hk⟩ := hk
  refine zz_callV (va_runV (As := [.int a1]) (rest := []) ⟨hx, hb, hml, hown, hg⟩ (c_Te_kindOf l D ty h px sa σ a1 hk0) ⟨callB_of 1 hg (gw_C m_434) rfl rfl rfl (hg _ m_3) (hg _ m_469) hd_Te_kindOf ⟨Nat.le_of_ble_eq_true rfl, Nat.le_of_ble_eq_true rfl⟩, hg _ m_432, hg _ m_433⟩ (zz_preV hM hN hK hP 6 rfl rfl) rfl rfl hl.1 rfl (lv_room (Nat.le_of_ble_eq_true rfl)) d_Wr_letterOfMark_5 ⟨Nat.le_of_ble_eq_true rfl, Nat.le_of_ble_eq_true rfl⟩) ?_
  refine lv_iconst (v := 3) hx hb d_Wr_letterOfMark_8 (by decide) ?_
  refine lv_isub hx hb d_Wr_letterOfMark_9 ?_
  refine lv_istore_n (lv' := [(2, .int ((f_Te_kindOf a1 σ) - 3)), (0, .ref (h 21)), (1, .int a1)]) hx hb d_Wr_letterOfMark_10 rfl hl (by decide) rfl (fun ls hl => ?_)
  exact B11 _ a1 ((f_Te_kindOf a1 σ) - 3) hv hk (lv_sub hl [1, 2, 0] rfl)

-- ClauseLedger$Writer.letterOfHead(II)C
abbrev b_Wr_letterOfHead : ByteArray := prog_12_method_6_code
def y_Wr_letterOfHead : MethodName := ⟨"ClauseLedger$Writer", "letterOfHead", "(II)C"⟩
theorem hd_Wr_letterOfHead : y_Wr_letterOfHead.cls ≠ "java/lang/invoke/MethodHandle" ∧ y_Wr_letterOfHead.cls ≠ "java/lang/invoke/VarHandle" ∧ (parseMethodDescriptor y_Wr_letterOfHead.desc).map (fun d => d.parameters.length) = some 2 := by decide +kernel
theorem d_Wr_letterOfHead_0 : decode b_Wr_letterOfHead 0 = .ok (.iload_n 2, 1) := by decide +kernel
theorem d_Wr_letterOfHead_1 : decode b_Wr_letterOfHead 1 = .ok (.tableswitch 53 0 3 #[31, 34, 53, 40], 31) := by decide +kernel
theorem d_Wr_letterOfHead_32 : decode b_Wr_letterOfHead 32 = .ok (.bipush 40, 2) := by decide +kernel
theorem d_Wr_letterOfHead_34 : decode b_Wr_letterOfHead 34 = .ok (.ireturn, 1) := by decide +kernel
theorem d_Wr_letterOfHead_35 : decode b_Wr_letterOfHead 35 = .ok (.aload_n 0, 1) := by decide +kernel
theorem d_Wr_letterOfHead_36 : decode b_Wr_letterOfHead 36 = .ok (.iload_n 1, 1) := by decide +kernel
theorem d_Wr_letterOfHead_37 : decode b_Wr_letterOfHead 37 = .ok (.invokevirtual 48, 3) := by decide +kernel
theorem d_Wr_letterOfHead_40 : decode b_Wr_letterOfHead 40 = .ok (.ireturn, 1) := by decide +kernel
theorem d_Wr_letterOfHead_41 : decode b_Wr_letterOfHead 41 = .ok (.bipush 120, 2) := by decide +kernel
theorem d_Wr_letterOfHead_43 : decode b_Wr_letterOfHead 43 = .ok (.aload_n 0, 1) := by decide +kernel
theorem d_Wr_letterOfHead_44 : decode b_Wr_letterOfHead 44 = .ok (.getfield 9, 3) := by decide +kernel
theorem d_Wr_letterOfHead_47 : decode b_Wr_letterOfHead 47 = .ok (.iload_n 1, 1) := by decide +kernel
theorem d_Wr_letterOfHead_48 : decode b_Wr_letterOfHead 48 = .ok (.invokevirtual 52, 3) := by decide +kernel
theorem d_Wr_letterOfHead_51 : decode b_Wr_letterOfHead 51 = .ok (.iadd, 1) := by decide +kernel
theorem d_Wr_letterOfHead_52 : decode b_Wr_letterOfHead 52 = .ok (.i2c, 1) := by decide +kernel
theorem d_Wr_letterOfHead_53 : decode b_Wr_letterOfHead 53 = .ok (.ireturn, 1) := by decide +kernel
theorem d_Wr_letterOfHead_54 : decode b_Wr_letterOfHead 54 = .ok (.bipush 32, 2) := by decide +kernel
theorem d_Wr_letterOfHead_56 : decode b_Wr_letterOfHead 56 = .ok (.ireturn, 1) := by decide +kernel
def f_Wr_letterOfHead (a1 : Int32) (a2 : Int32) (σ : St) : Int32 := if a2 = 0 then 40 else (if a2 = 1 then (f_Wr_letterOfMark a1 σ) else (if a2 = 2 then 32 else (if a2 = 3 then (((120 + (f_Te_nameOf a1 σ)).toUInt32 % 65536).toInt32) else 32)))
def k_Wr_letterOfHead (a1 : Int32) (a2 : Int32) (σ : St) : Prop := (a2 = 0 → ((narrow .char (.int 40) = .int 40) ∧ True)) ∧ (¬ a2 = 0 → ((a2 = 1 → ((k_Wr_letterOfMark a1 σ) ∧ ((narrow .char (.int (f_Wr_letterOfMark a1 σ)) = .int (f_Wr_letterOfMark a1 σ)) ∧ True))) ∧ (¬ a2 = 1 → ((a2 = 2 → ((narrow .char (.int 32) = .int 32) ∧ True)) ∧ (¬ a2 = 2 → ((a2 = 3 → ((k_Te_nameOf a1 σ) ∧ ((narrow .char (.int (((120 + (f_Te_nameOf a1 σ)).toUInt32 % 65536).toInt32)) = .int (((120 + (f_Te_nameOf a1 σ)).toUInt32 % 65536).toInt32)) ∧ True))) ∧ (¬ a2 = 3 → ((narrow .char (.int 32) = .int 32) ∧ True))))))))
abbrev w_Wr_letterOfHead : List Cond := Cond.code y_Wr_letterOfHead b_Wr_letterOfHead 3 (some .char) :: gw
abbrev rm_Wr_letterOfHead : Room := { frames := 9, cells := 0, slots := 0, locals := 234 }
set_option maxHeartbeats 4000000 in
set_option maxRecDepth 100000 in
theorem c_Wr_letterOfHead (l : Launch) (D : va_G) (ty : Nat → ClassId) (h : Nat → Nat) (px : va_W) (sa : Nat → Nat) (σ : St) (a1 : Int32) (a2 : Int32) (hk : k_Wr_letterOfHead a1 a2 σ) : Met l y_Wr_letterOfHead w_Wr_letterOfHead rm_Wr_letterOfHead (va_Pc [.ref (h 21), .int a1, .int a2] (fun U => va_P D classes (Wc ty h σ px) U.heap ∧ va_K D classes (Ta ty) U ∧ NW U ∧ MK sa (fun _ => False) U U.heap)) (k2_QcV (.int (f_Wr_letterOfHead a1 a2 σ))) 0 0 (fun _ => False) := by
  refine Met.ofW (cc := b_Wr_letterOfHead) (maxL := 3) (ret := (some .char)) (by decide) rfl ?_
  intro p e s m args below meth c s₁ B hml hv
  obtain ⟨ha, hP, hK, hN, hM⟩ := hv
  have hx := B.exec
  have hb := B.bytes
  have hr := B.returns
  have hg : ∀ w ∈ gw, w.before args s = true := fun w h9 => atoms_spec (ws := w_Wr_letterOfHead) B.pre w (List.mem_cons_of_mem _ h9)
  have hown : s.vm.findClass "ClauseLedger$Writer" = some m.cls := findClass_of_methodNamed B.named
  have hlocks := B.notSynchronized
  have he : entryFrame m args 3 = entryFrame m ([.ref (h 21), .int a1, .int a2] : List Value).toArray 3 := by rw [ha]
  rw [he, lg_entry_eq]
  have hl := lv_entry ([.ref (h 21), .int a1, .int a2]) (n := 3) (Nat.le_of_ble_eq_true rfl)
  generalize (lg_sl ([.ref (h 21), .int a1, .int a2]) ++ List.replicate (3 - (lg_sl ([.ref (h 21), .int a1, .int a2])).length) Slot.unset).toArray = ls at hl ⊢
  have hl : lv_has ls 3 [(0, .ref (h 21)), (1, .int a1), (2, .int a2)] := hl
  generalize hv : f_Wr_letterOfHead a1 a2 σ = v
  replace hv := hv.symm
  unfold f_Wr_letterOfHead at hv
  unfold k_Wr_letterOfHead at hk
  refine lv_iload_n hx hb d_Wr_letterOfHead_0 rfl (lv_at hl 2 rfl) ?_
  by_cases hc0 : a2 = 0
  · have hv := hv.trans (if_pos hc0)
    have hk := hk.1 hc0
    refine lv_tableIn (tgt := 32) hx hb d_Wr_letterOfHead_1 (by rw [hc0]; decide) (by rw [hc0]; decide) (by rw [hc0]; rfl) (by decide) ?_
    refine lv_bipush (v := 40) hx hb d_Wr_letterOfHead_32 (by decide) ?_
    obtain ⟨hk0, hk⟩ := hk
    exact W.zret hx hb hr hk0 (fun t ht hW => ⟨by rw [hv], ht⟩) (fun q h => nomatch h) d_Wr_letterOfHead_34
  · have hv := hv.trans (if_neg hc0)
    have hk := hk.2 hc0
    by_cases hc1 : a2 = 1
    · have hv := hv.trans (if_pos hc1)
      have hk := hk.1 hc1
      refine lv_tableIn (tgt := 35) hx hb d_Wr_letterOfHead_1 (by rw [hc1]; decide) (by rw [hc1]; decide) (by rw [hc1]; rfl) (by decide) ?_
      refine lv_aload_n hx hb d_Wr_letterOfHead_35 rfl (lv_at hl 0 rfl) ?_
      refine lv_iload_n hx hb d_Wr_letterOfHead_36 rfl (lv_at hl 1 rfl) ?_
      obtain ⟨hk0, hk⟩ := hk
      refine zz_callV (va_runV (As := [.int a1]) (rest := []) ⟨hx, hb, hml, hown, hg⟩ (c_Wr_letterOfMark l D ty h px sa σ a1 hk0) ⟨callB_of 1 hg (gw_C m_480) rfl rfl rfl (hg _ m_6) (hg _ m_477) hd_Wr_letterOfMark ⟨Nat.le_of_ble_eq_true rfl, Nat.le_of_ble_eq_true rfl⟩, hg _ m_479, hg _ ms_6⟩ (zz_preV hM hN hK hP 21 rfl rfl) rfl rfl hl.1 rfl (lv_room (Nat.le_of_ble_eq_true rfl)) d_Wr_letterOfHead_37 ⟨Nat.le_of_ble_eq_true rfl, Nat.le_of_ble_eq_true rfl⟩) ?_
      obtain ⟨hk0, hk⟩ := hk
      exact W.zret hx hb hr hk0 (fun t ht hW => ⟨by rw [hv], ht⟩) (fun q h => nomatch h) d_Wr_letterOfHead_40
    · have hv := hv.trans (if_neg hc1)
      have hk := hk.2 hc1
      by_cases hc2 : a2 = 2
      · have hv := hv.trans (if_pos hc2)
        have hk := hk.1 hc2
        refine lv_tableIn (tgt := 54) hx hb d_Wr_letterOfHead_1 (by rw [hc2]; decide) (by rw [hc2]; decide) (by rw [hc2]; rfl) (by decide) ?_
        refine lv_bipush (v := 32) hx hb d_Wr_letterOfHead_54 (by decide) ?_
        obtain ⟨hk0, hk⟩ := hk
        exact W.zret hx hb hr hk0 (fun t ht hW => ⟨by rw [hv], ht⟩) (fun q h => nomatch h) d_Wr_letterOfHead_56
      · have hv := hv.trans (if_neg hc2)
        have hk := hk.2 hc2
        by_cases hc3 : a2 = 3
        · have hv := hv.trans (if_pos hc3)
          have hk := hk.1 hc3
          refine lv_tableIn (tgt := 41) hx hb d_Wr_letterOfHead_1 (by rw [hc3]; decide) (by rw [hc3]; decide) (by rw [hc3]; rfl) (by decide) ?_
          refine lv_bipush (v := 120) hx hb d_Wr_letterOfHead_41 (by decide) ?_
          refine lv_aload_n hx hb d_Wr_letterOfHead_43 rfl (lv_at hl 0 rfl) ?_
          refine va_get (v := .ref (h 6)) (C := R_Wr) (T := T_Wr) (N := 1) hx hb hg in_Wr hown hK hP 21 rfl rfl 0 (by decide) (hg _ m_152) (fun _ h9 => h9) rfl d_Wr_letterOfHead_44 ?_
          refine lv_iload_n hx hb d_Wr_letterOfHead_47 rfl (lv_at hl 1 rfl) ?_
          obtain ⟨hk0, hk⟩ := hk
          refine zz_callV (va_runV (As := [.int a1]) (rest := [.int 120]) ⟨hx, hb, hml, hown, hg⟩ (c_Te_nameOf l D ty h px sa σ a1 hk0) ⟨callB_of 1 hg (gw_C m_455) rfl rfl rfl (hg _ m_3) (hg _ m_492) hd_Te_nameOf ⟨Nat.le_of_ble_eq_true rfl, Nat.le_of_ble_eq_true rfl⟩, hg _ m_453, hg _ m_454⟩ (zz_preV hM hN hK hP 6 rfl rfl) rfl rfl hl.1 rfl (lv_room (Nat.le_of_ble_eq_true rfl)) d_Wr_letterOfHead_48 ⟨Nat.le_of_ble_eq_true rfl, Nat.le_of_ble_eq_true rfl⟩) ?_
          refine lv_iadd hx hb d_Wr_letterOfHead_51 ?_
          refine lv_i2c hx hb d_Wr_letterOfHead_52 rfl ?_
          obtain ⟨hk0, hk⟩ := hk
          exact W.zret hx hb hr hk0 (fun t ht hW => ⟨by rw [hv], ht⟩) (fun q h => nomatch h) d_Wr_letterOfHead_53
        · have hv := hv.trans (if_neg hc3)
          have hk := hk.2 hc3
          refine lv_tableOut (tgt := 54) hx hb d_Wr_letterOfHead_1 (by have := lv_neT hc0 (by decide : (0 : Int32).toInt = 0); have := lv_neT hc1 (by decide : (1 : Int32).toInt = 1); have := lv_neT hc2 (by decide : (2 : Int32).toInt = 2); have := lv_neT hc3 (by decide : (3 : Int32).toInt = 3); omega) (by decide) ?_
          refine lv_bipush (v := 32) hx hb d_Wr_letterOfHead_54 (by decide) ?_
          obtain ⟨hk0, hk⟩ := hk
          exact W.zret hx hb hr hk0 (fun t ht hW => ⟨by rw [hv], ht⟩) (fun q h => nomatch h) d_Wr_letterOfHead_56

-- ClauseLedger$Terms.topOf(I)I
abbrev b_Te_topOf : ByteArray := prog_11_method_10_code
def y_Te_topOf : MethodName := ⟨"ClauseLedger$Terms", "topOf", "(I)I"⟩
theorem hd_Te_topOf : y_Te_topOf.cls ≠ "java/lang/invoke/MethodHandle" ∧ y_Te_topOf.cls ≠ "java/lang/invoke/VarHandle" ∧ (parseMethodDescriptor y_Te_topOf.desc).map (fun d => d.parameters.length) = some 1 := by decide +kernel
theorem d_Te_topOf_0 : decode b_Te_topOf 0 = .ok (.aload_n 0, 1) := by decide +kernel
theorem d_Te_topOf_1 : decode b_Te_topOf 1 = .ok (.iload_n 1, 1) := by decide +kernel
theorem d_Te_topOf_2 : decode b_Te_topOf 2 = .ok (.invokevirtual 57, 3) := by decide +kernel
theorem d_Te_topOf_5 : decode b_Te_topOf 5 = .ok (.ifCond .eq 12, 3) := by decide +kernel
theorem d_Te_topOf_8 : decode b_Te_topOf 8 = .ok (.aload_n 0, 1) := by decide +kernel
theorem d_Te_topOf_9 : decode b_Te_topOf 9 = .ok (.getfield 27, 3) := by decide +kernel
theorem d_Te_topOf_12 : decode b_Te_topOf 12 = .ok (.iload_n 1, 1) := by decide +kernel
theorem d_Te_topOf_13 : decode b_Te_topOf 13 = .ok (.iaload, 1) := by decide +kernel
theorem d_Te_topOf_14 : decode b_Te_topOf 14 = .ok (.goto 4, 3) := by decide +kernel
theorem d_Te_topOf_17 : decode b_Te_topOf 17 = .ok (.iconst 0, 1) := by decide +kernel
theorem d_Te_topOf_18 : decode b_Te_topOf 18 = .ok (.ireturn, 1) := by decide +kernel
def f_Te_topOf_18 (s0 : Int32) (σ : St) : Int32 := s0
def k_Te_topOf_18 (s0 : Int32) (σ : St) : Prop := True
def f_Te_topOf (a1 : Int32) (σ : St) : Int32 := if (f_Te_has a1 σ) = 0 then (f_Te_topOf_18 0 σ) else (f_Te_topOf_18 (σ.1 12 a1.toNatClampNeg) σ)
def k_Te_topOf (a1 : Int32) (σ : St) : Prop := (k_Te_has a1 σ) ∧ (((f_Te_has a1 σ) = 0 → (k_Te_topOf_18 0 σ)) ∧ (¬ (f_Te_has a1 σ) = 0 → (vp_in a1 208 ∧ (k_Te_topOf_18 (σ.1 12 a1.toNatClampNeg) σ))))
abbrev w_Te_topOf : List Cond := Cond.code y_Te_topOf b_Te_topOf 2 (some .int) :: gw
abbrev rm_Te_topOf : Room := { frames := 1, cells := 0, slots := 0, locals := 21 }
set_option maxHeartbeats 4000000 in
set_option maxRecDepth 100000 in
theorem c_Te_topOf (l : Launch) (D : va_G) (ty : Nat → ClassId) (h : Nat → Nat) (px : va_W) (sa : Nat → Nat) (σ : St) (a1 : Int32) (hk : k_Te_topOf a1 σ) : Met l y_Te_topOf w_Te_topOf rm_Te_topOf (va_Pc [.ref (h 6), .int a1] (fun U => va_P D classes (Wc ty h σ px) U.heap ∧ va_K D classes (Ta ty) U ∧ NW U ∧ MK sa (fun _ => False) U U.heap)) (k2_QcV (.int (f_Te_topOf a1 σ))) 0 0 (fun _ => False) := by
  refine Met.ofW (cc := b_Te_topOf) (maxL := 2) (ret := (some .int)) (by decide) rfl ?_
  intro p e s m args below meth c s₁ B hml hv
  obtain ⟨ha, hP, hK, hN, hM⟩ := hv
  have hx := B.exec
  have hb := B.bytes
  have hr := B.returns
  have hg : ∀ w ∈ gw, w.before args s = true := fun w h9 => atoms_spec (ws := w_Te_topOf) B.pre w (List.mem_cons_of_mem _ h9)
  have hown : s.vm.findClass "ClauseLedger$Terms" = some m.cls := findClass_of_methodNamed B.named
  have hlocks := B.notSynchronized
  have he : entryFrame m args 2 = entryFrame m ([.ref (h 6), .int a1] : List Value).toArray 2 := by rw [ha]
  rw [he, lg_entry_eq]
  have hl := lv_entry ([.ref (h 6), .int a1]) (n := 2) (Nat.le_of_ble_eq_true rfl)
  generalize (lg_sl ([.ref (h 6), .int a1]) ++ List.replicate (2 - (lg_sl ([.ref (h 6), .int a1])).length) Slot.unset).toArray = ls at hl ⊢
  have hl : lv_has ls 2 [(0, .ref (h 6)), (1, .int a1)] := hl
  generalize hv : f_Te_topOf a1 σ = v
  replace hv := hv.symm
  have B18 : ∀ (ls : Array Slot) (s0 : Int32), v = f_Te_topOf_18 s0 σ → k_Te_topOf_18 s0 σ → lv_has ls 2 [] → W p l e (headSpec w_Te_topOf rm_Te_topOf).room s m args below meth c s.heap [] 0 0 (MQ below (k2_QcV (.int v)) args s 0 0 (fun _ => False)) (F0 m 18 ls [.int s0]) := by
    intro ls s0 hv hk hl
    unfold f_Te_topOf_18 at hv
    unfold k_Te_topOf_18 at hk
    exact W.iret hx hb hr (fun t ht hW => ⟨by rw [hv], ht⟩) (fun q h => nomatch h) d_Te_topOf_18
  unfold f_Te_topOf at hv
  unfold k_Te_topOf at hk
  refine lv_aload_n hx hb d_Te_topOf_0 rfl (lv_at hl 0 rfl) ?_
  refine lv_iload_n hx hb d_Te_topOf_1 rfl (lv_at hl 1 rfl) ?_
  obtain ⟨hk0, hk⟩ := hk
  refine zz_callV (va_runV (As := [.int a1]) (rest := []) ⟨hx, hb, hml, hown, hg⟩ (c_Te_has l D ty h px sa σ a1 hk0) ⟨callB_of 1 hg (gw_C m_430) rfl rfl rfl (hg _ m_3) (hg _ m_435) hd_Te_has ⟨Nat.le_of_ble_eq_true rfl, Nat.le_of_ble_eq_true rfl⟩, hg _ m_428, hg _ m_429⟩ (zz_preV hM hN hK hP 6 rfl rfl) rfl rfl hl.1 rfl (lv_room (Nat.le_of_ble_eq_true rfl)) d_Te_topOf_2 ⟨Nat.le_of_ble_eq_true rfl, Nat.le_of_ble_eq_true rfl⟩) ?_
  refine lv_if_eq (tgt := 17) hx hb d_Te_topOf_5 (by decide) (fun hc => ?_) (fun hc => ?_)
  · have hv := hv.trans (if_pos hc)
    have hk := hk.1 hc
    refine lv_iconst (v := 0) hx hb d_Te_topOf_17 (by decide) ?_
    exact B18 _ 0 hv hk (lv_sub hl [] rfl)
  · have hv := hv.trans (if_neg hc)
    have hk := hk.2 hc
    refine lv_aload_n hx hb d_Te_topOf_8 rfl (lv_at hl 0 rfl) ?_
    refine va_get (v := .ref (h 12)) (C := R_Te) (T := T_Te) (N := 14) hx hb hg in_Te hown hK hP 6 rfl rfl 5 (by decide) (hg _ m_74) (fun _ h9 => h9) rfl d_Te_topOf_9 ?_
    refine lv_iload_n hx hb d_Te_topOf_12 rfl (lv_at hl 1 rfl) ?_
    obtain ⟨hk0, hk⟩ := hk
    refine va_iald hx hb hK hP 12 0 rfl rfl hk0 d_Te_topOf_13 ?_
    refine lv_goto (tgt := 18) hx hb d_Te_topOf_14 (by decide) ?_
    exact B18 _ (σ.1 12 a1.toNatClampNeg) hv hk (lv_sub hl [] rfl)

-- ClauseLedger$Terms.bottomOf(I)I
abbrev b_Te_bottomOf : ByteArray := prog_11_method_11_code
def y_Te_bottomOf : MethodName := ⟨"ClauseLedger$Terms", "bottomOf", "(I)I"⟩
theorem hd_Te_bottomOf : y_Te_bottomOf.cls ≠ "java/lang/invoke/MethodHandle" ∧ y_Te_bottomOf.cls ≠ "java/lang/invoke/VarHandle" ∧ (parseMethodDescriptor y_Te_bottomOf.desc).map (fun d => d.parameters.length) = some 1 := by decide +kernel
theorem d_Te_bottomOf_0 : decode b_Te_bottomOf 0 = .ok (.aload_n 0, 1) := by decide +kernel
theorem d_Te_bottomOf_1 : decode b_Te_bottomOf 1 = .ok (.iload_n 1, 1) := by decide +kernel
theorem d_Te_bottomOf_2 : decode b_Te_bottomOf 2 = .ok (.invokevirtual 57, 3) := by decide +kernel
theorem d_Te_bottomOf_5 : decode b_Te_bottomOf 5 = .ok (.ifCond .eq 12, 3) := by decide +kernel
theorem d_Te_bottomOf_8 : decode b_Te_bottomOf 8 = .ok (.aload_n 0, 1) := by decide +kernel
theorem d_Te_bottomOf_9 : decode b_Te_bottomOf 9 = .ok (.getfield 30, 3) := by decide +kernel
theorem d_Te_bottomOf_12 : decode b_Te_bottomOf 12 = .ok (.iload_n 1, 1) := by decide +kernel
theorem d_Te_bottomOf_13 : decode b_Te_bottomOf 13 = .ok (.iaload, 1) := by decide +kernel
theorem d_Te_bottomOf_14 : decode b_Te_bottomOf 14 = .ok (.goto 4, 3) := by decide +kernel
theorem d_Te_bottomOf_17 : decode b_Te_bottomOf 17 = .ok (.iconst 1, 1) := by decide +kernel
theorem d_Te_bottomOf_18 : decode b_Te_bottomOf 18 = .ok (.ireturn, 1) := by decide +kernel
def f_Te_bottomOf_18 (s0 : Int32) (σ : St) : Int32 := s0
def k_Te_bottomOf_18 (s0 : Int32) (σ : St) : Prop := True
def f_Te_bottomOf (a1 : Int32) (σ : St) : Int32 := if (f_Te_has a1 σ) = 0 then (f_Te_bottomOf_18 1 σ) else (f_Te_bottomOf_18 (σ.1 13 a1.toNatClampNeg) σ)
def k_Te_bottomOf (a1 : Int32) (σ : St) : Prop := (k_Te_has a1 σ) ∧ (((f_Te_has a1 σ) = 0 → (k_Te_bottomOf_18 1 σ)) ∧ (¬ (f_Te_has a1 σ) = 0 → (vp_in a1 208 ∧ (k_Te_bottomOf_18 (σ.1 13 a1.toNatClampNeg) σ))))
abbrev w_Te_bottomOf : List Cond := Cond.code y_Te_bottomOf b_Te_bottomOf 2 (some .int) :: gw
abbrev rm_Te_bottomOf : Room := { frames := 1, cells := 0, slots := 0, locals := 21 }
set_option maxHeartbeats 4000000 in
set_option maxRecDepth 100000 in
theorem c_Te_bottomOf (l : Launch) (D : va_G) (ty : Nat → ClassId) (h : Nat → Nat) (px : va_W) (sa : Nat → Nat) (σ : St) (a1 : Int32) (hk : k_Te_bottomOf a1 σ) : Met l y_Te_bottomOf w_Te_bottomOf rm_Te_bottomOf (va_Pc [.ref (h 6), .int a1] (fun U => va_P D classes (Wc ty h σ px) U.heap ∧ va_K D classes (Ta ty) U ∧ NW U ∧ MK sa (fun _ => False) U U.heap)) (k2_QcV (.int (f_Te_bottomOf a1 σ))) 0 0 (fun _ => False) := by
  refine Met.ofW (cc := b_Te_bottomOf) (maxL := 2) (ret := (some .int)) (by decide) rfl ?_
  intro p e s m args below meth c s₁ B hml hv
  obtain ⟨ha, hP, hK, hN, hM⟩ := hv
  have hx := B.exec
  have hb := B.bytes
  have hr := B.returns
  have hg : ∀ w ∈ gw, w.before args s = true := fun w h9 => atoms_spec (ws := w_Te_bottomOf) B.pre w (List.mem_cons_of_mem _ h9)
  have hown : s.vm.findClass "ClauseLedger$Terms" = some m.cls := findClass_of_methodNamed B.named
  have hlocks := B.notSynchronized
  have he : entryFrame m args 2 = entryFrame m ([.ref (h 6), .int a1] : List Value).toArray 2 := by rw [ha]
  rw [he, lg_entry_eq]
  have hl := lv_entry ([.ref (h 6), .int a1]) (n := 2) (Nat.le_of_ble_eq_true rfl)
  generalize (lg_sl ([.ref (h 6), .int a1]) ++ List.replicate (2 - (lg_sl ([.ref (h 6), .int a1])).length) Slot.unset).toArray = ls at hl ⊢
  have hl : lv_has ls 2 [(0, .ref (h 6)), (1, .int a1)] := hl
  generalize hv : f_Te_bottomOf a1 σ = v
  replace hv := hv.symm
  have B18 : ∀ (ls : Array Slot) (s0 : Int32), v = f_Te_bottomOf_18 s0 σ → k_Te_bottomOf_18 s0 σ → lv_has ls 2 [] → W p l e (headSpec w_Te_bottomOf rm_Te_bottomOf).room s m args below meth c s.heap [] 0 0 (MQ below (k2_QcV (.int v)) args s 0 0 (fun _ => False)) (F0 m 18 ls [.int s0]) := by
    intro ls s0 hv hk hl
    unfold f_Te_bottomOf_18 at hv
    unfold k_Te_bottomOf_18 at hk
    exact W.iret hx hb hr (fun t ht hW => ⟨by rw [hv], ht⟩) (fun q h => nomatch h) d_Te_bottomOf_18
  unfold f_Te_bottomOf at hv
  unfold k_Te_bottomOf at hk
  refine lv_aload_n hx hb d_Te_bottomOf_0 rfl (lv_at hl 0 rfl) ?_
  refine lv_iload_n hx hb d_Te_bottomOf_1 rfl (lv_at hl 1 rfl) ?_
  obtain ⟨hk0, hk⟩ := hk
  refine zz_callV (va_runV (As := [.int a1]) (rest := []) ⟨hx, hb, hml, hown, hg⟩ (c_Te_has l D ty h px sa σ a1 hk0) ⟨callB_of 1 hg (gw_C m_430) rfl rfl rfl (hg _ m_3) (hg _ m_435) hd_Te_has ⟨Nat.le_of_ble_eq_true rfl, Nat.le_of_ble_eq_true rfl⟩, hg _ m_428, hg _ m_429⟩ (zz_preV hM hN hK hP 6 rfl rfl) rfl rfl hl.1 rfl (lv_room (Nat.le_of_ble_eq_true rfl)) d_Te_bottomOf_2 ⟨Nat.le_of_ble_eq_true rfl, Nat.le_of_ble_eq_true rfl⟩) ?_
  refine lv_if_eq (tgt := 17) hx hb d_Te_bottomOf_5 (by decide) (fun hc => ?_) (fun hc => ?_)
  · have hv := hv.trans (if_pos hc)
    have hk := hk.1 hc
    refine lv_iconst (v := 1) hx hb d_Te_bottomOf_17 (by decide) ?_
    exact B18 _ 1 hv hk (lv_sub hl [] rfl)
  · have hv := hv.trans (if_neg hc)
    have hk := hk.2 hc
    refine lv_aload_n hx hb d_Te_bottomOf_8 rfl (lv_at hl 0 rfl) ?_
    refine va_get (v := .ref (h 13)) (C := R_Te) (T := T_Te) (N := 14) hx hb hg in_Te hown hK hP 6 rfl rfl 6 (by decide) (hg _ m_75) (fun _ h9 => h9) rfl d_Te_bottomOf_9 ?_
    refine lv_iload_n hx hb d_Te_bottomOf_12 rfl (lv_at hl 1 rfl) ?_
    obtain ⟨hk0, hk⟩ := hk
    refine va_iald hx hb hK hP 13 0 rfl rfl hk0 d_Te_bottomOf_13 ?_
    refine lv_goto (tgt := 18) hx hb d_Te_bottomOf_14 (by decide) ?_
    exact B18 _ (σ.1 13 a1.toNatClampNeg) hv hk (lv_sub hl [] rfl)

-- ClauseLedger$Writer.digit(II)C
abbrev b_Wr_digit : ByteArray := prog_12_method_11_code
def y_Wr_digit : MethodName := ⟨"ClauseLedger$Writer", "digit", "(II)C"⟩
theorem hd_Wr_digit : y_Wr_digit.cls ≠ "java/lang/invoke/MethodHandle" ∧ y_Wr_digit.cls ≠ "java/lang/invoke/VarHandle" ∧ (parseMethodDescriptor y_Wr_digit.desc).map (fun d => d.parameters.length) = some 2 := by decide +kernel
theorem d_Wr_digit_0 : decode b_Wr_digit 0 = .ok (.iload_n 0, 1) := by decide +kernel
theorem d_Wr_digit_1 : decode b_Wr_digit 1 = .ok (.istore_n 2, 1) := by decide +kernel
theorem d_Wr_digit_2 : decode b_Wr_digit 2 = .ok (.iconst 0, 1) := by decide +kernel
theorem d_Wr_digit_3 : decode b_Wr_digit 3 = .ok (.istore_n 3, 1) := by decide +kernel
theorem d_Wr_digit_4 : decode b_Wr_digit 4 = .ok (.iload_n 3, 1) := by decide +kernel
theorem d_Wr_digit_5 : decode b_Wr_digit 5 = .ok (.iload_n 1, 1) := by decide +kernel
theorem d_Wr_digit_6 : decode b_Wr_digit 6 = .ok (.if_icmp .ge 14, 3) := by decide +kernel
theorem d_Wr_digit_9 : decode b_Wr_digit 9 = .ok (.iload_n 2, 1) := by decide +kernel
theorem d_Wr_digit_10 : decode b_Wr_digit 10 = .ok (.bipush 10, 2) := by decide +kernel
theorem d_Wr_digit_12 : decode b_Wr_digit 12 = .ok (.idiv, 1) := by decide +kernel
theorem d_Wr_digit_13 : decode b_Wr_digit 13 = .ok (.istore_n 2, 1) := by decide +kernel
theorem d_Wr_digit_14 : decode b_Wr_digit 14 = .ok (.iinc 3 1, 3) := by decide +kernel
theorem d_Wr_digit_17 : decode b_Wr_digit 17 = .ok (.goto (-13), 3) := by decide +kernel
theorem d_Wr_digit_20 : decode b_Wr_digit 20 = .ok (.bipush 48, 2) := by decide +kernel
theorem d_Wr_digit_22 : decode b_Wr_digit 22 = .ok (.iload_n 2, 1) := by decide +kernel
theorem d_Wr_digit_23 : decode b_Wr_digit 23 = .ok (.bipush 10, 2) := by decide +kernel
theorem d_Wr_digit_25 : decode b_Wr_digit 25 = .ok (.irem, 1) := by decide +kernel
theorem d_Wr_digit_26 : decode b_Wr_digit 26 = .ok (.iadd, 1) := by decide +kernel
theorem d_Wr_digit_27 : decode b_Wr_digit 27 = .ok (.i2c, 1) := by decide +kernel
theorem d_Wr_digit_28 : decode b_Wr_digit 28 = .ok (.ireturn, 1) := by decide +kernel
def f_Wr_digit_14 (F4 : (Int32 → Int32 → Int32 → St → Int32)) (x1 : Int32) (x2 : Int32) (x3 : Int32) (σ : St) : Int32 := F4 x1 x2 (x3 + 1) σ
def k_Wr_digit_14 (K4 : (Int32 → Int32 → Int32 → St → Prop)) (x1 : Int32) (x2 : Int32) (x3 : Int32) (σ : St) : Prop := K4 x1 x2 (x3 + 1) σ
def f_Wr_digit_4 : Nat → Int32 → Int32 → Int32 → St → Int32
  | 0, _, _, _, σ => 0
  | n + 1, x1, x2, x3, σ => if x1 ≤ x3 then (((48 + (x2 - x2 / 10 * 10)).toUInt32 % 65536).toInt32) else (f_Wr_digit_14 (f_Wr_digit_4 n) x1 (x2 / 10) x3 σ)
def k_Wr_digit_4 : Nat → Int32 → Int32 → Int32 → St → Prop
  | 0, _, _, _, _ => False
  | n + 1, x1, x2, x3, σ => (x1 ≤ x3 → ((¬ (10 : Int32) = 0) ∧ ((narrow .char (.int (((48 + (x2 - x2 / 10 * 10)).toUInt32 % 65536).toInt32)) = .int (((48 + (x2 - x2 / 10 * 10)).toUInt32 % 65536).toInt32)) ∧ True))) ∧ (¬ x1 ≤ x3 → ((¬ (10 : Int32) = 0) ∧ (k_Wr_digit_14 (k_Wr_digit_4 n) x1 (x2 / 10) x3 σ)))
def f_Wr_digit (a0 : Int32) (a1 : Int32) (σ : St) : Int32 := f_Wr_digit_4 1000 a1 a0 0 σ
def k_Wr_digit (a0 : Int32) (a1 : Int32) (σ : St) : Prop := k_Wr_digit_4 1000 a1 a0 0 σ
abbrev w_Wr_digit : List Cond := Cond.code y_Wr_digit b_Wr_digit 4 (some .char) :: gw
abbrev rm_Wr_digit : Room := { frames := 0, cells := 0, slots := 0, locals := 0 }
set_option maxHeartbeats 4000000 in
set_option maxRecDepth 100000 in
theorem c_Wr_digit (l : Launch) (D : va_G) (ty : Nat → ClassId) (h : Nat → Nat) (px : va_W) (sa : Nat → Nat) (σ : St) (a0 : Int32) (a1 : Int32) (hk : k_Wr_digit a0 a1 σ) : Met l y_Wr_digit w_Wr_digit rm_Wr_digit (va_Pc [.int a0, .int a1] (fun U => va_P D classes (Wc ty h σ px) U.heap ∧ va_K D classes (Ta ty) U ∧ NW U ∧ MK sa (fun _ => False) U U.heap)) (k2_QcV (.int (f_Wr_digit a0 a1 σ))) 0 0 (fun _ => False) := by
  refine Met.ofW (cc := b_Wr_digit) (maxL := 4) (ret := (some .char)) (by decide) rfl ?_
  intro p e s m args below meth c s₁ B hml hv
  obtain ⟨ha, hP, hK, hN, hM⟩ := hv
  have hx := B.exec
  have hb := B.bytes
  have hr := B.returns
  have hg : ∀ w ∈ gw, w.before args s = true := fun w h9 => atoms_spec (ws := w_Wr_digit) B.pre w (List.mem_cons_of_mem _ h9)
  have hown : s.vm.findClass "ClauseLedger$Writer" = some m.cls := findClass_of_methodNamed B.named
  have hlocks := B.notSynchronized
  have he : entryFrame m args 4 = entryFrame m ([.int a0, .int a1] : List Value).toArray 4 := by rw [ha]
  rw [he, lg_entry_eq]
  have hl := lv_entry ([.int a0, .int a1]) (n := 4) (Nat.le_of_ble_eq_true rfl)
  generalize (lg_sl ([.int a0, .int a1]) ++ List.replicate (4 - (lg_sl ([.int a0, .int a1])).length) Slot.unset).toArray = ls at hl ⊢
  have hl : lv_has ls 4 [(0, .int a0), (1, .int a1)] := hl
  generalize hv : f_Wr_digit a0 a1 σ = v
  replace hv := hv.symm
  have B4 : ∀ (n4 : Nat) (ls : Array Slot) (x1 : Int32) (x2 : Int32) (x3 : Int32), v = f_Wr_digit_4 n4 x1 x2 x3 σ → k_Wr_digit_4 n4 x1 x2 x3 σ → lv_has ls 4 [(1, .int x1), (2, .int x2), (3, .int x3)] → W p l e (headSpec w_Wr_digit rm_Wr_digit).room s m args below meth c s.heap [] 0 0 (MQ below (k2_QcV (.int v)) args s 0 0 (fun _ => False)) (F0 m 4 ls []) := by
    intro n4
    induction n4 with
    | zero => intro ls x1 x2 x3 hv hk hl; exact hk.elim
    | succ n4 ih4 =>
      have B14 : ∀ (ls : Array Slot) (x1 : Int32) (x2 : Int32) (x3 : Int32), v = f_Wr_digit_14 (f_Wr_digit_4 n4) x1 x2 x3 σ → k_Wr_digit_14 (k_Wr_digit_4 n4) x1 x2 x3 σ → lv_has ls 4 [(1, .int x1), (2, .int x2), (3, .int x3)] → W p l e (headSpec w_Wr_digit rm_Wr_digit).room s m args below meth c s.heap [] 0 0 (MQ below (k2_QcV (.int v)) args s 0 0 (fun _ => False)) (F0 m 14 ls []) := by
        intro ls x1 x2 x3 hv hk hl
        unfold f_Wr_digit_14 at hv
        unfold k_Wr_digit_14 at hk
        refine lv_iinc (k := 2) (v := x3 + 1) (lv' := [(3, .int (x3 + 1)), (1, .int x1), (2, .int x2)]) hx hb d_Wr_digit_14 hl rfl (by first | rfl | simp [lit1, litm1]) (by decide) rfl (fun ls hl => ?_)
        refine lv_goto (tgt := 4) hx hb d_Wr_digit_17 (by decide) ?_
        exact ih4 _ x1 x2 (x3 + 1) hv hk (lv_sub hl [1, 2, 0] rfl)
      intro ls x1 x2 x3 hv hk hl
      rw [f_Wr_digit_4] at hv
      rw [k_Wr_digit_4] at hk
      refine lv_iload_n hx hb d_Wr_digit_4 rfl (lv_at hl 2 rfl) ?_
      refine lv_iload_n hx hb d_Wr_digit_5 rfl (lv_at hl 0 rfl) ?_
      refine lv_icmp_ge (tgt := 20) hx hb d_Wr_digit_6 (by decide) (fun hc => ?_) (fun hc => ?_)
      · have hv := hv.trans (if_pos hc)
        have hk := hk.1 hc
        refine lv_bipush (v := 48) hx hb d_Wr_digit_20 (by decide) ?_
        refine lv_iload_n hx hb d_Wr_digit_22 rfl (lv_at hl 1 rfl) ?_
        refine lv_bipush (v := 10) hx hb d_Wr_digit_23 (by decide) ?_
        obtain ⟨hk0, hk⟩ := hk
        refine lv_irem hx hb d_Wr_digit_25 hk0 ?_
        refine lv_iadd hx hb d_Wr_digit_26 ?_
        refine lv_i2c hx hb d_Wr_digit_27 rfl ?_
        obtain ⟨hk0, hk⟩ := hk
        exact W.zret hx hb hr hk0 (fun t ht hW => ⟨by rw [hv], ht⟩) (fun q h => nomatch h) d_Wr_digit_28
      · have hv := hv.trans (if_neg hc)
        have hk := hk.2 hc
        refine lv_iload_n hx hb d_Wr_digit_9 rfl (lv_at hl 1 rfl) ?_
        refine lv_bipush (v := 10) hx hb d_Wr_digit_10 (by decide) ?_
        obtain ⟨hk0, hk⟩ := hk
        refine lv_idiv hx hb d_Wr_digit_12 hk0 ?_
        refine lv_istore_n (lv' := [(2, .int (x2 / 10)), (1, .int x1), (3, .int x3)]) hx hb d_Wr_digit_13 rfl hl (by decide) rfl (fun ls hl => ?_)
        exact B14 _ x1 (x2 / 10) x3 hv hk (lv_sub hl [1, 0, 2] rfl)
  unfold f_Wr_digit at hv
  unfold k_Wr_digit at hk
  refine lv_iload_n hx hb d_Wr_digit_0 rfl (lv_at hl 0 rfl) ?_
  refine lv_istore_n (lv' := [(2, .int a0), (0, .int a0), (1, .int a1)]) hx hb d_Wr_digit_1 rfl hl (by decide) rfl (fun ls hl => ?_)
  refine lv_iconst (v := 0) hx hb d_Wr_digit_2 (by decide) ?_
  refine lv_istore_n (lv' := [(3, .int 0), (2, .int a0), (0, .int a0), (1, .int a1)]) hx hb d_Wr_digit_3 rfl hl (by decide) rfl (fun ls hl => ?_)
  exact B4 1000 _ a1 a0 0 hv hk (lv_sub hl [3, 1, 0] rfl)

-- ClauseLedger$Writer.letterOfConstant(III)C
abbrev b_Wr_letterOfConstant : ByteArray := prog_12_method_9_code
def y_Wr_letterOfConstant : MethodName := ⟨"ClauseLedger$Writer", "letterOfConstant", "(III)C"⟩
theorem hd_Wr_letterOfConstant : y_Wr_letterOfConstant.cls ≠ "java/lang/invoke/MethodHandle" ∧ y_Wr_letterOfConstant.cls ≠ "java/lang/invoke/VarHandle" ∧ (parseMethodDescriptor y_Wr_letterOfConstant.desc).map (fun d => d.parameters.length) = some 3 := by decide +kernel
theorem d_Wr_letterOfConstant_0 : decode b_Wr_letterOfConstant 0 = .ok (.iload_n 0, 1) := by decide +kernel
theorem d_Wr_letterOfConstant_1 : decode b_Wr_letterOfConstant 1 = .ok (.ifCond .ge 7, 3) := by decide +kernel
theorem d_Wr_letterOfConstant_4 : decode b_Wr_letterOfConstant 4 = .ok (.iconst 1, 1) := by decide +kernel
theorem d_Wr_letterOfConstant_5 : decode b_Wr_letterOfConstant 5 = .ok (.goto 4, 3) := by decide +kernel
theorem d_Wr_letterOfConstant_8 : decode b_Wr_letterOfConstant 8 = .ok (.iconst 0, 1) := by decide +kernel
theorem d_Wr_letterOfConstant_9 : decode b_Wr_letterOfConstant 9 = .ok (.istore_n 3, 1) := by decide +kernel
theorem d_Wr_letterOfConstant_10 : decode b_Wr_letterOfConstant 10 = .ok (.iload_n 2, 1) := by decide +kernel
theorem d_Wr_letterOfConstant_11 : decode b_Wr_letterOfConstant 11 = .ok (.iload_n 3, 1) := by decide +kernel
theorem d_Wr_letterOfConstant_12 : decode b_Wr_letterOfConstant 12 = .ok (.if_icmp .ge 6, 3) := by decide +kernel
theorem d_Wr_letterOfConstant_15 : decode b_Wr_letterOfConstant 15 = .ok (.bipush 45, 2) := by decide +kernel
theorem d_Wr_letterOfConstant_17 : decode b_Wr_letterOfConstant 17 = .ok (.ireturn, 1) := by decide +kernel
theorem d_Wr_letterOfConstant_18 : decode b_Wr_letterOfConstant 18 = .ok (.iload_n 0, 1) := by decide +kernel
theorem d_Wr_letterOfConstant_19 : decode b_Wr_letterOfConstant 19 = .ok (.invokestatic 19, 3) := by decide +kernel
theorem d_Wr_letterOfConstant_22 : decode b_Wr_letterOfConstant 22 = .ok (.invokestatic 24, 3) := by decide +kernel
theorem d_Wr_letterOfConstant_25 : decode b_Wr_letterOfConstant 25 = .ok (.istore 4, 2) := by decide +kernel
theorem d_Wr_letterOfConstant_27 : decode b_Wr_letterOfConstant 27 = .ok (.iload_n 2, 1) := by decide +kernel
theorem d_Wr_letterOfConstant_28 : decode b_Wr_letterOfConstant 28 = .ok (.iload_n 3, 1) := by decide +kernel
theorem d_Wr_letterOfConstant_29 : decode b_Wr_letterOfConstant 29 = .ok (.isub, 1) := by decide +kernel
theorem d_Wr_letterOfConstant_30 : decode b_Wr_letterOfConstant 30 = .ok (.istore 5, 2) := by decide +kernel
theorem d_Wr_letterOfConstant_32 : decode b_Wr_letterOfConstant 32 = .ok (.iload 5, 2) := by decide +kernel
theorem d_Wr_letterOfConstant_34 : decode b_Wr_letterOfConstant 34 = .ok (.iload 4, 2) := by decide +kernel
theorem d_Wr_letterOfConstant_36 : decode b_Wr_letterOfConstant 36 = .ok (.if_icmp .ge 18, 3) := by decide +kernel
theorem d_Wr_letterOfConstant_39 : decode b_Wr_letterOfConstant 39 = .ok (.iload_n 0, 1) := by decide +kernel
theorem d_Wr_letterOfConstant_40 : decode b_Wr_letterOfConstant 40 = .ok (.invokestatic 19, 3) := by decide +kernel
theorem d_Wr_letterOfConstant_43 : decode b_Wr_letterOfConstant 43 = .ok (.iload 4, 2) := by decide +kernel
theorem d_Wr_letterOfConstant_45 : decode b_Wr_letterOfConstant 45 = .ok (.iconst 1, 1) := by decide +kernel
theorem d_Wr_letterOfConstant_46 : decode b_Wr_letterOfConstant 46 = .ok (.isub, 1) := by decide +kernel
theorem d_Wr_letterOfConstant_47 : decode b_Wr_letterOfConstant 47 = .ok (.iload 5, 2) := by decide +kernel
theorem d_Wr_letterOfConstant_49 : decode b_Wr_letterOfConstant 49 = .ok (.isub, 1) := by decide +kernel
theorem d_Wr_letterOfConstant_50 : decode b_Wr_letterOfConstant 50 = .ok (.invokestatic 76, 3) := by decide +kernel
theorem d_Wr_letterOfConstant_53 : decode b_Wr_letterOfConstant 53 = .ok (.ireturn, 1) := by decide +kernel
theorem d_Wr_letterOfConstant_54 : decode b_Wr_letterOfConstant 54 = .ok (.iload 5, 2) := by decide +kernel
theorem d_Wr_letterOfConstant_56 : decode b_Wr_letterOfConstant 56 = .ok (.iload 4, 2) := by decide +kernel
theorem d_Wr_letterOfConstant_58 : decode b_Wr_letterOfConstant 58 = .ok (.if_icmp .ne 6, 3) := by decide +kernel
theorem d_Wr_letterOfConstant_61 : decode b_Wr_letterOfConstant 61 = .ok (.bipush 47, 2) := by decide +kernel
theorem d_Wr_letterOfConstant_63 : decode b_Wr_letterOfConstant 63 = .ok (.ireturn, 1) := by decide +kernel
theorem d_Wr_letterOfConstant_64 : decode b_Wr_letterOfConstant 64 = .ok (.iload_n 1, 1) := by decide +kernel
theorem d_Wr_letterOfConstant_65 : decode b_Wr_letterOfConstant 65 = .ok (.iload_n 1, 1) := by decide +kernel
theorem d_Wr_letterOfConstant_66 : decode b_Wr_letterOfConstant 66 = .ok (.invokestatic 24, 3) := by decide +kernel
theorem d_Wr_letterOfConstant_69 : decode b_Wr_letterOfConstant 69 = .ok (.iconst 1, 1) := by decide +kernel
theorem d_Wr_letterOfConstant_70 : decode b_Wr_letterOfConstant 70 = .ok (.isub, 1) := by decide +kernel
theorem d_Wr_letterOfConstant_71 : decode b_Wr_letterOfConstant 71 = .ok (.iload 5, 2) := by decide +kernel
theorem d_Wr_letterOfConstant_73 : decode b_Wr_letterOfConstant 73 = .ok (.iload 4, 2) := by decide +kernel
theorem d_Wr_letterOfConstant_75 : decode b_Wr_letterOfConstant 75 = .ok (.isub, 1) := by decide +kernel
theorem d_Wr_letterOfConstant_76 : decode b_Wr_letterOfConstant 76 = .ok (.iconst 1, 1) := by decide +kernel
theorem d_Wr_letterOfConstant_77 : decode b_Wr_letterOfConstant 77 = .ok (.isub, 1) := by decide +kernel
theorem d_Wr_letterOfConstant_78 : decode b_Wr_letterOfConstant 78 = .ok (.isub, 1) := by decide +kernel
theorem d_Wr_letterOfConstant_79 : decode b_Wr_letterOfConstant 79 = .ok (.invokestatic 76, 3) := by decide +kernel
theorem d_Wr_letterOfConstant_82 : decode b_Wr_letterOfConstant 82 = .ok (.ireturn, 1) := by decide +kernel
def f_Wr_letterOfConstant_32 (x0 : Int32) (x1 : Int32) (x4 : Int32) (x5 : Int32) (σ : St) : Int32 := if x4 ≤ x5 then (if x5 = x4 then 47 else (f_Wr_digit x1 (((f_Wr_digitsOf x1 σ) - 1) - ((x5 - x4) - 1)) σ)) else (f_Wr_digit (if 0 ≤ x0 then x0 else 0 - x0) ((x4 - 1) - x5) σ)
def k_Wr_letterOfConstant_32 (x0 : Int32) (x1 : Int32) (x4 : Int32) (x5 : Int32) (σ : St) : Prop := (x4 ≤ x5 → ((x5 = x4 → ((narrow .char (.int 47) = .int 47) ∧ True)) ∧ (¬ x5 = x4 → ((k_Wr_digitsOf x1 σ) ∧ ((k_Wr_digit x1 (((f_Wr_digitsOf x1 σ) - 1) - ((x5 - x4) - 1)) σ) ∧ ((narrow .char (.int (f_Wr_digit x1 (((f_Wr_digitsOf x1 σ) - 1) - ((x5 - x4) - 1)) σ)) = .int (f_Wr_digit x1 (((f_Wr_digitsOf x1 σ) - 1) - ((x5 - x4) - 1)) σ)) ∧ True)))))) ∧ (¬ x4 ≤ x5 → ((k_Wr_digit (if 0 ≤ x0 then x0 else 0 - x0) ((x4 - 1) - x5) σ) ∧ ((narrow .char (.int (f_Wr_digit (if 0 ≤ x0 then x0 else 0 - x0) ((x4 - 1) - x5) σ)) = .int (f_Wr_digit (if 0 ≤ x0 then x0 else 0 - x0) ((x4 - 1) - x5) σ)) ∧ True)))
def f_Wr_letterOfConstant_27 (x0 : Int32) (x1 : Int32) (x2 : Int32) (x3 : Int32) (x4 : Int32) (σ : St) : Int32 := f_Wr_letterOfConstant_32 x0 x1 x4 (x2 - x3) σ
def k_Wr_letterOfConstant_27 (x0 : Int32) (x1 : Int32) (x2 : Int32) (x3 : Int32) (x4 : Int32) (σ : St) : Prop := k_Wr_letterOfConstant_32 x0 x1 x4 (x2 - x3) σ
def f_Wr_letterOfConstant_9 (x0 : Int32) (x1 : Int32) (x2 : Int32) (s0 : Int32) (σ : St) : Int32 := if s0 ≤ x2 then (f_Wr_letterOfConstant_27 x0 x1 x2 s0 (f_Wr_digitsOf (if 0 ≤ x0 then x0 else 0 - x0) σ) σ) else 45
def k_Wr_letterOfConstant_9 (x0 : Int32) (x1 : Int32) (x2 : Int32) (s0 : Int32) (σ : St) : Prop := (s0 ≤ x2 → ((k_Wr_digitsOf (if 0 ≤ x0 then x0 else 0 - x0) σ) ∧ (k_Wr_letterOfConstant_27 x0 x1 x2 s0 (f_Wr_digitsOf (if 0 ≤ x0 then x0 else 0 - x0) σ) σ))) ∧ (¬ s0 ≤ x2 → ((narrow .char (.int 45) = .int 45) ∧ True))
def f_Wr_letterOfConstant (a0 : Int32) (a1 : Int32) (a2 : Int32) (σ : St) : Int32 := if 0 ≤ a0 then (f_Wr_letterOfConstant_9 a0 a1 a2 0 σ) else (f_Wr_letterOfConstant_9 a0 a1 a2 1 σ)
def k_Wr_letterOfConstant (a0 : Int32) (a1 : Int32) (a2 : Int32) (σ : St) : Prop := (0 ≤ a0 → (k_Wr_letterOfConstant_9 a0 a1 a2 0 σ)) ∧ (¬ 0 ≤ a0 → (k_Wr_letterOfConstant_9 a0 a1 a2 1 σ))
abbrev w_Wr_letterOfConstant : List Cond := Cond.code y_Wr_letterOfConstant b_Wr_letterOfConstant 6 (some .char) :: gw
abbrev rm_Wr_letterOfConstant : Room := { frames := 1, cells := 0, slots := 0, locals := 23 }
set_option maxHeartbeats 4000000 in
set_option maxRecDepth 100000 in
theorem c_Wr_letterOfConstant (l : Launch) (D : va_G) (ty : Nat → ClassId) (h : Nat → Nat) (px : va_W) (sa : Nat → Nat) (σ : St) (a0 : Int32) (a1 : Int32) (a2 : Int32) (hk : k_Wr_letterOfConstant a0 a1 a2 σ) : Met l y_Wr_letterOfConstant w_Wr_letterOfConstant rm_Wr_letterOfConstant (va_Pc [.int a0, .int a1, .int a2] (fun U => va_P D classes (Wc ty h σ px) U.heap ∧ va_K D classes (Ta ty) U ∧ NW U ∧ MK sa (fun _ => False) U U.heap)) (k2_QcV (.int (f_Wr_letterOfConstant a0 a1 a2 σ))) 0 0 (fun _ => False) := by
  refine Met.ofW (cc := b_Wr_letterOfConstant) (maxL := 6) (ret := (some .char)) (by decide) rfl ?_
  intro p e s m args below meth c s₁ B hml hv
  obtain ⟨ha, hP, hK, hN, hM⟩ := hv
  have hx := B.exec
  have hb := B.bytes
  have hr := B.returns
  have hg : ∀ w ∈ gw, w.before args s = true := fun w h9 => atoms_spec (ws := w_Wr_letterOfConstant) B.pre w (List.mem_cons_of_mem _ h9)
  have hown : s.vm.findClass "ClauseLedger$Writer" = some m.cls := findClass_of_methodNamed B.named
  have hlocks := B.notSynchronized
  have he : entryFrame m args 6 = entryFrame m ([.int a0, .int a1, .int a2] : List Value).toArray 6 := by rw [ha]
  rw [he, lg_entry_eq]
  have hl := lv_entry ([.int a0, .int a1, .int a2]) (n := 6) (Nat.le_of_ble_eq_true rfl)
  generalize (lg_sl ([.int a0, .int a1, .int a2]) ++ List.replicate (6 - (lg_sl ([.int a0, .int a1, .int a2])).length) Slot.unset).toArray = ls at hl ⊢
  have hl : lv_has ls 6 [(0, .int a0), (1, .int a1), (2, .int a2)] := hl
  generalize hv : f_Wr_letterOfConstant a0 a1 a2 σ = v
  replace hv := hv.symm
  have B32 : ∀ (ls : Array Slot) (x0 : Int32) (x1 : Int32) (x4 : Int32) (x5 : Int32), v = f_Wr_letterOfConstant_32 x0 x1 x4 x5 σ → k_Wr_letterOfConstant_32 x0 x1 x4 x5 σ → lv_has ls 6 [(0, .int x0), (1, .int x1), (4, .int x4), (5, .int x5)] → W p l e (headSpec w_Wr_letterOfConstant rm_Wr_letterOfConstant).room s m args below meth c s.heap [] 0 0 (MQ below (k2_QcV (.int v)) args s 0 0 (fun _ => False)) (F0 m 32 ls []) := by
    intro ls x0 x1 x4 x5 hv hk hl
    unfold f_Wr_letterOfConstant_32 at hv
    unfold k_Wr_letterOfConstant_32 at hk
    refine lv_iload hx hb d_Wr_letterOfConstant_32 (lv_at hl 3 rfl) ?_
    refine lv_iload hx hb d_Wr_letterOfConstant_34 (lv_at hl 2 rfl) ?_
    refine lv_icmp_ge (tgt := 54) hx hb d_Wr_letterOfConstant_36 (by decide) (fun hc => ?_) (fun hc => ?_)
    · have hv := hv.trans (if_pos hc)
      have hk := hk.1 hc
      refine lv_iload hx hb d_Wr_letterOfConstant_54 (lv_at hl 3 rfl) ?_
      refine lv_iload hx hb d_Wr_letterOfConstant_56 (lv_at hl 2 rfl) ?_
      refine lv_icmp_ne (tgt := 64) hx hb d_Wr_letterOfConstant_58 (by decide) (fun hc => ?_) (fun hc => ?_)
      · have hv := hv.trans (if_neg hc)
        have hk := hk.2 hc
        refine lv_iload_n hx hb d_Wr_letterOfConstant_64 rfl (lv_at hl 1 rfl) ?_
        refine lv_iload_n hx hb d_Wr_letterOfConstant_65 rfl (lv_at hl 1 rfl) ?_
        obtain ⟨hk0, hk⟩ := hk
        refine zz_callV (va_runS (As := [.int x1]) (rest := [.int x1]) ⟨hx, hb, hml, hown, hg⟩ (c_Wr_digitsOf l D ty h px sa σ x1 hk0) ⟨callB_of 1 hg (gw_C m_553) rfl rfl rfl (hg _ m_6) (hg _ m_551) hd_Wr_digitsOf ⟨Nat.le_of_ble_eq_true rfl, Nat.le_of_ble_eq_true rfl⟩, hg _ m_552⟩ (zz_preS hM hN hK hP) rfl rfl hl.1 rfl (lv_room (Nat.le_of_ble_eq_true rfl)) d_Wr_letterOfConstant_66 ⟨Nat.le_of_ble_eq_true rfl, Nat.le_of_ble_eq_true rfl⟩) ?_
        refine lv_iconst (v := 1) hx hb d_Wr_letterOfConstant_69 (by decide) ?_
        refine lv_isub hx hb d_Wr_letterOfConstant_70 ?_
        refine lv_iload hx hb d_Wr_letterOfConstant_71 (lv_at hl 3 rfl) ?_
        refine lv_iload hx hb d_Wr_letterOfConstant_73 (lv_at hl 2 rfl) ?_
        refine lv_isub hx hb d_Wr_letterOfConstant_75 ?_
        refine lv_iconst (v := 1) hx hb d_Wr_letterOfConstant_76 (by decide) ?_
        refine lv_isub hx hb d_Wr_letterOfConstant_77 ?_
        refine lv_isub hx hb d_Wr_letterOfConstant_78 ?_
        obtain ⟨hk0, hk⟩ := hk
        refine zz_callV (va_runS (As := [.int x1, .int (((f_Wr_digitsOf x1 σ) - 1) - ((x5 - x4) - 1))]) (rest := []) ⟨hx, hb, hml, hown, hg⟩ (c_Wr_digit l D ty h px sa σ x1 (((f_Wr_digitsOf x1 σ) - 1) - ((x5 - x4) - 1)) hk0) ⟨callB_of 2 hg (gw_C m_556) rfl rfl rfl (hg _ m_6) (hg _ m_554) hd_Wr_digit ⟨Nat.le_of_ble_eq_true rfl, Nat.le_of_ble_eq_true rfl⟩, hg _ m_555⟩ (zz_preS hM hN hK hP) rfl rfl hl.1 rfl (lv_room (Nat.le_of_ble_eq_true rfl)) d_Wr_letterOfConstant_79 ⟨Nat.le_of_ble_eq_true rfl, Nat.le_of_ble_eq_true rfl⟩) ?_
        obtain ⟨hk0, hk⟩ := hk
        exact W.zret hx hb hr hk0 (fun t ht hW => ⟨by rw [hv], ht⟩) (fun q h => nomatch h) d_Wr_letterOfConstant_82
      · have hv := hv.trans (if_pos hc)
        have hk := hk.1 hc
        refine lv_bipush (v := 47) hx hb d_Wr_letterOfConstant_61 (by decide) ?_
        obtain ⟨hk0, hk⟩ := hk
        exact W.zret hx hb hr hk0 (fun t ht hW => ⟨by rw [hv], ht⟩) (fun q h => nomatch h) d_Wr_letterOfConstant_63
    · have hv := hv.trans (if_neg hc)
      have hk := hk.2 hc
      refine lv_iload_n hx hb d_Wr_letterOfConstant_39 rfl (lv_at hl 0 rfl) ?_
      refine va_mabs hx hb (hml.trans hl.1.symm) hown (hg _ m_548) (hg _ m_549) (hg _ m_14) (hg _ m_550) (Nat.le_of_ble_eq_true rfl) (Nat.le_of_ble_eq_true rfl) (Nat.le_of_ble_eq_true rfl) (Nat.le_of_ble_eq_true rfl) d_Wr_letterOfConstant_40 ?_
      refine lv_iload hx hb d_Wr_letterOfConstant_43 (lv_at hl 2 rfl) ?_
      refine lv_iconst (v := 1) hx hb d_Wr_letterOfConstant_45 (by decide) ?_
      refine lv_isub hx hb d_Wr_letterOfConstant_46 ?_
      refine lv_iload hx hb d_Wr_letterOfConstant_47 (lv_at hl 3 rfl) ?_
      refine lv_isub hx hb d_Wr_letterOfConstant_49 ?_
      obtain ⟨hk0, hk⟩ := hk
      refine zz_callV (va_runS (As := [.int (if 0 ≤ x0 then x0 else 0 - x0), .int ((x4 - 1) - x5)]) (rest := []) ⟨hx, hb, hml, hown, hg⟩ (c_Wr_digit l D ty h px sa σ (if 0 ≤ x0 then x0 else 0 - x0) ((x4 - 1) - x5) hk0) ⟨callB_of 2 hg (gw_C m_556) rfl rfl rfl (hg _ m_6) (hg _ m_554) hd_Wr_digit ⟨Nat.le_of_ble_eq_true rfl, Nat.le_of_ble_eq_true rfl⟩, hg _ m_555⟩ (zz_preS hM hN hK hP) rfl rfl hl.1 rfl (lv_room (Nat.le_of_ble_eq_true rfl)) d_Wr_letterOfConstant_50 ⟨Nat.le_of_ble_eq_true rfl, Nat.le_of_ble_eq_true rfl⟩) ?_
      obtain ⟨hk0, hk⟩ := hk
      exact W.zret hx hb hr hk0 (fun t ht hW => ⟨by rw [hv], ht⟩) (fun q h => nomatch h) d_Wr_letterOfConstant_53
  have B27 : ∀ (ls : Array Slot) (x0 : Int32) (x1 : Int32) (x2 : Int32) (x3 : Int32) (x4 : Int32), v = f_Wr_letterOfConstant_27 x0 x1 x2 x3 x4 σ → k_Wr_letterOfConstant_27 x0 x1 x2 x3 x4 σ → lv_has ls 6 [(0, .int x0), (1, .int x1), (2, .int x2), (3, .int x3), (4, .int x4)] → W p l e (headSpec w_Wr_letterOfConstant rm_Wr_letterOfConstant).room s m args below meth c s.heap [] 0 0 (MQ below (k2_QcV (.int v)) args s 0 0 (fun _ => False)) (F0 m 27 ls []) := by
    intro ls x0 x1 x2 x3 x4 hv hk hl
    unfold f_Wr_letterOfConstant_27 at hv
    unfold k_Wr_letterOfConstant_27 at hk
    refine lv_iload_n hx hb d_Wr_letterOfConstant_27 rfl (lv_at hl 2 rfl) ?_
    refine lv_iload_n hx hb d_Wr_letterOfConstant_28 rfl (lv_at hl 3 rfl) ?_
    refine lv_isub hx hb d_Wr_letterOfConstant_29 ?_
    refine lv_istore (lv' := [(5, .int (x2 - x3)), (0, .int x0), (1, .int x1), (2, .int x2), (3, .int x3), (4, .int x4)]) hx hb d_Wr_letterOfConstant_30 hl (by decide) rfl (fun ls hl => ?_)
    exact B32 _ x0 x1 x4 (x2 - x3) hv hk (lv_sub hl [1, 2, 5, 0] rfl)
  have B9 : ∀ (ls : Array Slot) (x0 : Int32) (x1 : Int32) (x2 : Int32) (s0 : Int32), v = f_Wr_letterOfConstant_9 x0 x1 x2 s0 σ → k_Wr_letterOfConstant_9 x0 x1 x2 s0 σ → lv_has ls 6 [(0, .int x0), (1, .int x1), (2, .int x2)] → W p l e (headSpec w_Wr_letterOfConstant rm_Wr_letterOfConstant).room s m args below meth c s.heap [] 0 0 (MQ below (k2_QcV (.int v)) args s 0 0 (fun _ => False)) (F0 m 9 ls [.int s0]) := by
    intro ls x0 x1 x2 s0 hv hk hl
    unfold f_Wr_letterOfConstant_9 at hv
    unfold k_Wr_letterOfConstant_9 at hk
    refine lv_istore_n (lv' := [(3, .int s0), (0, .int x0), (1, .int x1), (2, .int x2)]) hx hb d_Wr_letterOfConstant_9 rfl hl (by decide) rfl (fun ls hl => ?_)
    refine lv_iload_n hx hb d_Wr_letterOfConstant_10 rfl (lv_at hl 3 rfl) ?_
    refine lv_iload_n hx hb d_Wr_letterOfConstant_11 rfl (lv_at hl 0 rfl) ?_
    refine lv_icmp_ge (tgt := 18) hx hb d_Wr_letterOfConstant_12 (by decide) (fun hc => ?_) (fun hc => ?_)
    · have hv := hv.trans (if_pos hc)
      have hk := hk.1 hc
      refine lv_iload_n hx hb d_Wr_letterOfConstant_18 rfl (lv_at hl 1 rfl) ?_
      refine va_mabs hx hb (hml.trans hl.1.symm) hown (hg _ m_548) (hg _ m_549) (hg _ m_14) (hg _ m_550) (Nat.le_of_ble_eq_true rfl) (Nat.le_of_ble_eq_true rfl) (Nat.le_of_ble_eq_true rfl) (Nat.le_of_ble_eq_true rfl) d_Wr_letterOfConstant_19 ?_
      obtain ⟨hk0, hk⟩ := hk
      refine zz_callV (va_runS (As := [.int (if 0 ≤ x0 then x0 else 0 - x0)]) (rest := []) ⟨hx, hb, hml, hown, hg⟩ (c_Wr_digitsOf l D ty h px sa σ (if 0 ≤ x0 then x0 else 0 - x0) hk0) ⟨callB_of 1 hg (gw_C m_553) rfl rfl rfl (hg _ m_6) (hg _ m_551) hd_Wr_digitsOf ⟨Nat.le_of_ble_eq_true rfl, Nat.le_of_ble_eq_true rfl⟩, hg _ m_552⟩ (zz_preS hM hN hK hP) rfl rfl hl.1 rfl (lv_room (Nat.le_of_ble_eq_true rfl)) d_Wr_letterOfConstant_22 ⟨Nat.le_of_ble_eq_true rfl, Nat.le_of_ble_eq_true rfl⟩) ?_
      refine lv_istore (lv' := [(4, .int (f_Wr_digitsOf (if 0 ≤ x0 then x0 else 0 - x0) σ)), (3, .int s0), (0, .int x0), (1, .int x1), (2, .int x2)]) hx hb d_Wr_letterOfConstant_25 hl (by decide) rfl (fun ls hl => ?_)
      exact B27 _ x0 x1 x2 s0 (f_Wr_digitsOf (if 0 ≤ x0 then x0 else 0 - x0) σ) hv hk (lv_sub hl [2, 3, 4, 1, 0] rfl)
    · have hv := hv.trans (if_neg hc)
      have hk := hk.2 hc
      refine lv_bipush (v := 45) hx hb d_Wr_letterOfConstant_15 (by decide) ?_
      obtain ⟨hk0, hk⟩ := hk
      exact W.zret hx hb hr hk0 (fun t ht hW => ⟨by rw [hv], ht⟩) (fun q h => nomatch h) d_Wr_letterOfConstant_17
  unfold f_Wr_letterOfConstant at hv
  unfold k_Wr_letterOfConstant at hk
  refine lv_iload_n hx hb d_Wr_letterOfConstant_0 rfl (lv_at hl 0 rfl) ?_
  refine lv_if_ge (tgt := 8) hx hb d_Wr_letterOfConstant_1 (by decide) (fun hc => ?_) (fun hc => ?_)
  · have hv := hv.trans (if_pos hc)
    have hk := hk.1 hc
    refine lv_iconst (v := 0) hx hb d_Wr_letterOfConstant_8 (by decide) ?_
    exact B9 _ a0 a1 a2 0 hv hk (lv_sub hl [0, 1, 2] rfl)
  · have hv := hv.trans (if_neg hc)
    have hk := hk.2 hc
    refine lv_iconst (v := 1) hx hb d_Wr_letterOfConstant_4 (by decide) ?_
    refine lv_goto (tgt := 9) hx hb d_Wr_letterOfConstant_5 (by decide) ?_
    exact B9 _ a0 a1 a2 1 hv hk (lv_sub hl [0, 1, 2] rfl)

