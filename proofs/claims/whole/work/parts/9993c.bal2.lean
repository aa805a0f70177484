-- ClauseLedger$Balance.start()V
abbrev b_Ba_start : ByteArray := prog_2_method_3_code
def y_Ba_start : MethodName := ⟨"ClauseLedger$Balance", "start", "()V"⟩
theorem hd_Ba_start : y_Ba_start.cls ≠ "java/lang/invoke/MethodHandle" ∧ y_Ba_start.cls ≠ "java/lang/invoke/VarHandle" ∧ (parseMethodDescriptor y_Ba_start.desc).map (fun d => d.parameters.length) = some 0 := by decide +kernel
theorem d_Ba_start_0 : decode b_Ba_start 0 = .ok (.aload_n 0, 1) := by decide +kernel
theorem d_Ba_start_1 : decode b_Ba_start 1 = .ok (.getfield 27, 3) := by decide +kernel
theorem d_Ba_start_4 : decode b_Ba_start 4 = .ok (.invokevirtual 51, 3) := by decide +kernel
theorem d_Ba_start_7 : decode b_Ba_start 7 = .ok (.aload_n 0, 1) := by decide +kernel
theorem d_Ba_start_8 : decode b_Ba_start 8 = .ok (.iconst 0, 1) := by decide +kernel
theorem d_Ba_start_9 : decode b_Ba_start 9 = .ok (.putfield 30, 3) := by decide +kernel
theorem d_Ba_start_12 : decode b_Ba_start 12 = .ok (.return_, 1) := by decide +kernel
abbrev w_Ba_start : List Cond := Cond.code y_Ba_start b_Ba_start 1 none :: gw
abbrev rm_Ba_start : Room := { frames := 1, cells := 0, slots := 0, locals := 60 }
set_option maxHeartbeats 4000000 in
set_option maxRecDepth 100000 in
theorem c_Ba_start (l : Launch) (D : va_G) (ty : Nat → ClassId) (h g : Nat → Nat) (px : va_W) (sa : Nat → Nat) (σ ω : St) (sz : Nat) (hg0 : h 49 = g 0) : Met l y_Ba_start w_Ba_start rm_Ba_start (va_Pc [.ref (h 24)] (fun U => U.heap.size = sz ∧ va_P D classes (Wc ty h σ (Ws ty g ω px)) U.heap ∧ va_K D classes (Ta ty) U ∧ NW U ∧ MK sa (va_A (Wc ty h σ (Ws ty g ω px)) sz) U U.heap ∧ va_D (fun _ => True) (Wc ty h σ (Ws ty g ω px)))) (va_Qv (fun u : St × St => u = (sF σ 24 5 0, f_Su_wipes ω)) (fun u t => va_P D classes (Wc ty h u.1 (Ws ty g u.2 px)) t.heap) (va_A (Wc ty h σ (Ws ty g ω px)) sz)) 0 0 (va_A (Wc ty h σ (Ws ty g ω px)) sz) := by
  refine Met.ofW (cc := b_Ba_start) (maxL := 1) (ret := none) (by decide) rfl ?_
  intro p e s m args below meth c s₁ B hml hv
  obtain ⟨ha, hsz, hP, hK, hN, hM, hD0⟩ := hv
  have hx := B.exec
  have hb := B.bytes
  have hr := B.returns
  have hg : ∀ w ∈ gw, w.before args s = true := fun w h9 => atoms_spec (ws := w_Ba_start) B.pre w (List.mem_cons_of_mem _ h9)
  have hown : s.vm.findClass "ClauseLedger$Balance" = some m.cls := findClass_of_methodNamed B.named
  have hlocks := B.notSynchronized
  subst hsz
  have hD := hD0.self (sz := s.heap.size)
  generalize hAe : va_A (Wc ty h σ (Ws ty g ω px)) s.heap.size = A at hD hM ⊢
  have hA : ∀ q : Nat, s.heap.size ≤ q → A q := fun q h9 => by rw [← hAe]; exact Or.inr h9
  have hS : va_S A s.heap s.heap [] := va_S.rf
  have he : entryFrame m args 1 = entryFrame m ([.ref (h 24)] : List Value).toArray 1 := by rw [ha]
  rw [he, lg_entry_eq]
  have hl := lv_entry ([.ref (h 24)]) (n := 1) (Nat.le_of_ble_eq_true rfl)
  generalize (lg_sl ([.ref (h 24)]) ++ List.replicate (1 - (lg_sl ([.ref (h 24)])).length) Slot.unset).toArray = ls at hl ⊢
  have hl : lv_has ls 1 [(0, .ref (h 24))] := hl
  refine lv_aload_n hx hb d_Ba_start_0 rfl (lv_at hl 0 rfl) ?_
  refine va_get (v := .ref (h 49)) (C := R_Ba) (T := T_Ba) (N := 6) hx hb hg in_Ba hown hK hP 24 rfl rfl 4 (by decide) (hg _ m_211) (fun _ h9 => h9) rfl d_Ba_start_1 ?_
  rw [hg0]
  have hPs := zp_P hP Wc_Ws
  have hDs := zp_D hD Wc_Ws
  refine va_callv (va_runV (As := []) (rest := []) ⟨hx, hb, hml, hown, hg⟩ (c_Su_wipes l D ty g (Wc ty h σ px) sa ω s.heap.size trivial) ⟨callB_of 0 hg (gw_C m_1101) rfl rfl rfl (hg _ m_9) (hg _ m_1098) hd_Su_wipes ⟨Nat.le_of_ble_eq_true rfl, Nat.le_of_ble_eq_true rfl⟩, hg _ m_1099, hg _ m_1100⟩ (zz_preVW hM hS hA hN hK hPs hDs 0 rfl rfl) rfl rfl hl.1 rfl (lv_room (Nat.le_of_ble_eq_true rfl)) d_Ba_start_4 ⟨Nat.le_of_ble_eq_true rfl, Nat.le_of_ble_eq_true rfl⟩) hS (fun q _ h => zz_free hDs hS hA q h) (zz_free hDs hS hA) (fun u4 t H locs ht hvm hp hP1 hz hk1 hS => ?_)
  rw [ht] at hP1
  have hD1 : va_D A (Ws ty g u4 (Wc ty h σ px)) := zz_D hDs rfl
  have hP := zp_P hP1 Wc_Ws.symm
  have hD := zp_D hD1 Wc_Ws.symm
  refine lv_aload_n hx hb d_Ba_start_7 rfl (lv_at hl 0 rfl) ?_
  refine lv_iconst (v := 0) hx hb d_Ba_start_8 (by decide) ?_
  refine va_put (v := .int 0) (ty := .boolean) (C := R_Ba) (T := T_Ba) (N := 6) hx hb hg in_Ba ty_Ba ok_Ba nm_Ba hown hK hP hD hS 24 rfl rfl 5 (by decide) (hg _ m_212) (fun _ h9 => h9) rfl (by decide +kernel) rfl rfl (Nat.le_of_ble_eq_true rfl) d_Ba_start_9 (fun H locs hP hD hS => ?_)
  have hP : va_P D classes (Wc ty h (sF σ 24 5 0) (Ws ty g u4 px)) H := hP
  exact W.vret hx hb hr (fun t ht hW => ⟨⟨(sF σ 24 5 0, u4), rfl, by rw [hp], by dsimp only; rw [ht]; exact hP⟩, hS.F ht⟩) hS.2.2 d_Ba_start_12

-- ClauseLedger$Balance.tooGreat()Z
abbrev b_Ba_tooGreat : ByteArray := prog_2_method_5_code
def y_Ba_tooGreat : MethodName := ⟨"ClauseLedger$Balance", "tooGreat", "()Z"⟩
theorem hd_Ba_tooGreat : y_Ba_tooGreat.cls ≠ "java/lang/invoke/MethodHandle" ∧ y_Ba_tooGreat.cls ≠ "java/lang/invoke/VarHandle" ∧ (parseMethodDescriptor y_Ba_tooGreat.desc).map (fun d => d.parameters.length) = some 0 := by decide +kernel
theorem d_Ba_tooGreat_0 : decode b_Ba_tooGreat 0 = .ok (.aload_n 0, 1) := by decide +kernel
theorem d_Ba_tooGreat_1 : decode b_Ba_tooGreat 1 = .ok (.getfield 27, 3) := by decide +kernel
theorem d_Ba_tooGreat_4 : decode b_Ba_tooGreat 4 = .ok (.invokevirtual 70, 3) := by decide +kernel
theorem d_Ba_tooGreat_7 : decode b_Ba_tooGreat 7 = .ok (.ireturn, 1) := by decide +kernel
abbrev w_Ba_tooGreat : List Cond := Cond.code y_Ba_tooGreat b_Ba_tooGreat 1 (some .boolean) :: gw
abbrev rm_Ba_tooGreat : Room := { frames := 1, cells := 0, slots := 0, locals := 60 }
set_option maxHeartbeats 4000000 in
set_option maxRecDepth 100000 in
theorem c_Ba_tooGreat (l : Launch) (D : va_G) (ty : Nat → ClassId) (h g : Nat → Nat) (px : va_W) (sa : Nat → Nat) (σ ω : St) (hg0 : h 49 = g 0) (hk : k_Su_isTooGreats ω) : Met l y_Ba_tooGreat w_Ba_tooGreat rm_Ba_tooGreat (va_Pc [.ref (h 24)] (fun U => va_P D classes (Wc ty h σ (Ws ty g ω px)) U.heap ∧ va_K D classes (Ta ty) U ∧ NW U ∧ MK sa (fun _ => False) U U.heap)) (k2_QcV (.int (ω.1 0 4))) 0 0 (fun _ => False) := by
  refine Met.ofW (cc := b_Ba_tooGreat) (maxL := 1) (ret := (some .boolean)) (by decide) rfl ?_
  intro p e s m args below meth c s₁ B hml hv
  obtain ⟨ha, hP, hK, hN, hM⟩ := hv
  have hx := B.exec
  have hb := B.bytes
  have hr := B.returns
  have hg : ∀ w ∈ gw, w.before args s = true := fun w h9 => atoms_spec (ws := w_Ba_tooGreat) B.pre w (List.mem_cons_of_mem _ h9)
  have hown : s.vm.findClass "ClauseLedger$Balance" = some m.cls := findClass_of_methodNamed B.named
  have hlocks := B.notSynchronized
  have he : entryFrame m args 1 = entryFrame m ([.ref (h 24)] : List Value).toArray 1 := by rw [ha]
  rw [he, lg_entry_eq]
  have hl := lv_entry ([.ref (h 24)]) (n := 1) (Nat.le_of_ble_eq_true rfl)
  generalize (lg_sl ([.ref (h 24)]) ++ List.replicate (1 - (lg_sl ([.ref (h 24)])).length) Slot.unset).toArray = ls at hl ⊢
  have hl : lv_has ls 1 [(0, .ref (h 24))] := hl
  refine lv_aload_n hx hb d_Ba_tooGreat_0 rfl (lv_at hl 0 rfl) ?_
  refine va_get (v := .ref (h 49)) (C := R_Ba) (T := T_Ba) (N := 6) hx hb hg in_Ba hown hK hP 24 rfl rfl 4 (by decide) (hg _ m_211) (fun _ h9 => h9) rfl d_Ba_tooGreat_1 ?_
  rw [hg0]
  have hPs := zp_P hP Wc_Ws
  refine zz_callV (va_runV (As := []) (rest := []) ⟨hx, hb, hml, hown, hg⟩ (c_Su_isTooGreats l D ty g (Wc ty h σ px) sa ω hk) ⟨callB_of 0 hg (gw_C m_1156) rfl rfl rfl (hg _ m_9) (hg _ m_1153) hd_Su_isTooGreats ⟨Nat.le_of_ble_eq_true rfl, Nat.le_of_ble_eq_true rfl⟩, hg _ m_1154, hg _ m_1155⟩ (zz_preV hM hN hK hPs 0 rfl rfl) rfl rfl hl.1 rfl (lv_room (Nat.le_of_ble_eq_true rfl)) d_Ba_tooGreat_4 ⟨Nat.le_of_ble_eq_true rfl, Nat.le_of_ble_eq_true rfl⟩) ?_
  exact W.zret hx hb hr hk.1 (fun t ht hW => ⟨rfl, ht⟩) (fun q h => nomatch h) d_Ba_tooGreat_7

-- ClauseLedger$Balance.grants()Z
abbrev b_Ba_grants : ByteArray := prog_2_method_6_code
def y_Ba_grants : MethodName := ⟨"ClauseLedger$Balance", "grants", "()Z"⟩
theorem hd_Ba_grants : y_Ba_grants.cls ≠ "java/lang/invoke/MethodHandle" ∧ y_Ba_grants.cls ≠ "java/lang/invoke/VarHandle" ∧ (parseMethodDescriptor y_Ba_grants.desc).map (fun d => d.parameters.length) = some 0 := by decide +kernel
theorem d_Ba_grants_0 : decode b_Ba_grants 0 = .ok (.aload_n 0, 1) := by decide +kernel
theorem d_Ba_grants_1 : decode b_Ba_grants 1 = .ok (.getfield 27, 3) := by decide +kernel
theorem d_Ba_grants_4 : decode b_Ba_grants 4 = .ok (.invokevirtual 74, 3) := by decide +kernel
theorem d_Ba_grants_7 : decode b_Ba_grants 7 = .ok (.istore_n 1, 1) := by decide +kernel
theorem d_Ba_grants_8 : decode b_Ba_grants 8 = .ok (.aload_n 0, 1) := by decide +kernel
theorem d_Ba_grants_9 : decode b_Ba_grants 9 = .ok (.getfield 27, 3) := by decide +kernel
theorem d_Ba_grants_12 : decode b_Ba_grants 12 = .ok (.invokevirtual 78, 3) := by decide +kernel
theorem d_Ba_grants_15 : decode b_Ba_grants 15 = .ok (.ifCond .ne 22, 3) := by decide +kernel
theorem d_Ba_grants_18 : decode b_Ba_grants 18 = .ok (.iload_n 1, 1) := by decide +kernel
theorem d_Ba_grants_19 : decode b_Ba_grants 19 = .ok (.ifCond .lt 14, 3) := by decide +kernel
theorem d_Ba_grants_22 : decode b_Ba_grants 22 = .ok (.iload_n 1, 1) := by decide +kernel
theorem d_Ba_grants_23 : decode b_Ba_grants 23 = .ok (.ifCond .ne 14, 3) := by decide +kernel
theorem d_Ba_grants_26 : decode b_Ba_grants 26 = .ok (.aload_n 0, 1) := by decide +kernel
theorem d_Ba_grants_27 : decode b_Ba_grants 27 = .ok (.getfield 30, 3) := by decide +kernel
theorem d_Ba_grants_30 : decode b_Ba_grants 30 = .ok (.ifCond .eq 7, 3) := by decide +kernel
theorem d_Ba_grants_33 : decode b_Ba_grants 33 = .ok (.iconst 1, 1) := by decide +kernel
theorem d_Ba_grants_34 : decode b_Ba_grants 34 = .ok (.goto 4, 3) := by decide +kernel
theorem d_Ba_grants_37 : decode b_Ba_grants 37 = .ok (.iconst 0, 1) := by decide +kernel
theorem d_Ba_grants_38 : decode b_Ba_grants 38 = .ok (.ireturn, 1) := by decide +kernel
abbrev w_Ba_grants : List Cond := Cond.code y_Ba_grants b_Ba_grants 2 (some .boolean) :: gw
def f_grants (ω : St) (st : Int32) : Int32 := if f_Su_hasAtoms ω = 0 then (if f_Su_signOfConstants ω < 0 then 1 else (if f_Su_signOfConstants ω = 0 then (if st = 0 then 0 else 1) else 0)) else 0
abbrev rm_Ba_grants : Room := { frames := 2, cells := 0, slots := 0, locals := 80 }
set_option maxHeartbeats 4000000 in
set_option maxRecDepth 100000 in
theorem c_Ba_grants (l : Launch) (D : va_G) (ty : Nat → ClassId) (h g : Nat → Nat) (px : va_W) (sa : Nat → Nat) (σ ω : St) (hg0 : h 49 = g 0) (hk1 : k_Su_signOfConstants ω) (hk2 : k_Su_hasAtoms ω) : Met l y_Ba_grants w_Ba_grants rm_Ba_grants (va_Pc [.ref (h 24)] (fun U => va_P D classes (Wc ty h σ (Ws ty g ω px)) U.heap ∧ va_K D classes (Ta ty) U ∧ NW U ∧ MK sa (fun _ => False) U U.heap)) (k2_QcV (.int (f_grants ω (σ.1 24 5)))) 0 0 (fun _ => False) := by
  refine Met.ofW (cc := b_Ba_grants) (maxL := 2) (ret := (some .boolean)) (by decide) rfl ?_
  intro p e s m args below meth c s₁ B hml hv
  obtain ⟨ha, hP, hK, hN, hM⟩ := hv
  have hx := B.exec
  have hb := B.bytes
  have hr := B.returns
  have hg : ∀ w ∈ gw, w.before args s = true := fun w h9 => atoms_spec (ws := w_Ba_grants) B.pre w (List.mem_cons_of_mem _ h9)
  have hown : s.vm.findClass "ClauseLedger$Balance" = some m.cls := findClass_of_methodNamed B.named
  have hlocks := B.notSynchronized
  have he : entryFrame m args 2 = entryFrame m ([.ref (h 24)] : List Value).toArray 2 := by rw [ha]
  rw [he, lg_entry_eq]
  have hl := lv_entry ([.ref (h 24)]) (n := 2) (Nat.le_of_ble_eq_true rfl)
  generalize (lg_sl ([.ref (h 24)]) ++ List.replicate (2 - (lg_sl ([.ref (h 24)])).length) Slot.unset).toArray = ls at hl ⊢
  have hl : lv_has ls 2 [(0, .ref (h 24))] := hl
  generalize hv : f_grants ω (σ.1 24 5) = v
  replace hv := hv.symm
  unfold f_grants at hv
  have B38 : ∀ (ls : Array Slot) (x : Int32), (x = 0 ∨ x = 1) → v = x → W p l e (headSpec w_Ba_grants rm_Ba_grants).room s m args below meth c s.heap [] 0 0 (MQ below (k2_QcV (.int v)) args s 0 0 (fun _ => False)) (F0 m 38 ls [.int x]) := by
    intro ls x h01 hvx
    exact W.zret hx hb hr (by rcases h01 with rfl | rfl <;> rfl) (fun t ht hW => ⟨by rw [hvx], ht⟩) (fun q h => nomatch h) d_Ba_grants_38
  have B37 : ∀ (ls : Array Slot), v = 0 → W p l e (headSpec w_Ba_grants rm_Ba_grants).room s m args below meth c s.heap [] 0 0 (MQ below (k2_QcV (.int v)) args s 0 0 (fun _ => False)) (F0 m 37 ls []) := by
    intro ls hv0
    refine lv_iconst (v := 0) hx hb d_Ba_grants_37 (by decide) ?_
    exact B38 _ 0 (Or.inl rfl) hv0
  have B33 : ∀ (ls : Array Slot), v = 1 → W p l e (headSpec w_Ba_grants rm_Ba_grants).room s m args below meth c s.heap [] 0 0 (MQ below (k2_QcV (.int v)) args s 0 0 (fun _ => False)) (F0 m 33 ls []) := by
    intro ls hv0
    refine lv_iconst (v := 1) hx hb d_Ba_grants_33 (by decide) ?_
    refine lv_goto (tgt := 38) hx hb d_Ba_grants_34 (by decide) ?_
    exact B38 _ 1 (Or.inr rfl) hv0
  have hPs := zp_P hP Wc_Ws
  refine lv_aload_n hx hb d_Ba_grants_0 rfl (lv_at hl 0 rfl) ?_
  refine va_get (v := .ref (h 49)) (C := R_Ba) (T := T_Ba) (N := 6) hx hb hg in_Ba hown hK hP 24 rfl rfl 4 (by decide) (hg _ m_211) (fun _ h9 => h9) rfl d_Ba_grants_1 ?_
  rw [hg0]
  refine zz_callV (va_runV (As := []) (rest := []) ⟨hx, hb, hml, hown, hg⟩ (c_Su_signOfConstants l D ty g (Wc ty h σ px) sa ω hk1) ⟨callB_of 0 hg (gw_C m_1164) rfl rfl rfl (hg _ m_9) (hg _ m_1161) hd_Su_signOfConstants ⟨Nat.le_of_ble_eq_true rfl, Nat.le_of_ble_eq_true rfl⟩, hg _ m_1162, hg _ m_1163⟩ (zz_preV hM hN hK hPs 0 rfl rfl) rfl rfl hl.1 rfl (lv_room (Nat.le_of_ble_eq_true rfl)) d_Ba_grants_4 ⟨Nat.le_of_ble_eq_true rfl, Nat.le_of_ble_eq_true rfl⟩) ?_
  refine lv_istore_n (lv' := [(1, .int (f_Su_signOfConstants ω)), (0, .ref (h 24))]) hx hb d_Ba_grants_7 rfl hl (by decide) rfl (fun ls hl => ?_)
  refine lv_aload_n hx hb d_Ba_grants_8 rfl (lv_at hl 1 rfl) ?_
  refine va_get (v := .ref (h 49)) (C := R_Ba) (T := T_Ba) (N := 6) hx hb hg in_Ba hown hK hP 24 rfl rfl 4 (by decide) (hg _ m_211) (fun _ h9 => h9) rfl d_Ba_grants_9 ?_
  rw [hg0]
  refine zz_callV (va_runV (As := []) (rest := []) ⟨hx, hb, hml, hown, hg⟩ (c_Su_hasAtoms l D ty g (Wc ty h σ px) sa ω hk2) ⟨callB_of 0 hg (gw_C m_1171) rfl rfl rfl (hg _ m_9) (hg _ m_1168) hd_Su_hasAtoms ⟨Nat.le_of_ble_eq_true rfl, Nat.le_of_ble_eq_true rfl⟩, hg _ m_1169, hg _ m_1170⟩ (zz_preV hM hN hK hPs 0 rfl rfl) rfl rfl hl.1 rfl (lv_room (Nat.le_of_ble_eq_true rfl)) d_Ba_grants_12 ⟨Nat.le_of_ble_eq_true rfl, Nat.le_of_ble_eq_true rfl⟩) ?_
  refine lv_if_ne (tgt := 37) hx hb d_Ba_grants_15 (by decide) (fun hc => ?_) (fun hc => ?_)
  · exact B37 _ (hv.trans (if_neg hc))
  · have hv := hv.trans (if_pos hc)
    refine lv_iload_n hx hb d_Ba_grants_18 rfl (lv_at hl 0 rfl) ?_
    refine lv_if_lt (tgt := 33) hx hb d_Ba_grants_19 (by decide) (fun hc => ?_) (fun hc => ?_)
    · exact B33 _ (hv.trans (if_pos hc))
    · have hv := hv.trans (if_neg hc)
      refine lv_iload_n hx hb d_Ba_grants_22 rfl (lv_at hl 0 rfl) ?_
      refine lv_if_ne (tgt := 37) hx hb d_Ba_grants_23 (by decide) (fun hc => ?_) (fun hc => ?_)
      · exact B37 _ (hv.trans (if_neg hc))
      · have hv := hv.trans (if_pos hc)
        refine lv_aload_n hx hb d_Ba_grants_26 rfl (lv_at hl 1 rfl) ?_
        refine va_get (v := .int (σ.1 24 5)) (C := R_Ba) (T := T_Ba) (N := 6) hx hb hg in_Ba hown hK hP 24 rfl rfl 5 (by decide) (hg _ m_212) (fun _ h9 => h9) rfl d_Ba_grants_27 ?_
        refine lv_if_eq (tgt := 37) hx hb d_Ba_grants_30 (by decide) (fun hc => ?_) (fun hc => ?_)
        · exact B37 _ (hv.trans (if_pos hc))
        · exact B33 _ (hv.trans (if_neg hc))

-- ClauseLedger$Balance.single(III)LClauseLedger$Sum;
abbrev b_Ba_single : ByteArray := prog_2_method_12_code
def y_Ba_single : MethodName := ⟨"ClauseLedger$Balance", "single", "(III)LClauseLedger$Sum;"⟩
theorem hd_Ba_single : y_Ba_single.cls ≠ "java/lang/invoke/MethodHandle" ∧ y_Ba_single.cls ≠ "java/lang/invoke/VarHandle" ∧ (parseMethodDescriptor y_Ba_single.desc).map (fun d => d.parameters.length) = some 3 := by decide +kernel
theorem d_Ba_single_0 : decode b_Ba_single 0 = .ok (.new 9, 3) := by decide +kernel
theorem d_Ba_single_3 : decode b_Ba_single 3 = .ok (.dup, 1) := by decide +kernel
theorem d_Ba_single_4 : decode b_Ba_single 4 = .ok (.iconst 1, 1) := by decide +kernel
theorem d_Ba_single_5 : decode b_Ba_single 5 = .ok (.invokespecial 17, 3) := by decide +kernel
theorem d_Ba_single_8 : decode b_Ba_single 8 = .ok (.astore_n 3, 1) := by decide +kernel
theorem d_Ba_single_9 : decode b_Ba_single 9 = .ok (.aload_n 3, 1) := by decide +kernel
theorem d_Ba_single_10 : decode b_Ba_single 10 = .ok (.iload_n 0, 1) := by decide +kernel
theorem d_Ba_single_11 : decode b_Ba_single 11 = .ok (.iload_n 1, 1) := by decide +kernel
theorem d_Ba_single_12 : decode b_Ba_single 12 = .ok (.i2l, 1) := by decide +kernel
theorem d_Ba_single_13 : decode b_Ba_single 13 = .ok (.iload_n 2, 1) := by decide +kernel
theorem d_Ba_single_14 : decode b_Ba_single 14 = .ok (.i2l, 1) := by decide +kernel
theorem d_Ba_single_15 : decode b_Ba_single 15 = .ok (.invokevirtual 110, 3) := by decide +kernel
theorem d_Ba_single_18 : decode b_Ba_single 18 = .ok (.aload_n 3, 1) := by decide +kernel
theorem d_Ba_single_19 : decode b_Ba_single 19 = .ok (.areturn, 1) := by decide +kernel
abbrev w_Ba_single : List Cond := Cond.code y_Ba_single b_Ba_single 4 (some (.object "ClauseLedger$Sum")) :: gw
def f_single (a0 a1 a2 : Int32) : St := f_Su_addEntrys a0 a1.toInt64 a2.toInt64 (s0 1)
def k_single (a0 a1 a2 : Int32) : Prop := k_Su_addEntrys a0 a1.toInt64 a2.toInt64 (s0 1)
abbrev rm_Ba_single : Room := { frames := 2, cells := 4, slots := 8, locals := 64 }
set_option maxHeartbeats 4000000 in
set_option maxRecDepth 100000 in
theorem c_Ba_single (l : Launch) (D : va_G) (ty : Nat → ClassId) (ws : va_W) (sa : Nat → Nat) (sz : Nat) (a0 a1 a2 : Int32) (hk : k_single a0 a1 a2) : Met l y_Ba_single w_Ba_single rm_Ba_single (va_Pc [.int a0, .int a1, .int a2] (fun U => U.heap.size = sz ∧ va_P D classes (ws) U.heap ∧ va_K D classes (Ta ty) U ∧ NW U ∧ MK sa (va_A (ws) sz) U U.heap ∧ va_D (fun _ => True) (ws))) (va_Qr (fun _ : Nat → Nat => True) (fun u a t => a = u 0 ∧ va_P D classes (Ws ty u (f_single a0 a1 a2) ws) t.heap ∧ va_D (va_A ws sz) (Ws ty u (f_single a0 a1 a2) ws)) (va_A ws sz)) 4 8 (va_A ws sz) := by
  refine Met.ofW (cc := b_Ba_single) (maxL := 4) (ret := (some (.object "ClauseLedger$Sum"))) (by decide) rfl ?_
  intro p e s m args below meth c s₁ B hml hv
  obtain ⟨ha, hsz, hP, hK, hN, hM, hD0⟩ := hv
  have hx := B.exec
  have hb := B.bytes
  have hr := B.returns
  have hg : ∀ w ∈ gw, w.before args s = true := fun w h9 => atoms_spec (ws := w_Ba_single) B.pre w (List.mem_cons_of_mem _ h9)
  have hown : s.vm.findClass "ClauseLedger$Balance" = some m.cls := findClass_of_methodNamed B.named
  have hlocks := B.notSynchronized
  subst hsz
  have hD := hD0.self (sz := s.heap.size)
  generalize hAe : va_A (ws) s.heap.size = A at hD hM ⊢
  have hA : ∀ q : Nat, s.heap.size ≤ q → A q := fun q h9 => by rw [← hAe]; exact Or.inr h9
  have hS : va_S A s.heap s.heap [] := va_S.rf
  have he : entryFrame m args 4 = entryFrame m ([.int a0, .int a1, .int a2] : List Value).toArray 4 := by rw [ha]
  rw [he, lg_entry_eq]
  have hl := lv_entry ([.int a0, .int a1, .int a2]) (n := 4) (Nat.le_of_ble_eq_true rfl)
  generalize (lg_sl ([.int a0, .int a1, .int a2]) ++ List.replicate (4 - (lg_sl ([.int a0, .int a1, .int a2])).length) Slot.unset).toArray = ls at hl ⊢
  have hl : lv_has ls 4 [(0, .int a0), (1, .int a1), (2, .int a2)] := hl
  refine va_new (ci := 8) (fs := [.null, .null, .null, .int 0, .int 0]) (C := R_Su) (T := T_Su) (N := 5) hx hb hg in_Su ty_Su ok_Su hown (hg _ m_184) (hg _ m_186) (hg _ m_9) hK hP hD hS hA rfl (fun j hj => by match j, hj with | 0, _ => rfl | 1, _ => rfl | 2, _ => rfl | 3, _ => rfl | 4, _ => rfl) (Nat.le_of_ble_eq_true rfl) (Nat.le_of_ble_eq_true rfl) d_Ba_single_0 (fun q0 H hP hD hS => ?_)
  refine lv_dup hx hb d_Ba_single_3 rfl ?_
  refine lv_iconst (v := nI 1) hx hb d_Ba_single_4 (by decide) ?_
  have hPq : va_P D classes ([(q0, .inr (8, [.null, .null, .null, .int 0, .int 0]))] ++ ws) H := zp_P hP List.perm_append_comm
  have hDq : va_D A ([(q0, .inr (8, [.null, .null, .null, .int 0, .int 0]))] ++ ws) := zp_D hD List.perm_append_comm
  have hPc : va_P D classes [(q0, .inr (8, [.null, .null, .null, .int 0, .int 0]))] H := hPq.sub [0] rfl
  have hDc : va_D A [(q0, .inr (8, [.null, .null, .null, .int 0, .int 0]))] := hDq.sub [0] (by decide) rfl
  have hFc := va_free (wc := [(q0, .inr (8, [.null, .null, .null, .int 0, .int 0]))]) hDq hS hA [0] rfl
  refine va_callv (va_runI (As := [.int (nI 1)]) (rest := [.ref q0]) ⟨hx, hb, hml, hown, hg⟩ (c_Su_init l D ty q0 H.size 1 (by decide)) ⟨callB_of 1 hg (gw_C m_189) rfl rfl rfl (hg _ m_9) (hg _ m_187) hd_Su_init ⟨Nat.le_of_ble_eq_true rfl, Nat.le_of_ble_eq_true rfl⟩, rfl, hg _ m_188⟩ (zz_preC hK hPc hDc) rfl rfl hl.1 rfl (lv_room (Nat.le_of_ble_eq_true rfl)) d_Ba_single_5 ⟨Nat.le_of_ble_eq_true rfl, Nat.le_of_ble_eq_true rfl⟩) hS (fun q _ h => hFc q h) hFc (fun u5 t8 H1 locs ht8 hvm hw hB hz hk1 hS => ?_)
  obtain ⟨hP1, hD1⟩ := hB
  rw [ht8] at hP1
  obtain ⟨hP, hD⟩ := va_joinQ (X := [(q0, .inr (8, [.null, .null, .null, .int 0, .int 0]))]) (pl := ws) (cx := [(q0, .inr (8, [.null, .null, .null, .int 0, .int 0]))]) (wr := []) (w1 := at_Su_init ty q0 1 u5) hPq hDq [0] [] rfl rfl (by decide) (by decide) hk1 hFc hP1 hD1
  have hP : va_P D classes (Ws ty (ad4 q0 u5) (s0 1) (ws)) H1 := by rw [← at_new ty q0 1 u5 (by decide)]; exact hP
  have hD : va_D A (Ws ty (ad4 q0 u5) (s0 1) (ws)) := by rw [← at_new ty q0 1 u5 (by decide)]; exact hD
  generalize H1 = H at hP hS ⊢
  refine lv_astore_n (lv' := [(3, .ref q0), (0, .int a0), (1, .int a1), (2, .int a2)]) hx hb d_Ba_single_8 rfl hl (by decide) rfl (fun ls hl => ?_)
  refine lv_aload_n hx hb d_Ba_single_9 rfl (lv_at hl 0 rfl) ?_
  refine lv_iload_n hx hb d_Ba_single_10 rfl (lv_at hl 1 rfl) ?_
  refine lv_iload_n hx hb d_Ba_single_11 rfl (lv_at hl 2 rfl) ?_
  refine lv_i2l (v := a1.toInt64) hx hb d_Ba_single_12 rfl ?_
  refine lv_iload_n hx hb d_Ba_single_13 rfl (lv_at hl 3 rfl) ?_
  refine lv_i2l (v := a2.toInt64) hx hb d_Ba_single_14 rfl ?_
  refine va_callv (va_runV (b := ad4 q0 u5 0) (As := [.int a0, .long a1.toInt64, .long a2.toInt64]) (rest := []) ⟨hx, hb, hml, hown, hg⟩ (c_Su_addEntrys l D ty (ad4 q0 u5) ws sa (s0 1) H.size _ _ _ hk) ⟨callB_of 3 hg (gw_C m_1123) rfl rfl rfl (hg _ m_9) (hg _ m_1120) hd_Su_addEntrys ⟨Nat.le_of_ble_eq_true rfl, Nat.le_of_ble_eq_true rfl⟩, hg _ m_1121, hg _ m_1122⟩ (zz_preVW hM hS hA hN hK hP hD 0 rfl rfl) rfl rfl hl.1 rfl (lv_room (Nat.le_of_ble_eq_true rfl)) d_Ba_single_15 ⟨Nat.le_of_ble_eq_true rfl, Nat.le_of_ble_eq_true rfl⟩) hS (fun q _ h => zz_free hD hS hA q h) (zz_free hD hS hA) (fun u15 t H locs ht hvm hp hP1 hz hk1 hS => ?_)
  rw [ht] at hP1
  have hD : va_D A (Ws ty (ad4 q0 u5) u15 ws) := zz_D hD rfl
  have hp : u15 = f_single a0 a1 a2 := hp
  subst hp
  refine lv_aload_n hx hb d_Ba_single_18 rfl (lv_at hl 0 rfl) ?_
  exact W.aret hx hb hr (Or.inl ⟨_, rfl⟩) (Or.inr ⟨_, rfl⟩) (fun t ht hW => ⟨⟨ad4 q0 u5, q0, rfl, trivial, rfl, by rw [ht]; exact hP1, hD⟩, hS.F ht⟩) hS.2.2 d_Ba_single_19

-- ClauseLedger$Balance.product(ILClauseLedger$Sum;)LClauseLedger$Sum;
abbrev b_Ba_product : ByteArray := prog_2_method_11_code
def y_Ba_product : MethodName := ⟨"ClauseLedger$Balance", "product", "(ILClauseLedger$Sum;)LClauseLedger$Sum;"⟩
theorem hd_Ba_product : y_Ba_product.cls ≠ "java/lang/invoke/MethodHandle" ∧ y_Ba_product.cls ≠ "java/lang/invoke/VarHandle" ∧ (parseMethodDescriptor y_Ba_product.desc).map (fun d => d.parameters.length) = some 2 := by decide +kernel
theorem d_Ba_product_0 : decode b_Ba_product 0 = .ok (.new 9, 3) := by decide +kernel
theorem d_Ba_product_3 : decode b_Ba_product 3 = .ok (.dup, 1) := by decide +kernel
theorem d_Ba_product_4 : decode b_Ba_product 4 = .ok (.aload_n 2, 1) := by decide +kernel
theorem d_Ba_product_5 : decode b_Ba_product 5 = .ok (.invokevirtual 101, 3) := by decide +kernel
theorem d_Ba_product_8 : decode b_Ba_product 8 = .ok (.invokespecial 17, 3) := by decide +kernel
theorem d_Ba_product_11 : decode b_Ba_product 11 = .ok (.astore_n 3, 1) := by decide +kernel
theorem d_Ba_product_12 : decode b_Ba_product 12 = .ok (.aload_n 3, 1) := by decide +kernel
theorem d_Ba_product_13 : decode b_Ba_product 13 = .ok (.aload_n 2, 1) := by decide +kernel
theorem d_Ba_product_14 : decode b_Ba_product 14 = .ok (.aload_n 0, 1) := by decide +kernel
theorem d_Ba_product_15 : decode b_Ba_product 15 = .ok (.getfield 34, 3) := by decide +kernel
theorem d_Ba_product_18 : decode b_Ba_product 18 = .ok (.iload_n 1, 1) := by decide +kernel
theorem d_Ba_product_19 : decode b_Ba_product 19 = .ok (.invokevirtual 87, 3) := by decide +kernel
theorem d_Ba_product_22 : decode b_Ba_product 22 = .ok (.i2l, 1) := by decide +kernel
theorem d_Ba_product_23 : decode b_Ba_product 23 = .ok (.aload_n 0, 1) := by decide +kernel
theorem d_Ba_product_24 : decode b_Ba_product 24 = .ok (.getfield 34, 3) := by decide +kernel
theorem d_Ba_product_27 : decode b_Ba_product 27 = .ok (.iload_n 1, 1) := by decide +kernel
theorem d_Ba_product_28 : decode b_Ba_product 28 = .ok (.invokevirtual 90, 3) := by decide +kernel
theorem d_Ba_product_31 : decode b_Ba_product 31 = .ok (.i2l, 1) := by decide +kernel
theorem d_Ba_product_32 : decode b_Ba_product 32 = .ok (.invokevirtual 64, 3) := by decide +kernel
theorem d_Ba_product_35 : decode b_Ba_product 35 = .ok (.aload_n 3, 1) := by decide +kernel
theorem d_Ba_product_36 : decode b_Ba_product 36 = .ok (.areturn, 1) := by decide +kernel
abbrev w_Ba_product : List Cond := Cond.code y_Ba_product b_Ba_product 4 (some (.object "ClauseLedger$Sum")) :: gw
abbrev rm_Ba_product (n : Nat) : Room := { frames := 3, cells := 4, slots := 5 + (0 + n + n + n), locals := 90 }
set_option maxHeartbeats 4000000 in
set_option maxRecDepth 100000 in
theorem c_Ba_product (l : Launch) (D : va_G) (ty : Nat → ClassId) (h g : Nat → Nat) (px : va_W) (sa : Nat → Nat) (σ ω : St) (sz : Nat) (a1 : Int32) (n : Nat) (hn : n ≤ 101) (hsz0 : ω.1 0 3 = nI n) (hkT : k_Te_topOf a1 σ) (hkB : k_Te_bottomOf a1 σ) (hk : k_at ω (f_Te_topOf a1 σ).toInt64 (f_Te_bottomOf a1 σ).toInt64 (s0 n)) : Met l y_Ba_product w_Ba_product (rm_Ba_product n) (va_Pc [.ref (h 24), .int a1, .ref (g 0)] (fun U => U.heap.size = sz ∧ va_P D classes (Wc ty h σ (Ws ty g ω px)) U.heap ∧ va_K D classes (Ta ty) U ∧ NW U ∧ MK sa (va_A (Wc ty h σ (Ws ty g ω px)) sz) U U.heap ∧ va_D (fun _ => True) (Wc ty h σ (Ws ty g ω px)))) (va_Qr (fun _ : Nat → Nat => True) (fun u a t => a = u 0 ∧ va_P D classes (Wc ty h σ (Ws ty u (f_at ω (f_Te_topOf a1 σ).toInt64 (f_Te_bottomOf a1 σ).toInt64 (s0 n)) (Ws ty g ω px))) t.heap ∧ va_D (va_A (Wc ty h σ (Ws ty g ω px)) sz) (Wc ty h σ (Ws ty u (f_at ω (f_Te_topOf a1 σ).toInt64 (f_Te_bottomOf a1 σ).toInt64 (s0 n)) (Ws ty g ω px)))) (va_A (Wc ty h σ (Ws ty g ω px)) sz)) 4 (5 + (0 + n + n + n)) (va_A (Wc ty h σ (Ws ty g ω px)) sz) := by
  refine Met.ofW (cc := b_Ba_product) (maxL := 4) (ret := (some (.object "ClauseLedger$Sum"))) (by decide) rfl ?_
  intro p e s m args below meth c s₁ B hml hv
  obtain ⟨ha, hsz, hP, hK, hN, hM, hD0⟩ := hv
  have hx := B.exec
  have hb := B.bytes
  have hr := B.returns
  have hg : ∀ w ∈ gw, w.before args s = true := fun w h9 => atoms_spec (ws := w_Ba_product) B.pre w (List.mem_cons_of_mem _ h9)
  have hown : s.vm.findClass "ClauseLedger$Balance" = some m.cls := findClass_of_methodNamed B.named
  have hlocks := B.notSynchronized
  subst hsz
  have hD := hD0.self (sz := s.heap.size)
  generalize hAe : va_A (Wc ty h σ (Ws ty g ω px)) s.heap.size = A at hD hM ⊢
  have hA : ∀ q : Nat, s.heap.size ≤ q → A q := fun q h9 => by rw [← hAe]; exact Or.inr h9
  have hS : va_S A s.heap s.heap [] := va_S.rf
  have he : entryFrame m args 4 = entryFrame m ([.ref (h 24), .int a1, .ref (g 0)] : List Value).toArray 4 := by rw [ha]
  rw [he, lg_entry_eq]
  have hl := lv_entry ([.ref (h 24), .int a1, .ref (g 0)]) (n := 4) (Nat.le_of_ble_eq_true rfl)
  generalize (lg_sl ([.ref (h 24), .int a1, .ref (g 0)]) ++ List.replicate (4 - (lg_sl ([.ref (h 24), .int a1, .ref (g 0)])).length) Slot.unset).toArray = ls at hl ⊢
  have hl : lv_has ls 4 [(0, .ref (h 24)), (1, .int a1), (2, .ref (g 0))] := hl
  refine va_new (ci := 8) (fs := [.null, .null, .null, .int 0, .int 0]) (C := R_Su) (T := T_Su) (N := 5) hx hb hg in_Su ty_Su ok_Su hown (hg _ m_184) (hg _ m_186) (hg _ m_9) hK hP hD hS hA rfl (fun j hj => by match j, hj with | 0, _ => rfl | 1, _ => rfl | 2, _ => rfl | 3, _ => rfl | 4, _ => rfl) (by show 0 + 1 ≤ 4; omega) (by show 0 + 5 ≤ 5 + (0 + n + n + n); omega) d_Ba_product_0 (fun q0 H hP hD hS => ?_)
  refine lv_dup hx hb d_Ba_product_3 rfl ?_
  refine lv_aload_n hx hb d_Ba_product_4 rfl (lv_at hl 2 rfl) ?_
  have hPs : va_P D classes (Ws ty g ω (Wc ty h σ px ++ [(q0, .inr (8, [.null, .null, .null, .int 0, .int 0]))])) H := zp_P hP (Wc_Ws.append_right _)
  refine zz_callV (va_runV (As := []) (rest := [.ref q0, .ref q0]) ⟨hx, hb, hml, hown, hg⟩ (c_Su_sizes l D ty g (Wc ty h σ px ++ [(q0, .inr (8, [.null, .null, .null, .int 0, .int 0]))]) sa ω trivial) ⟨callB_of 0 hg (gw_C m_1141) rfl rfl rfl (hg _ m_9) (hg _ m_1138) hd_Su_sizes ⟨Nat.le_of_ble_eq_true rfl, Nat.le_of_ble_eq_true rfl⟩, hg _ m_1139, hg _ m_1140⟩ (zz_preV (hM.at hS) hN hK hPs 0 rfl rfl) rfl rfl hl.1 rfl (lv_room (Nat.le_of_ble_eq_true rfl)) d_Ba_product_5 ⟨by show 0 + 1 + 0 ≤ 4; omega, by show 0 + 5 + 0 ≤ 5 + (0 + n + n + n); omega⟩) ?_
  have esz : f_Su_sizes ω = nI n := hsz0
  rw [esz]
  have hPq : va_P D classes ([(q0, .inr (8, [.null, .null, .null, .int 0, .int 0]))] ++ (Wc ty h σ (Ws ty g ω px))) H := zp_P hP List.perm_append_comm
  have hDq : va_D A ([(q0, .inr (8, [.null, .null, .null, .int 0, .int 0]))] ++ (Wc ty h σ (Ws ty g ω px))) := zp_D hD List.perm_append_comm
  have hPc : va_P D classes [(q0, .inr (8, [.null, .null, .null, .int 0, .int 0]))] H := hPq.sub [0] rfl
  have hDc : va_D A [(q0, .inr (8, [.null, .null, .null, .int 0, .int 0]))] := hDq.sub [0] (by decide) rfl
  have hFc := va_free (wc := [(q0, .inr (8, [.null, .null, .null, .int 0, .int 0]))]) hDq hS hA [0] rfl
  refine va_callv (va_runI (As := [.int (nI n)]) (rest := [.ref q0]) ⟨hx, hb, hml, hown, hg⟩ (c_Su_init l D ty q0 H.size n hn) ⟨callB_of 1 hg (gw_C m_189) rfl rfl rfl (hg _ m_9) (hg _ m_187) hd_Su_init ⟨Nat.le_of_ble_eq_true rfl, Nat.le_of_ble_eq_true rfl⟩, rfl, hg _ m_188⟩ (zz_preC hK hPc hDc) rfl rfl hl.1 rfl (lv_room (Nat.le_of_ble_eq_true rfl)) d_Ba_product_8 ⟨by show 0 + 1 + 3 ≤ 4; omega, by show 0 + 5 + (0 + n + n + n) ≤ 5 + (0 + n + n + n); omega⟩) hS (fun q _ h => hFc q h) hFc (fun u8 t8 H1 locs ht8 hvm hw hB hz hk1 hS => ?_)
  obtain ⟨hP1, hD1⟩ := hB
  rw [ht8] at hP1
  obtain ⟨hP, hD⟩ := va_joinQ (X := [(q0, .inr (8, [.null, .null, .null, .int 0, .int 0]))]) (pl := Wc ty h σ (Ws ty g ω px)) (cx := [(q0, .inr (8, [.null, .null, .null, .int 0, .int 0]))]) (wr := []) (w1 := at_Su_init ty q0 n u8) hPq hDq [0] [] rfl rfl (by decide) (by decide) hk1 hFc hP1 hD1
  have hP : va_P D classes (Ws ty (ad4 q0 u8) (s0 n) (Wc ty h σ (Ws ty g ω px))) H1 := by rw [← at_new ty q0 n u8 hn]; exact hP
  have hD : va_D A (Ws ty (ad4 q0 u8) (s0 n) (Wc ty h σ (Ws ty g ω px))) := by rw [← at_new ty q0 n u8 hn]; exact hD
  generalize H1 = H at hP hS ⊢
  have hP := zp_P hP Wc_Ws.symm
  have hD := zp_D hD Wc_Ws.symm
  refine lv_astore_n (lv' := [(3, .ref q0), (0, .ref (h 24)), (1, .int a1), (2, .ref (g 0))]) hx hb d_Ba_product_11 rfl hl (by decide) rfl (fun ls hl => ?_)
  refine lv_aload_n hx hb d_Ba_product_12 rfl (lv_at hl 0 rfl) ?_
  refine lv_aload_n hx hb d_Ba_product_13 rfl (lv_at hl 3 rfl) ?_
  refine lv_aload_n hx hb d_Ba_product_14 rfl (lv_at hl 1 rfl) ?_
  refine va_get (v := .ref (h 6)) (C := R_Ba) (T := T_Ba) (N := 6) hx hb hg in_Ba hown hK hP 24 rfl rfl 0 (by decide) (hg _ m_207) (fun _ h9 => h9) rfl d_Ba_product_15 ?_
  refine lv_iload_n hx hb d_Ba_product_18 rfl (lv_at hl 2 rfl) ?_
  refine zz_callV (va_runV (As := [.int a1]) (rest := [.ref (g 0), .ref q0]) ⟨hx, hb, hml, hown, hg⟩ (c_Te_topOf l D ty h (Ws ty (ad4 q0 u8) (s0 n) (Ws ty g ω px)) sa σ a1 hkT) ⟨callB_of 1 hg (gw_C m_540) rfl rfl rfl (hg _ m_3) (hg _ m_1115) hd_Te_topOf ⟨Nat.le_of_ble_eq_true rfl, Nat.le_of_ble_eq_true rfl⟩, hg _ m_538, hg _ m_539⟩ (zz_preV (hM.at hS) hN hK hP 6 rfl rfl) rfl rfl hl.1 rfl (lv_room (Nat.le_of_ble_eq_true rfl)) d_Ba_product_19 ⟨by show 0 + 1 + 3 + 0 ≤ 4; omega, by show 0 + 5 + (0 + n + n + n) + 0 ≤ 5 + (0 + n + n + n); omega⟩) ?_
  refine lv_i2l (v := (f_Te_topOf a1 σ).toInt64) hx hb d_Ba_product_22 rfl ?_
  refine lv_aload_n hx hb d_Ba_product_23 rfl (lv_at hl 1 rfl) ?_
  refine va_get (v := .ref (h 6)) (C := R_Ba) (T := T_Ba) (N := 6) hx hb hg in_Ba hown hK hP 24 rfl rfl 0 (by decide) (hg _ m_207) (fun _ h9 => h9) rfl d_Ba_product_24 ?_
  refine lv_iload_n hx hb d_Ba_product_27 rfl (lv_at hl 2 rfl) ?_
  refine zz_callV (va_runV (As := [.int a1]) (rest := [.long (f_Te_topOf a1 σ).toInt64, .ref (g 0), .ref q0]) ⟨hx, hb, hml, hown, hg⟩ (c_Te_bottomOf l D ty h (Ws ty (ad4 q0 u8) (s0 n) (Ws ty g ω px)) sa σ a1 hkB) ⟨callB_of 1 hg (gw_C m_544) rfl rfl rfl (hg _ m_3) (hg _ m_1116) hd_Te_bottomOf ⟨Nat.le_of_ble_eq_true rfl, Nat.le_of_ble_eq_true rfl⟩, hg _ m_542, hg _ m_543⟩ (zz_preV (hM.at hS) hN hK hP 6 rfl rfl) rfl rfl hl.1 rfl (lv_room (Nat.le_of_ble_eq_true rfl)) d_Ba_product_28 ⟨by show 0 + 1 + 3 + 0 ≤ 4; omega, by show 0 + 5 + (0 + n + n + n) + 0 ≤ 5 + (0 + n + n + n); omega⟩) ?_
  refine lv_i2l (v := (f_Te_bottomOf a1 σ).toInt64) hx hb d_Ba_product_31 rfl ?_
  have pw : List.Perm (Wc ty h σ (Ws ty (ad4 q0 u8) (s0 n) (Ws ty g ω px))) (Ws ty (ad4 q0 u8) (s0 n) (Ws ty g ω (Wc ty h σ px))) := Wc_Ws.trans ((((Wc_Ws.cons _).cons _).cons _).cons _)
  have hPt := zp_P hP pw
  have hDt := zp_D hD pw
  refine va_callv (va_runV (b := ad4 q0 u8 0) (As := [.ref (g 0), .long (f_Te_topOf a1 σ).toInt64, .long (f_Te_bottomOf a1 σ).toInt64]) (rest := []) ⟨hx, hb, hml, hown, hg⟩ (c_Su_addTimes l D ty (ad4 q0 u8) g (Wc ty h σ px) sa (s0 n) ω H.size _ _ hk) ⟨callB_of 3 hg (gw_C m_1145) rfl rfl rfl (hg _ m_9) (hg _ m_1142) hd_Su_addTimes ⟨Nat.le_of_ble_eq_true rfl, Nat.le_of_ble_eq_true rfl⟩, hg _ m_1143, hg _ m_1144⟩ (zz_preVW hM hS hA hN hK hPt hDt 0 rfl rfl) rfl rfl hl.1 rfl (lv_room (Nat.le_of_ble_eq_true rfl)) d_Ba_product_32 ⟨by show 0 + 1 + 3 + 0 ≤ 4; omega, by show 0 + 5 + (0 + n + n + n) + 0 ≤ 5 + (0 + n + n + n); omega⟩) hS (fun q _ h => zz_free hDt hS hA q h) (zz_free hDt hS hA) (fun u32 t H locs ht hvm hp hP1 hz hk1 hS => ?_)
  rw [ht] at hP1
  have hD1 : va_D A (Ws ty (ad4 q0 u8) u32 (Ws ty g ω (Wc ty h σ px))) := zz_D hDt rfl
  have pb : List.Perm (Ws ty (ad4 q0 u8) u32 (Ws ty g ω (Wc ty h σ px))) (Wc ty h σ (Ws ty (ad4 q0 u8) u32 (Ws ty g ω px))) := ((((Wc_Ws.symm.cons _).cons _).cons _).cons _).trans Wc_Ws.symm
  have hP := zp_P hP1 pb
  have hD := zp_D hD1 pb
  subst hp
  refine lv_aload_n hx hb d_Ba_product_35 rfl (lv_at hl 0 rfl) ?_
  refine W.widen (k := 4) (n := 5 + (0 + n + n + n)) (by omega) (by omega) ?_
  exact W.aret hx hb hr (Or.inl ⟨_, rfl⟩) (Or.inr ⟨_, rfl⟩) (fun t ht hW => ⟨⟨ad4 q0 u8, q0, rfl, trivial, rfl, by rw [ht]; exact hP, hD⟩, hS.F ht⟩) hS.2.2 d_Ba_product_36
