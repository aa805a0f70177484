-- ClauseLedger$Writer.letterOfLeaf(II)C
abbrev b_Wr_letterOfLeaf : ByteArray := prog_12_method_8_code
def y_Wr_letterOfLeaf : MethodName := ⟨"ClauseLedger$Writer", "letterOfLeaf", "(II)C"⟩
theorem hd_Wr_letterOfLeaf : y_Wr_letterOfLeaf.cls ≠ "java/lang/invoke/MethodHandle" ∧ y_Wr_letterOfLeaf.cls ≠ "java/lang/invoke/VarHandle" ∧ (parseMethodDescriptor y_Wr_letterOfLeaf.desc).map (fun d => d.parameters.length) = some 2 := by decide +kernel
theorem d_Wr_letterOfLeaf_0 : decode b_Wr_letterOfLeaf 0 = .ok (.aload_n 0, 1) := by decide +kernel
theorem d_Wr_letterOfLeaf_1 : decode b_Wr_letterOfLeaf 1 = .ok (.getfield 9, 3) := by decide +kernel
theorem d_Wr_letterOfLeaf_4 : decode b_Wr_letterOfLeaf 4 = .ok (.iload_n 1, 1) := by decide +kernel
theorem d_Wr_letterOfLeaf_5 : decode b_Wr_letterOfLeaf 5 = .ok (.invokevirtual 32, 3) := by decide +kernel
theorem d_Wr_letterOfLeaf_8 : decode b_Wr_letterOfLeaf 8 = .ok (.lookupswitch 54 #[(0, 28), (1, 41)], 28) := by decide +kernel
theorem d_Wr_letterOfLeaf_36 : decode b_Wr_letterOfLeaf 36 = .ok (.bipush 97, 2) := by decide +kernel
theorem d_Wr_letterOfLeaf_38 : decode b_Wr_letterOfLeaf 38 = .ok (.aload_n 0, 1) := by decide +kernel
theorem d_Wr_letterOfLeaf_39 : decode b_Wr_letterOfLeaf 39 = .ok (.getfield 9, 3) := by decide +kernel
theorem d_Wr_letterOfLeaf_42 : decode b_Wr_letterOfLeaf 42 = .ok (.iload_n 1, 1) := by decide +kernel
theorem d_Wr_letterOfLeaf_43 : decode b_Wr_letterOfLeaf 43 = .ok (.invokevirtual 52, 3) := by decide +kernel
theorem d_Wr_letterOfLeaf_46 : decode b_Wr_letterOfLeaf 46 = .ok (.iadd, 1) := by decide +kernel
theorem d_Wr_letterOfLeaf_47 : decode b_Wr_letterOfLeaf 47 = .ok (.i2c, 1) := by decide +kernel
theorem d_Wr_letterOfLeaf_48 : decode b_Wr_letterOfLeaf 48 = .ok (.ireturn, 1) := by decide +kernel
theorem d_Wr_letterOfLeaf_49 : decode b_Wr_letterOfLeaf 49 = .ok (.bipush 120, 2) := by decide +kernel
theorem d_Wr_letterOfLeaf_51 : decode b_Wr_letterOfLeaf 51 = .ok (.aload_n 0, 1) := by decide +kernel
theorem d_Wr_letterOfLeaf_52 : decode b_Wr_letterOfLeaf 52 = .ok (.getfield 9, 3) := by decide +kernel
theorem d_Wr_letterOfLeaf_55 : decode b_Wr_letterOfLeaf 55 = .ok (.iload_n 1, 1) := by decide +kernel
theorem d_Wr_letterOfLeaf_56 : decode b_Wr_letterOfLeaf 56 = .ok (.invokevirtual 52, 3) := by decide +kernel
theorem d_Wr_letterOfLeaf_59 : decode b_Wr_letterOfLeaf 59 = .ok (.iadd, 1) := by decide +kernel
theorem d_Wr_letterOfLeaf_60 : decode b_Wr_letterOfLeaf 60 = .ok (.i2c, 1) := by decide +kernel
theorem d_Wr_letterOfLeaf_61 : decode b_Wr_letterOfLeaf 61 = .ok (.ireturn, 1) := by decide +kernel
theorem d_Wr_letterOfLeaf_62 : decode b_Wr_letterOfLeaf 62 = .ok (.aload_n 0, 1) := by decide +kernel
theorem d_Wr_letterOfLeaf_63 : decode b_Wr_letterOfLeaf 63 = .ok (.getfield 9, 3) := by decide +kernel
theorem d_Wr_letterOfLeaf_66 : decode b_Wr_letterOfLeaf 66 = .ok (.iload_n 1, 1) := by decide +kernel
theorem d_Wr_letterOfLeaf_67 : decode b_Wr_letterOfLeaf 67 = .ok (.invokevirtual 66, 3) := by decide +kernel
theorem d_Wr_letterOfLeaf_70 : decode b_Wr_letterOfLeaf 70 = .ok (.aload_n 0, 1) := by decide +kernel
theorem d_Wr_letterOfLeaf_71 : decode b_Wr_letterOfLeaf 71 = .ok (.getfield 9, 3) := by decide +kernel
theorem d_Wr_letterOfLeaf_74 : decode b_Wr_letterOfLeaf 74 = .ok (.iload_n 1, 1) := by decide +kernel
theorem d_Wr_letterOfLeaf_75 : decode b_Wr_letterOfLeaf 75 = .ok (.invokevirtual 69, 3) := by decide +kernel
theorem d_Wr_letterOfLeaf_78 : decode b_Wr_letterOfLeaf 78 = .ok (.iload_n 2, 1) := by decide +kernel
theorem d_Wr_letterOfLeaf_79 : decode b_Wr_letterOfLeaf 79 = .ok (.invokestatic 72, 3) := by decide +kernel
theorem d_Wr_letterOfLeaf_82 : decode b_Wr_letterOfLeaf 82 = .ok (.ireturn, 1) := by decide +kernel
def f_Wr_letterOfLeaf (a1 : Int32) (a2 : Int32) (σ : St) : Int32 := if (f_Te_kindOf a1 σ) = 0 then (((97 + (f_Te_nameOf a1 σ)).toUInt32 % 65536).toInt32) else (if (f_Te_kindOf a1 σ) = 1 then (((120 + (f_Te_nameOf a1 σ)).toUInt32 % 65536).toInt32) else (f_Wr_letterOfConstant (f_Te_topOf a1 σ) (f_Te_bottomOf a1 σ) a2 σ))
def k_Wr_letterOfLeaf (a1 : Int32) (a2 : Int32) (σ : St) : Prop := (k_Te_kindOf a1 σ) ∧ (((f_Te_kindOf a1 σ) = 0 → ((k_Te_nameOf a1 σ) ∧ ((narrow .char (.int (((97 + (f_Te_nameOf a1 σ)).toUInt32 % 65536).toInt32)) = .int (((97 + (f_Te_nameOf a1 σ)).toUInt32 % 65536).toInt32)) ∧ True))) ∧ (¬ (f_Te_kindOf a1 σ) = 0 → (((f_Te_kindOf a1 σ) = 1 → ((k_Te_nameOf a1 σ) ∧ ((narrow .char (.int (((120 + (f_Te_nameOf a1 σ)).toUInt32 % 65536).toInt32)) = .int (((120 + (f_Te_nameOf a1 σ)).toUInt32 % 65536).toInt32)) ∧ True))) ∧ (¬ (f_Te_kindOf a1 σ) = 1 → ((k_Te_topOf a1 σ) ∧ ((k_Te_bottomOf a1 σ) ∧ ((k_Wr_letterOfConstant (f_Te_topOf a1 σ) (f_Te_bottomOf a1 σ) a2 σ) ∧ ((narrow .char (.int (f_Wr_letterOfConstant (f_Te_topOf a1 σ) (f_Te_bottomOf a1 σ) a2 σ)) = .int (f_Wr_letterOfConstant (f_Te_topOf a1 σ) (f_Te_bottomOf a1 σ) a2 σ)) ∧ True))))))))
abbrev w_Wr_letterOfLeaf : List Cond := Cond.code y_Wr_letterOfLeaf b_Wr_letterOfLeaf 3 (some .char) :: gw
abbrev rm_Wr_letterOfLeaf : Room := { frames := 2, cells := 0, slots := 0, locals := 48 }
set_option maxHeartbeats 4000000 in
set_option maxRecDepth 100000 in
theorem c_Wr_letterOfLeaf (l : Launch) (D : va_G) (ty : Nat → ClassId) (h : Nat → Nat) (px : va_W) (σ : St) (a1 : Int32) (a2 : Int32) (hk : k_Wr_letterOfLeaf a1 a2 σ) : Met l y_Wr_letterOfLeaf w_Wr_letterOfLeaf rm_Wr_letterOfLeaf (va_Pc [.ref (h 21), .int a1, .int a2] (fun U => va_P D classes (Wc ty h σ px) U.heap ∧ va_K D classes (Ta ty) U ∧ NW U)) (k2_QcV (.int (f_Wr_letterOfLeaf a1 a2 σ))) 0 0 (fun _ => False) := by
  refine Met.ofW (cc := b_Wr_letterOfLeaf) (maxL := 3) (ret := (some .char)) (by decide) rfl ?_
  intro p e s m args below meth c s₁ B hml hv
  obtain ⟨ha, hP, hK, hN⟩ := hv
  have hx := B.exec
  have hb := B.bytes
  have hr := B.returns
  have hg : ∀ w ∈ gw, w.before args s = true := fun w h9 => atoms_spec (ws := w_Wr_letterOfLeaf) B.pre w (List.mem_cons_of_mem _ h9)
  have hown : s.vm.findClass "ClauseLedger$Writer" = some m.cls := findClass_of_methodNamed B.named
  have hlocks := B.notSynchronized
  have he : entryFrame m args 3 = entryFrame m ([.ref (h 21), .int a1, .int a2] : List Value).toArray 3 := by rw [ha]
  rw [he, lg_entry_eq]
  have hl := lv_entry ([.ref (h 21), .int a1, .int a2]) (n := 3) (Nat.le_of_ble_eq_true rfl)
  generalize (lg_sl ([.ref (h 21), .int a1, .int a2]) ++ List.replicate (3 - (lg_sl ([.ref (h 21), .int a1, .int a2])).length) Slot.unset).toArray = ls at hl ⊢
  have hl : lv_has ls 3 [(0, .ref (h 21)), (1, .int a1), (2, .int a2)] := hl
  generalize hv : f_Wr_letterOfLeaf a1 a2 σ = v
  replace hv := hv.symm
  unfold f_Wr_letterOfLeaf at hv
  unfold k_Wr_letterOfLeaf at hk
  refine lv_aload_n hx hb d_Wr_letterOfLeaf_0 rfl (lv_at hl 0 rfl) ?_
  refine va_get (v := .ref (h 6)) (C := R_Wr) (T := T_Wr) (N := 1) hx hb hg in_Wr hown hK hP 21 rfl rfl 0 (by decide) (hg _ m_152) (fun _ h9 => h9) rfl d_Wr_letterOfLeaf_1 ?_
  refine lv_iload_n hx hb d_Wr_letterOfLeaf_4 rfl (lv_at hl 1 rfl) ?_
  obtain ⟨hk0, hk⟩ := hk
  refine zz_callV (va_runV (As := [.int a1]) (rest := []) ⟨hx, hb, hml, hown, hg⟩ (c_Te_kindOf l D ty h px σ a1 hk0) ⟨callB_of 1 hg (gw_C m_434) rfl rfl rfl (hg _ m_3) (hg _ m_469) hd_Te_kindOf ⟨Nat.le_of_ble_eq_true rfl, Nat.le_of_ble_eq_true rfl⟩, hg _ m_432, hg _ m_433⟩ (zz_preV hN hK hP 6 rfl rfl) rfl rfl hl.1 rfl (lv_room (Nat.le_of_ble_eq_true rfl)) d_Wr_letterOfLeaf_5 ⟨Nat.le_of_ble_eq_true rfl, Nat.le_of_ble_eq_true rfl⟩) ?_
  by_cases hc0 : (f_Te_kindOf a1 σ) = 0
  · have hv := hv.trans (if_pos hc0)
    have hk := hk.1 hc0
    refine lv_lookup (off := 28) (tgt := 36) hx hb d_Wr_letterOfLeaf_8 (by decide) (by rw [hc0]; first | done | decide) (by decide) ?_
    refine lv_bipush (v := 97) hx hb d_Wr_letterOfLeaf_36 (by decide) ?_
    refine lv_aload_n hx hb d_Wr_letterOfLeaf_38 rfl (lv_at hl 0 rfl) ?_
    refine va_get (v := .ref (h 6)) (C := R_Wr) (T := T_Wr) (N := 1) hx hb hg in_Wr hown hK hP 21 rfl rfl 0 (by decide) (hg _ m_152) (fun _ h9 => h9) rfl d_Wr_letterOfLeaf_39 ?_
    refine lv_iload_n hx hb d_Wr_letterOfLeaf_42 rfl (lv_at hl 1 rfl) ?_
    obtain ⟨hk0, hk⟩ := hk
    refine zz_callV (va_runV (As := [.int a1]) (rest := [.int 97]) ⟨hx, hb, hml, hown, hg⟩ (c_Te_nameOf l D ty h px σ a1 hk0) ⟨callB_of 1 hg (gw_C m_455) rfl rfl rfl (hg _ m_3) (hg _ m_492) hd_Te_nameOf ⟨Nat.le_of_ble_eq_true rfl, Nat.le_of_ble_eq_true rfl⟩, hg _ m_453, hg _ m_454⟩ (zz_preV hN hK hP 6 rfl rfl) rfl rfl hl.1 rfl (lv_room (Nat.le_of_ble_eq_true rfl)) d_Wr_letterOfLeaf_43 ⟨Nat.le_of_ble_eq_true rfl, Nat.le_of_ble_eq_true rfl⟩) ?_
    refine lv_iadd hx hb d_Wr_letterOfLeaf_46 ?_
    refine lv_i2c hx hb d_Wr_letterOfLeaf_47 rfl ?_
    obtain ⟨hk0, hk⟩ := hk
    exact W.zret hx hb hr hk0 (fun t ht hW => ⟨by rw [hv], ht⟩) (fun q h => nomatch h) d_Wr_letterOfLeaf_48
  · have hv := hv.trans (if_neg hc0)
    have hk := hk.2 hc0
    by_cases hc1 : (f_Te_kindOf a1 σ) = 1
    · have hv := hv.trans (if_pos hc1)
      have hk := hk.1 hc1
      refine lv_lookup (off := 41) (tgt := 49) hx hb d_Wr_letterOfLeaf_8 (by decide) (by rw [hc1]; first | done | decide) (by decide) ?_
      refine lv_bipush (v := 120) hx hb d_Wr_letterOfLeaf_49 (by decide) ?_
      refine lv_aload_n hx hb d_Wr_letterOfLeaf_51 rfl (lv_at hl 0 rfl) ?_
      refine va_get (v := .ref (h 6)) (C := R_Wr) (T := T_Wr) (N := 1) hx hb hg in_Wr hown hK hP 21 rfl rfl 0 (by decide) (hg _ m_152) (fun _ h9 => h9) rfl d_Wr_letterOfLeaf_52 ?_
      refine lv_iload_n hx hb d_Wr_letterOfLeaf_55 rfl (lv_at hl 1 rfl) ?_
      obtain ⟨hk0, hk⟩ := hk
      refine zz_callV (va_runV (As := [.int a1]) (rest := [.int 120]) ⟨hx, hb, hml, hown, hg⟩ (c_Te_nameOf l D ty h px σ a1 hk0) ⟨callB_of 1 hg (gw_C m_455) rfl rfl rfl (hg _ m_3) (hg _ m_492) hd_Te_nameOf ⟨Nat.le_of_ble_eq_true rfl, Nat.le_of_ble_eq_true rfl⟩, hg _ m_453, hg _ m_454⟩ (zz_preV hN hK hP 6 rfl rfl) rfl rfl hl.1 rfl (lv_room (Nat.le_of_ble_eq_true rfl)) d_Wr_letterOfLeaf_56 ⟨Nat.le_of_ble_eq_true rfl, Nat.le_of_ble_eq_true rfl⟩) ?_
      refine lv_iadd hx hb d_Wr_letterOfLeaf_59 ?_
      refine lv_i2c hx hb d_Wr_letterOfLeaf_60 rfl ?_
      obtain ⟨hk0, hk⟩ := hk
      exact W.zret hx hb hr hk0 (fun t ht hW => ⟨by rw [hv], ht⟩) (fun q h => nomatch h) d_Wr_letterOfLeaf_61
    · have hv := hv.trans (if_neg hc1)
      have hk := hk.2 hc1
      refine lv_lookup (off := 54) (tgt := 62) hx hb d_Wr_letterOfLeaf_8 (by decide) ((lv_osw hc0 (by decide)).trans ((lv_osw hc1 (by decide)).trans (rfl))) (by decide) ?_
      refine lv_aload_n hx hb d_Wr_letterOfLeaf_62 rfl (lv_at hl 0 rfl) ?_
      refine va_get (v := .ref (h 6)) (C := R_Wr) (T := T_Wr) (N := 1) hx hb hg in_Wr hown hK hP 21 rfl rfl 0 (by decide) (hg _ m_152) (fun _ h9 => h9) rfl d_Wr_letterOfLeaf_63 ?_
      refine lv_iload_n hx hb d_Wr_letterOfLeaf_66 rfl (lv_at hl 1 rfl) ?_
      obtain ⟨hk0, hk⟩ := hk
      refine zz_callV (va_runV (As := [.int a1]) (rest := []) ⟨hx, hb, hml, hown, hg⟩ (c_Te_topOf l D ty h px σ a1 hk0) ⟨callB_of 1 hg (gw_C m_540) rfl rfl rfl (hg _ m_3) (hg _ m_537) hd_Te_topOf ⟨Nat.le_of_ble_eq_true rfl, Nat.le_of_ble_eq_true rfl⟩, hg _ m_538, hg _ m_539⟩ (zz_preV hN hK hP 6 rfl rfl) rfl rfl hl.1 rfl (lv_room (Nat.le_of_ble_eq_true rfl)) d_Wr_letterOfLeaf_67 ⟨Nat.le_of_ble_eq_true rfl, Nat.le_of_ble_eq_true rfl⟩) ?_
      refine lv_aload_n hx hb d_Wr_letterOfLeaf_70 rfl (lv_at hl 0 rfl) ?_
      refine va_get (v := .ref (h 6)) (C := R_Wr) (T := T_Wr) (N := 1) hx hb hg in_Wr hown hK hP 21 rfl rfl 0 (by decide) (hg _ m_152) (fun _ h9 => h9) rfl d_Wr_letterOfLeaf_71 ?_
      refine lv_iload_n hx hb d_Wr_letterOfLeaf_74 rfl (lv_at hl 1 rfl) ?_
      obtain ⟨hk0, hk⟩ := hk
      refine zz_callV (va_runV (As := [.int a1]) (rest := [.int (f_Te_topOf a1 σ)]) ⟨hx, hb, hml, hown, hg⟩ (c_Te_bottomOf l D ty h px σ a1 hk0) ⟨callB_of 1 hg (gw_C m_544) rfl rfl rfl (hg _ m_3) (hg _ m_541) hd_Te_bottomOf ⟨Nat.le_of_ble_eq_true rfl, Nat.le_of_ble_eq_true rfl⟩, hg _ m_542, hg _ m_543⟩ (zz_preV hN hK hP 6 rfl rfl) rfl rfl hl.1 rfl (lv_room (Nat.le_of_ble_eq_true rfl)) d_Wr_letterOfLeaf_75 ⟨Nat.le_of_ble_eq_true rfl, Nat.le_of_ble_eq_true rfl⟩) ?_
      refine lv_iload_n hx hb d_Wr_letterOfLeaf_78 rfl (lv_at hl 2 rfl) ?_
      obtain ⟨hk0, hk⟩ := hk
      refine zz_callV (va_runS (As := [.int (f_Te_topOf a1 σ), .int (f_Te_bottomOf a1 σ), .int a2]) (rest := []) ⟨hx, hb, hml, hown, hg⟩ (c_Wr_letterOfConstant l D ty h px σ (f_Te_topOf a1 σ) (f_Te_bottomOf a1 σ) a2 hk0) ⟨callB_of 3 hg (gw_C m_547) rfl rfl rfl (hg _ m_6) (hg _ m_545) hd_Wr_letterOfConstant ⟨Nat.le_of_ble_eq_true rfl, Nat.le_of_ble_eq_true rfl⟩, hg _ m_546⟩ (zz_preS hN hK hP) rfl rfl hl.1 rfl (lv_room (Nat.le_of_ble_eq_true rfl)) d_Wr_letterOfLeaf_79 ⟨Nat.le_of_ble_eq_true rfl, Nat.le_of_ble_eq_true rfl⟩) ?_
      obtain ⟨hk0, hk⟩ := hk
      exact W.zret hx hb hr hk0 (fun t ht hW => ⟨by rw [hv], ht⟩) (fun q h => nomatch h) d_Wr_letterOfLeaf_82

