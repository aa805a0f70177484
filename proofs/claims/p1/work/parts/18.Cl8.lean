-- ClauseLedger$Writer.letterOfLeaf(II)C
abbrev b_Wr_letterOfLeaf : ByteArray := prog_12_method_8_code
def y_Wr_letterOfLeaf : MethodName := ⟨"ClauseLedger$Writer", "letterOfLeaf", "(II)C"⟩
theorem hd_Wr_letterOfLeaf : y_Wr_letterOfLeaf.cls ≠ "java/lang/invoke/MethodHandle" ∧ y_Wr_letterOfLeaf.cls ≠ "java/lang/invoke/VarHandle" ∧ (parseMethodDescriptor y_Wr_letterOfLeaf.desc).map (fun d => d.parameters.length) = some 2 := by decide +kernel
theorem d_Wr_letterOfLeaf_0 : decode b_Wr_letterOfLeaf 0 = .ok (.aload_n 0, 1) := by decide +kernel
theorem d_Wr_letterOfLeaf_1 : decode b_Wr_letterOfLeaf 1 = .ok (.getfield 9, 3) := by decide +kernel
theorem d_Wr_letterOfLeaf_4 : decode b_Wr_letterOfLeaf 4 = .ok (.iload_n 1, 1) := by decide +kernel
theorem d_Wr_letterOfLeaf_5 : decode b_Wr_letterOfLeaf 5 = .ok (.invokevirtual 32, 3) := by decide +kernel
theorem d_Wr_letterOfLeaf_8 : decode b_Wr_letterOfLeaf 8 = .ok (.lookupswitch 54 #[(0, 28), (1, 41)], 28) := by decide +kernel
theorem d_Wr_letterOfLeaf_36 : decode b_Wr_letterOfLeaf 36 = .ok (.bipush 97, 2) := by decide +kernel
theorem d_Wr_letterOfLeaf_38 : decode b_Wr_letterOfLeaf 38 = .ok (.aload_n 0, 1) := by decide +kernel
theorem d_Wr_letterOfLeaf_39 : decode b_Wr_letterOfLeaf 39 = .ok (.getfield 9, 3) := by decide +kernel
theorem d_Wr_letterOfLeaf_42 : decode b_Wr_letterOfLeaf 42 = .ok (.iload_n 1, 1) := by decide +kernel
theorem d_Wr_letterOfLeaf_43 : decode b_Wr_letterOfLeaf 43 = .ok (.invokevirtual 52, 3) := by decide +kernel
theorem d_Wr_letterOfLeaf_46 : decode b_Wr_letterOfLeaf 46 = .ok (.iadd, 1) := by decide +kernel
theorem d_Wr_letterOfLeaf_47 : decode b_Wr_letterOfLeaf 47 = .ok (.i2c, 1) := by decide +kernel
theorem d_Wr_letterOfLeaf_48 : decode b_Wr_letterOfLeaf 48 = .ok (.ireturn, 1) := by decide +kernel
theorem d_Wr_letterOfLeaf_49 : decode b_Wr_letterOfLeaf 49 = .ok (.bipush 120, 2) := by decide +kernel
theorem d_Wr_letterOfLeaf_51 : decode b_Wr_letterOfLeaf 51 = .ok (.aload_n 0, 1) := by decide +kernel
theorem d_Wr_letterOfLeaf_52 : decode b_Wr_letterOfLeaf 52 = .ok (.getfield 9, 3) := by decide +kernel
theorem d_Wr_letterOfLeaf_55 : decode b_Wr_letterOfLeaf 55 = .ok (.iload_n 1, 1) := by decide +kernel
theorem d_Wr_letterOfLeaf_56 : decode b_Wr_letterOfLeaf 56 = .ok (.invokevirtual 52, 3) := by decide +kernel
theorem d_Wr_letterOfLeaf_59 : decode b_Wr_letterOfLeaf 59 = .ok (.iadd, 1) := by decide +kernel
theorem d_Wr_letterOfLeaf_60 : decode b_Wr_letterOfLeaf 60 = .ok (.i2c, 1) := by decide +kernel
theorem d_Wr_letterOfLeaf_61 : decode b_Wr_letterOfLeaf 61 = .ok (.ireturn, 1) := by decide +kernel
theorem d_Wr_letterOfLeaf_62 : decode b_Wr_letterOfLeaf 62 = .ok (.aload_n 0, 1) := by decide +kernel
theorem d_Wr_letterOfLeaf_63 : decode b_Wr_letterOfLeaf 63 = .ok (.getfield 9, 3) := by decide +kernel
theorem d_Wr_letterOfLeaf_66 : decode b_Wr_letterOfLeaf 66 = .ok (.iload_n 1, 1) := by decide +kernel
theorem d_Wr_letterOfLeaf_67 : decode b_Wr_letterOfLeaf 67 = .ok (.invokevirtual 66, 3) := by decide +kernel
theorem d_Wr_letterOfLeaf_70 : decode b_Wr_letterOfLeaf 70 = .ok (.aload_n 0, 1) := by decide +kernel
theorem d_Wr_letterOfLeaf_71 : decode b_Wr_letterOfLeaf 71 = .ok (.getfield 9, 3) := by decide +kernel
theorem d_Wr_letterOfLeaf_74 : decode b_Wr_letterOfLeaf 74 = .ok (.iload_n 1, 1) := by decide +kernel
theorem d_Wr_letterOfLeaf_75 : decode b_Wr_letterOfLeaf 75 = .ok (.invokevirtual 69, 3) := by decide +kernel
theorem d_Wr_letterOfLeaf_78 : decode b_Wr_letterOfLeaf 78 = .ok (.iload_n 2, 1) := by decide +kernel
theorem d_Wr_letterOfLeaf_79 : decode b_Wr_letterOfLeaf 79 = .ok (.invokestatic 72, 3) := by decide +kernel
theorem d_Wr_letterOfLeaf_82 : decode b_Wr_letterOfLeaf 82 = .ok (.ireturn, 1) := by decide +kernel
def f_Wr_letterOfLeaf (a1 : Int32) (a2 : Int32) (σ : St) : Int32 := if (f_Te_kindOf a1 σ) = 0 then (((97 + (f_Te_nameOf a1 σ)).toUInt32 % 65536).toInt32) else (if (f_Te_kindOf a1 σ) = 1 then (((120 + (f_Te_nameOf a1 σ)).toUInt32 % 65536).toInt32) else (f_Wr_letterOfConstant (f_Te_topOf a1 σ) (f_Te_bottomOf a1 σ) a2 σ))
def k_Wr_letterOfLeaf (a1 : Int32) (a2 : Int32) (σ : St) : Prop := (k_Te_kindOf a1 σ) ∧ (((f_Te_kindOf a1 σ) = 0 → ((k_Te_nameOf a1 σ) ∧ ((narrow .char (.int (((97 + (f_Te_nameOf a1 σ)).toUInt32 % 65536).toInt32)) = .int (((97 + (f_Te_nameOf a1 σ)).toUInt32 % 65536).toInt32)) ∧ True))) ∧ (¬ (f_Te_kindOf a1 σ) = 0 → (((f_Te_kindOf a1 σ) = 1 → ((k_Te_nameOf a1 σ) ∧ ((narrow .char (.int (((120 + (f_Te_nameOf a1 σ)).toUInt32 % 65536).toInt32)) = .int (((120 + (f_Te_nameOf a1 σ)).toUInt32 % 65536).toInt32)) ∧ True))) ∧ (¬ (f_Te_kindOf a1 σ) = 1 → ((k_Te_topOf a1 σ) ∧ ((k_Te_bottomOf a1 σ) ∧ ((k_Wr_letterOfConstant (f_Te_topOf a1 σ) (f_Te_bottomOf a1 σ) a2 σ) ∧ ((narrow .char (.int (f_Wr_letterOfConstant (f_Te_topOf a1 σ) (f_Te_bottomOf a1 σ) a2 σ)) = .int (f_Wr_letterOfConstant (f_Te_topOf a1 σ) (f_Te_bottomOf a1 σ) a2 σ)) ∧ True))))))))
abbrev w_Wr_letterOfLeaf : List Cond := Cond.code y_Wr_letterOfLeaf b_Wr_letterOfLeaf 3 (some .char) :: gw
abbrev rm_Wr_letterOfLeaf : Room := { frames := 2, cells := 0, slots := 0, locals := 48 }
set_option maxHeartbeats 4000000 in
set_option maxRecDepth 100000 in
theorem c_Wr_letterOfLeaf (l : Launch) (D : va_G) (ty : Nat → ClassId) (h : Nat → Nat) (px : va_W) (sa : Nat → Nat) (σ : St) (a1 : Int32) (a2 : Int32) (hk : k_Wr_letterOfLeaf a1 a2 σ) : Met l y_Wr_letterOfLeaf w_Wr_letterOfLeaf rm_Wr_letterOfLeaf (va_Pc [.ref (h 21), .int a1, .int a2] (fun U => va_P D classes (Wc ty h σ px) U.heap ∧ va_K D classes (Ta ty) U ∧ NW U ∧ MK sa (fun _ => False) U U.heap)) (k2_QcV (.int (f_Wr_letterOfLeaf a1 a2 σ))) 0 0 (fun _ => False) := by
  refine Met.ofW (cc := b_Wr_letterOfLeaf) (maxL := 3) (ret := (some .char)) (by decide) rfl ?_
  intro p e s m args below meth c s₁ B hml hv
  obtain ⟨ha, hP, hK, hN, hM⟩ := hv
  have hx := B.exec
  have hb := B.bytes
  have hr := B.returns
  have hg : ∀ w ∈ gw, w.before args s = true := fun w h9 => atoms_spec (ws := w_Wr_letterOfLeaf) B.pre w (List.mem_cons_of_mem _ h9)
  have hown : s.vm.findClass "ClauseLedger$Writer" = some m.cls := findClass_of_methodNamed B.named
  have hlocks := B.notSynchronized
  have he : entryFrame m args 3 = entryFrame m ([.ref (h 21), .int a1, .int a2] : List Value).toArray 3 := by rw [ha]
  rw [he, lg_entry_eq]
  have hl := lv_entry ([.ref (h 21), .int a1, .int a2]) (n := 3) (Nat.le_of_ble_eq_true rfl)
  generalize (lg_sl ([.ref (h 21), .int a1, .int a2]) ++ List.replicate (3 - (lg_sl ([.ref (h 21), .int a1, .int a2])).length) Slot.unset).toArray = ls at hl ⊢
  have hl : lv_has ls 3 [(0, .ref (h 21)), (1, .int a1), (2, .int a2)] := hl
  generalize hv : f_Wr_letterOfLeaf a1 a2 σ = v
  replace hv := hv.symm
  unfold f_Wr_letterOfLeaf at hv
  unfold k_Wr_letterOfLeaf at hk
  refine lv_aload_n hx hb d_Wr_letterOfLeaf_0 rfl (lv_at hl 0 rfl) ?_
  refine va_get (v := .ref (h 6)) (C := R_Wr) (T := T_Wr) (N := 1) hx hb hg in_Wr hown hK hP 21 rfl rfl 0 (by decide) (hg _ m_152) (fun _ h9 => h9) rfl d_Wr_letterOfLeaf_1 ?_
  refine lv_iload_n hx hb d_Wr_letterOfLeaf_4 rfl (lv_at hl 1 rfl) ?_
  obtain ⟨hk0, hk⟩ := hk
  refine zz_callV (va_runV (As := [.int a1]) (rest := []) ⟨hx, hb, hml, hown, hg⟩ (c_Te_kindOf l D ty h px sa σ a1 hk0) ⟨callB_of 1 hg (gw_C m_434) rfl rfl rfl (hg _ m_3) (hg _ m_469) hd_Te_kindOf ⟨Nat.le_of_ble_eq_true rfl, Nat.le_of_ble_eq_true rfl⟩, hg _ m_432, hg _ m_433⟩ (zz_preV hM hN hK hP 6 rfl rfl) rfl rfl hl.1 rfl (lv_room (Nat.le_of_ble_eq_true rfl)) d_Wr_letterOfLeaf_5 ⟨Nat.le_of_ble_eq_true rfl, Nat.le_of_ble_eq_true rfl⟩) ?_
  by_cases hc0 : (f_Te_kindOf a1 σ) = 0
  · have hv := hv.trans (if_pos hc0)
    have hk := hk.1 hc0
    refine lv_lookup (off := 28) (tgt := 36) hx hb d_Wr_letterOfLeaf_8 (by decide) (by rw [hc0]; first | done | decide) (by decide) ?_
    refine lv_bipush (v := 97) hx hb d_Wr_letterOfLeaf_36 (by decide) ?_
    refine lv_aload_n hx hb d_Wr_letterOfLeaf_38 rfl (lv_at hl 0 rfl) ?_
    refine va_get (v := .ref (h 6)) (C := R_Wr) (T := T_Wr) (N := 1) hx hb hg in_Wr hown hK hP 21 rfl rfl 0 (by decide) (hg _ m_152) (fun _ h9 => h9) rfl d_Wr_letterOfLeaf_39 ?_
    refine lv_iload_n hx hb d_Wr_letterOfLeaf_42 rfl (lv_at hl 1 rfl) ?_
    obtain ⟨hk0, hk⟩ := hk
    refine zz_callV (va_runV (As := [.int a1]) (rest := [.int 97]) ⟨hx, hb, hml, hown, hg⟩ (c_Te_nameOf l D ty h px sa σ a1 hk0) ⟨callB_of 1 hg (gw_C m_455) rfl rfl rfl (hg _ m_3) (hg _ m_492) hd_Te_nameOf ⟨Nat.le_of_ble_eq_true rfl, Nat.le_of_ble_eq_true rfl⟩, hg _ m_453, hg _ m_454⟩ (zz_preV hM hN hK hP 6 rfl rfl) rfl rfl hl.1 rfl (lv_room (Nat.le_of_ble_eq_true rfl)) d_Wr_letterOfLeaf_43 ⟨Nat.le_of_ble_eq_true rfl, Nat.le_of_ble_eq_true rfl⟩) ?_
    refine lv_iadd hx hb d_Wr_letterOfLeaf_46 ?_
    refine lv_i2c hx hb d_Wr_letterOfLeaf_47 rfl ?_
    obtain ⟨hk0, hk⟩ := hk
    exact W.zret hx hb hr hk0 (fun t ht hW => ⟨by rw [hv], ht⟩) (fun q h => nomatch h) d_Wr_letterOfLeaf_48
  · have hv := hv.trans (if_neg hc0)
    have hk := hk.2 hc0
    by_cases hc1 : (f_Te_kindOf a1 σ) = 1
    · have hv := hv.trans (if_pos hc1)
      have hk := hk.1 hc1
      refine lv_lookup (off := 41) (tgt := 49) hx hb d_Wr_letterOfLeaf_8 (by decide) (by rw [hc1]; first | done | decide) (by decide) ?_
      refine lv_bipush (v := 120) hx hb d_Wr_letterOfLeaf_49 (by decide) ?_
      refine lv_aload_n hx hb d_Wr_letterOfLeaf_51 rfl (lv_at hl 0 rfl) ?_
      refine va_get (v := .ref (h 6)) (C := R_Wr) (T := T_Wr) (N := 1) hx hb hg in_Wr hown hK hP 21 rfl rfl 0 (by decide) (hg _ m_152) (fun _ h9 => h9) rfl d_Wr_letterOfLeaf_52 ?_
      refine lv_iload_n hx hb d_Wr_letterOfLeaf_55 rfl (lv_at hl 1 rfl) ?_
      obtain ⟨hk0, hk⟩ := hk
      refine zz_callV (va_runV (As := [.int a1]) (rest := [.int 120]) ⟨hx, hb, hml, hown, hg⟩ (c_Te_nameOf l D ty h px sa σ a1 hk0) ⟨callB_of 1 hg (gw_C m_455) rfl rfl rfl (hg _ m_3) (hg _ m_492) hd_Te_nameOf ⟨Nat.le_of_ble_eq_true rfl, Nat.le_of_ble_eq_true rfl⟩, hg _ m_453, hg _ m_454⟩ (zz_preV hM hN hK hP 6 rfl rfl) rfl rfl hl.1 rfl (lv_room (Nat.le_of_ble_eq_true rfl)) d_Wr_letterOfLeaf_56 ⟨Nat.le_of_ble_eq_true rfl, Nat.le_of_ble_eq_true rfl⟩) ?_
      refine lv_iadd hx hb d_Wr_letterOfLeaf_59 ?_
      refine lv_i2c hx hb d_Wr_letterOfLeaf_60 rfl ?_
      obtain ⟨hk0, hk⟩ := hk
      exact W.zret hx hb hr hk0 (fun t ht hW => ⟨by rw [hv], ht⟩) (fun q h => nomatch h) d_Wr_letterOfLeaf_61
    · have hv := hv.trans (if_neg hc1)
      have hk := hk.2 hc1
      refine lv_lookup (off := 54) (tgt := 62) hx hb d_Wr_letterOfLeaf_8 (by decide) ((lv_osw hc0 (by decide)).trans ((lv_osw hc1 (by decide)).trans (rfl))) (by decide) ?_
      refine lv_aload_n hx hb d_Wr_letterOfLeaf_62 rfl (lv_at hl 0 rfl) ?_
      refine va_get (v := .ref (h 6)) (C := R_Wr) (T := T_Wr) (N := 1) hx hb hg in_Wr hown hK hP 21 rfl rfl 0 (by decide) (hg _ m_152) (fun _ h9 => h9) rfl d_Wr_letterOfLeaf_63 ?_
      refine lv_iload_n hx hb d_Wr_letterOfLeaf_66 rfl (lv_at hl 1 rfl) ?_
      obtain ⟨hk0, hk⟩ := hk
      refine zz_callV (va_runV (As := [.int a1]) (rest := []) ⟨hx, hb, hml, hown, hg⟩ (c_Te_topOf l D ty h px sa σ a1 hk0) ⟨callB_of 1 hg (gw_C m_540) rfl rfl rfl (hg _ m_3) (hg _ m_537) hd_Te_topOf ⟨Nat.le_of_ble_eq_true rfl, Nat.le_of_ble_eq_true rfl⟩, hg _ m_538, hg _ m_539⟩ (zz_preV hM hN hK hP 6 rfl rfl) rfl rfl hl.1 rfl (lv_room (Nat.le_of_ble_eq_true rfl)) d_Wr_letterOfLeaf_67 ⟨Nat.le_of_ble_eq_true rfl, Nat.le_of_ble_eq_true rfl⟩) ?_
      refine lv_aload_n hx hb d_Wr_letterOfLeaf_70 rfl (lv_at hl 0 rfl) ?_
      refine va_get (v := .ref (h 6)) (C := R_Wr) (T := T_Wr) (N := 1) hx hb hg in_Wr hown hK hP 21 rfl rfl 0 (by decide) (hg _ m_152) (fun _ h9 => h9) rfl d_Wr_letterOfLeaf_71 ?_
      refine lv_iload_n hx hb d_Wr_letterOfLeaf_74 rfl (lv_at hl 1 rfl) ?_
      obtain ⟨hk0, hk⟩ := hk
      refine zz_callV (va_runV (As := [.int a1]) (rest := [.int (f_Te_topOf a1 σ)]) ⟨hx, hb, hml, hown, hg⟩ (c_Te_bottomOf l D ty h px sa σ a1 hk0) ⟨callB_of 1 hg (gw_C m_544) rfl rfl rfl (hg _ m_3) (hg _ m_541) hd_Te_bottomOf ⟨Nat.le_of_ble_eq_true rfl, Nat.le_of_ble_eq_true rfl⟩, hg _ m_542, hg _ m_543⟩ (zz_preV hM hN hK hP 6 rfl rfl) rfl rfl hl.1 rfl (lv_room (Nat.le_of_ble_eq_true rfl)) d_Wr_letterOfLeaf_75 ⟨Nat.le_of_ble_eq_true rfl, Nat.le_of_ble_eq_true rfl⟩) ?_
      refine lv_iload_n hx hb d_Wr_letterOfLeaf_78 rfl (lv_at hl 2 rfl) ?_
      obtain ⟨hk0, hk⟩ := hk
      refine zz_callV (va_runS (As := [.int (f_Te_topOf a1 σ), .int (f_Te_bottomOf a1 σ), .int a2]) (rest := []) ⟨hx, hb, hml, hown, hg⟩ (c_Wr_letterOfConstant l D ty h px sa σ (f_Te_topOf a1 σ) (f_Te_bottomOf a1 σ) a2 hk0) ⟨callB_of 3 hg (gw_C m_547) rfl rfl rfl (hg _ m_6) (hg _ m_545) hd_Wr_letterOfConstant ⟨Nat.le_of_ble_eq_true rfl, Nat.le_of_ble_eq_true rfl⟩, hg _ m_546⟩ (zz_preS hM hN hK hP) rfl rfl hl.1 rfl (lv_room (Nat.le_of_ble_eq_true rfl)) d_Wr_letterOfLeaf_79 ⟨Nat.le_of_ble_eq_true rfl, Nat.le_of_ble_eq_true rfl⟩) ?_
      obtain ⟨hk0, hk⟩ := hk
      exact W.zret hx hb hr hk0 (fun t ht hW => ⟨by rw [hv], ht⟩) (fun q h => nomatch h) d_Wr_letterOfLeaf_82

-- ClauseLedger$Writer.letter(II)C
abbrev b_Wr_letter : ByteArray := prog_12_method_4_code
def y_Wr_letter : MethodName := ⟨"ClauseLedger$Writer", "letter", "(II)C"⟩
theorem hd_Wr_letter : y_Wr_letter.cls ≠ "java/lang/invoke/MethodHandle" ∧ y_Wr_letter.cls ≠ "java/lang/invoke/VarHandle" ∧ (parseMethodDescriptor y_Wr_letter.desc).map (fun d => d.parameters.length) = some 2 := by decide +kernel
theorem d_Wr_letter_0 : decode b_Wr_letter 0 = .ok (.iload_n 1, 1) := by decide +kernel
theorem d_Wr_letter_1 : decode b_Wr_letter 1 = .ok (.istore_n 3, 1) := by decide +kernel
theorem d_Wr_letter_2 : decode b_Wr_letter 2 = .ok (.iload_n 2, 1) := by decide +kernel
theorem d_Wr_letter_3 : decode b_Wr_letter 3 = .ok (.istore 4, 2) := by decide +kernel
theorem d_Wr_letter_5 : decode b_Wr_letter 5 = .ok (.iconst 0, 1) := by decide +kernel
theorem d_Wr_letter_6 : decode b_Wr_letter 6 = .ok (.istore 5, 2) := by decide +kernel
theorem d_Wr_letter_8 : decode b_Wr_letter 8 = .ok (.iload 5, 2) := by decide +kernel
theorem d_Wr_letter_10 : decode b_Wr_letter 10 = .ok (.bipush 12, 2) := by decide +kernel
theorem d_Wr_letter_12 : decode b_Wr_letter 12 = .ok (.if_icmp .ge 147, 3) := by decide +kernel
theorem d_Wr_letter_15 : decode b_Wr_letter 15 = .ok (.aload_n 0, 1) := by decide +kernel
theorem d_Wr_letter_16 : decode b_Wr_letter 16 = .ok (.getfield 9, 3) := by decide +kernel
theorem d_Wr_letter_19 : decode b_Wr_letter 19 = .ok (.iload_n 3, 1) := by decide +kernel
theorem d_Wr_letter_20 : decode b_Wr_letter 20 = .ok (.invokevirtual 27, 3) := by decide +kernel
theorem d_Wr_letter_23 : decode b_Wr_letter 23 = .ok (.iconst (-1), 1) := by decide +kernel
theorem d_Wr_letter_24 : decode b_Wr_letter 24 = .ok (.if_icmp .eq 135, 3) := by decide +kernel
theorem d_Wr_letter_27 : decode b_Wr_letter 27 = .ok (.aload_n 0, 1) := by decide +kernel
theorem d_Wr_letter_28 : decode b_Wr_letter 28 = .ok (.getfield 9, 3) := by decide +kernel
theorem d_Wr_letter_31 : decode b_Wr_letter 31 = .ok (.iload_n 3, 1) := by decide +kernel
theorem d_Wr_letter_32 : decode b_Wr_letter 32 = .ok (.invokevirtual 27, 3) := by decide +kernel
theorem d_Wr_letter_35 : decode b_Wr_letter 35 = .ok (.istore 6, 2) := by decide +kernel
theorem d_Wr_letter_37 : decode b_Wr_letter 37 = .ok (.aload_n 0, 1) := by decide +kernel
theorem d_Wr_letter_38 : decode b_Wr_letter 38 = .ok (.getfield 9, 3) := by decide +kernel
theorem d_Wr_letter_41 : decode b_Wr_letter 41 = .ok (.iload_n 3, 1) := by decide +kernel
theorem d_Wr_letter_42 : decode b_Wr_letter 42 = .ok (.invokevirtual 32, 3) := by decide +kernel
theorem d_Wr_letter_45 : decode b_Wr_letter 45 = .ok (.invokestatic 15, 3) := by decide +kernel
theorem d_Wr_letter_48 : decode b_Wr_letter 48 = .ok (.istore 7, 2) := by decide +kernel
theorem d_Wr_letter_50 : decode b_Wr_letter 50 = .ok (.iload 4, 2) := by decide +kernel
theorem d_Wr_letter_52 : decode b_Wr_letter 52 = .ok (.iload 7, 2) := by decide +kernel
theorem d_Wr_letter_54 : decode b_Wr_letter 54 = .ok (.if_icmp .ge 11, 3) := by decide +kernel
theorem d_Wr_letter_57 : decode b_Wr_letter 57 = .ok (.aload_n 0, 1) := by decide +kernel
theorem d_Wr_letter_58 : decode b_Wr_letter 58 = .ok (.iload_n 3, 1) := by decide +kernel
theorem d_Wr_letter_59 : decode b_Wr_letter 59 = .ok (.iload 4, 2) := by decide +kernel
theorem d_Wr_letter_61 : decode b_Wr_letter 61 = .ok (.invokevirtual 35, 3) := by decide +kernel
theorem d_Wr_letter_64 : decode b_Wr_letter 64 = .ok (.ireturn, 1) := by decide +kernel
theorem d_Wr_letter_65 : decode b_Wr_letter 65 = .ok (.iload 4, 2) := by decide +kernel
theorem d_Wr_letter_67 : decode b_Wr_letter 67 = .ok (.iload 7, 2) := by decide +kernel
theorem d_Wr_letter_69 : decode b_Wr_letter 69 = .ok (.isub, 1) := by decide +kernel
theorem d_Wr_letter_70 : decode b_Wr_letter 70 = .ok (.istore 4, 2) := by decide +kernel
theorem d_Wr_letter_72 : decode b_Wr_letter 72 = .ok (.iload 4, 2) := by decide +kernel
theorem d_Wr_letter_74 : decode b_Wr_letter 74 = .ok (.aload_n 0, 1) := by decide +kernel
theorem d_Wr_letter_75 : decode b_Wr_letter 75 = .ok (.getfield 9, 3) := by decide +kernel
theorem d_Wr_letter_78 : decode b_Wr_letter 78 = .ok (.iload 6, 2) := by decide +kernel
theorem d_Wr_letter_80 : decode b_Wr_letter 80 = .ok (.invokevirtual 39, 3) := by decide +kernel
theorem d_Wr_letter_83 : decode b_Wr_letter 83 = .ok (.if_icmp .ge 9, 3) := by decide +kernel
theorem d_Wr_letter_86 : decode b_Wr_letter 86 = .ok (.iload 6, 2) := by decide +kernel
theorem d_Wr_letter_88 : decode b_Wr_letter 88 = .ok (.istore_n 3, 1) := by decide +kernel
theorem d_Wr_letter_89 : decode b_Wr_letter 89 = .ok (.goto 64, 3) := by decide +kernel
theorem d_Wr_letter_92 : decode b_Wr_letter 92 = .ok (.iload 4, 2) := by decide +kernel
theorem d_Wr_letter_94 : decode b_Wr_letter 94 = .ok (.aload_n 0, 1) := by decide +kernel
theorem d_Wr_letter_95 : decode b_Wr_letter 95 = .ok (.getfield 9, 3) := by decide +kernel
theorem d_Wr_letter_98 : decode b_Wr_letter 98 = .ok (.iload 6, 2) := by decide +kernel
theorem d_Wr_letter_100 : decode b_Wr_letter 100 = .ok (.invokevirtual 39, 3) := by decide +kernel
theorem d_Wr_letter_103 : decode b_Wr_letter 103 = .ok (.isub, 1) := by decide +kernel
theorem d_Wr_letter_104 : decode b_Wr_letter 104 = .ok (.istore 4, 2) := by decide +kernel
theorem d_Wr_letter_106 : decode b_Wr_letter 106 = .ok (.aload_n 0, 1) := by decide +kernel
theorem d_Wr_letter_107 : decode b_Wr_letter 107 = .ok (.getfield 9, 3) := by decide +kernel
theorem d_Wr_letter_110 : decode b_Wr_letter 110 = .ok (.iload_n 3, 1) := by decide +kernel
theorem d_Wr_letter_111 : decode b_Wr_letter 111 = .ok (.invokevirtual 42, 3) := by decide +kernel
theorem d_Wr_letter_114 : decode b_Wr_letter 114 = .ok (.istore 8, 2) := by decide +kernel
theorem d_Wr_letter_116 : decode b_Wr_letter 116 = .ok (.iload 8, 2) := by decide +kernel
theorem d_Wr_letter_118 : decode b_Wr_letter 118 = .ok (.iconst (-1), 1) := by decide +kernel
theorem d_Wr_letter_119 : decode b_Wr_letter 119 = .ok (.if_icmp .eq 17, 3) := by decide +kernel
theorem d_Wr_letter_122 : decode b_Wr_letter 122 = .ok (.iload 4, 2) := by decide +kernel
theorem d_Wr_letter_124 : decode b_Wr_letter 124 = .ok (.aload_n 0, 1) := by decide +kernel
theorem d_Wr_letter_125 : decode b_Wr_letter 125 = .ok (.getfield 9, 3) := by decide +kernel
theorem d_Wr_letter_128 : decode b_Wr_letter 128 = .ok (.iload 8, 2) := by decide +kernel
theorem d_Wr_letter_130 : decode b_Wr_letter 130 = .ok (.invokevirtual 39, 3) := by decide +kernel
theorem d_Wr_letter_133 : decode b_Wr_letter 133 = .ok (.if_icmp .le 6, 3) := by decide +kernel
theorem d_Wr_letter_136 : decode b_Wr_letter 136 = .ok (.bipush 41, 2) := by decide +kernel
theorem d_Wr_letter_138 : decode b_Wr_letter 138 = .ok (.ireturn, 1) := by decide +kernel
theorem d_Wr_letter_139 : decode b_Wr_letter 139 = .ok (.iload 4, 2) := by decide +kernel
theorem d_Wr_letter_141 : decode b_Wr_letter 141 = .ok (.ifCond .ne 6, 3) := by decide +kernel
theorem d_Wr_letter_144 : decode b_Wr_letter 144 = .ok (.bipush 32, 2) := by decide +kernel
theorem d_Wr_letter_146 : decode b_Wr_letter 146 = .ok (.ireturn, 1) := by decide +kernel
theorem d_Wr_letter_147 : decode b_Wr_letter 147 = .ok (.iinc 4 (-1), 3) := by decide +kernel
theorem d_Wr_letter_150 : decode b_Wr_letter 150 = .ok (.iload 8, 2) := by decide +kernel
theorem d_Wr_letter_152 : decode b_Wr_letter 152 = .ok (.istore_n 3, 1) := by decide +kernel
theorem d_Wr_letter_153 : decode b_Wr_letter 153 = .ok (.iinc 5 1, 3) := by decide +kernel
theorem d_Wr_letter_156 : decode b_Wr_letter 156 = .ok (.goto (-148), 3) := by decide +kernel
theorem d_Wr_letter_159 : decode b_Wr_letter 159 = .ok (.aload_n 0, 1) := by decide +kernel
theorem d_Wr_letter_160 : decode b_Wr_letter 160 = .ok (.iload_n 3, 1) := by decide +kernel
theorem d_Wr_letter_161 : decode b_Wr_letter 161 = .ok (.iload 4, 2) := by decide +kernel
theorem d_Wr_letter_163 : decode b_Wr_letter 163 = .ok (.invokevirtual 45, 3) := by decide +kernel
theorem d_Wr_letter_166 : decode b_Wr_letter 166 = .ok (.ireturn, 1) := by decide +kernel
def f_Wr_letter_136 (σ : St) : Int32 := 41
def k_Wr_letter_136 (σ : St) : Prop := (narrow .char (.int 41) = .int 41) ∧ True
def f_Wr_letter_153 (F8 : (Int32 → Int32 → Int32 → St → Int32)) (x3 : Int32) (x4 : Int32) (x5 : Int32) (σ : St) : Int32 := F8 x3 x4 (x5 + 1) σ
def k_Wr_letter_153 (K8 : (Int32 → Int32 → Int32 → St → Prop)) (x3 : Int32) (x4 : Int32) (x5 : Int32) (σ : St) : Prop := K8 x3 x4 (x5 + 1) σ
def f_Wr_letter_116 (F8 : (Int32 → Int32 → Int32 → St → Int32)) (x4 : Int32) (x5 : Int32) (x8 : Int32) (σ : St) : Int32 := if x8 = (-1) then (f_Wr_letter_136 σ) else (if x4 ≤ (f_Te_lengthOf x8 σ) then (if x4 = 0 then 32 else (f_Wr_letter_153 F8 x8 (x4 + (-1)) x5 σ)) else (f_Wr_letter_136 σ))
def k_Wr_letter_116 (K8 : (Int32 → Int32 → Int32 → St → Prop)) (x4 : Int32) (x5 : Int32) (x8 : Int32) (σ : St) : Prop := (x8 = (-1) → (k_Wr_letter_136 σ)) ∧ (¬ x8 = (-1) → ((k_Te_lengthOf x8 σ) ∧ ((x4 ≤ (f_Te_lengthOf x8 σ) → ((x4 = 0 → ((narrow .char (.int 32) = .int 32) ∧ True)) ∧ (¬ x4 = 0 → (k_Wr_letter_153 K8 x8 (x4 + (-1)) x5 σ)))) ∧ (¬ x4 ≤ (f_Te_lengthOf x8 σ) → (k_Wr_letter_136 σ)))))
def f_Wr_letter_106 (F8 : (Int32 → Int32 → Int32 → St → Int32)) (x3 : Int32) (x4 : Int32) (x5 : Int32) (σ : St) : Int32 := f_Wr_letter_116 F8 x4 x5 (f_Te_secondOf x3 σ) σ
def k_Wr_letter_106 (K8 : (Int32 → Int32 → Int32 → St → Prop)) (x3 : Int32) (x4 : Int32) (x5 : Int32) (σ : St) : Prop := (k_Te_secondOf x3 σ) ∧ (k_Wr_letter_116 K8 x4 x5 (f_Te_secondOf x3 σ) σ)
def f_Wr_letter_72 (F8 : (Int32 → Int32 → Int32 → St → Int32)) (x3 : Int32) (x4 : Int32) (x5 : Int32) (x6 : Int32) (σ : St) : Int32 := if (f_Te_lengthOf x6 σ) ≤ x4 then (f_Wr_letter_106 F8 x3 (x4 - (f_Te_lengthOf x6 σ)) x5 σ) else (f_Wr_letter_153 F8 x6 x4 x5 σ)
def k_Wr_letter_72 (K8 : (Int32 → Int32 → Int32 → St → Prop)) (x3 : Int32) (x4 : Int32) (x5 : Int32) (x6 : Int32) (σ : St) : Prop := (k_Te_lengthOf x6 σ) ∧ (((f_Te_lengthOf x6 σ) ≤ x4 → ((k_Te_lengthOf x6 σ) ∧ (k_Wr_letter_106 K8 x3 (x4 - (f_Te_lengthOf x6 σ)) x5 σ))) ∧ (¬ (f_Te_lengthOf x6 σ) ≤ x4 → (k_Wr_letter_153 K8 x6 x4 x5 σ)))
def f_Wr_letter_50 (F8 : (Int32 → Int32 → Int32 → St → Int32)) (x3 : Int32) (x4 : Int32) (x5 : Int32) (x6 : Int32) (x7 : Int32) (σ : St) : Int32 := if x7 ≤ x4 then (f_Wr_letter_72 F8 x3 (x4 - x7) x5 x6 σ) else (f_Wr_letterOfHead x3 x4 σ)
def k_Wr_letter_50 (K8 : (Int32 → Int32 → Int32 → St → Prop)) (x3 : Int32) (x4 : Int32) (x5 : Int32) (x6 : Int32) (x7 : Int32) (σ : St) : Prop := (x7 ≤ x4 → (k_Wr_letter_72 K8 x3 (x4 - x7) x5 x6 σ)) ∧ (¬ x7 ≤ x4 → ((k_Wr_letterOfHead x3 x4 σ) ∧ ((narrow .char (.int (f_Wr_letterOfHead x3 x4 σ)) = .int (f_Wr_letterOfHead x3 x4 σ)) ∧ True)))
def f_Wr_letter_37 (F8 : (Int32 → Int32 → Int32 → St → Int32)) (x3 : Int32) (x4 : Int32) (x5 : Int32) (x6 : Int32) (σ : St) : Int32 := f_Wr_letter_50 F8 x3 x4 x5 x6 (f_Wr_headLength (f_Te_kindOf x3 σ) σ) σ
def k_Wr_letter_37 (K8 : (Int32 → Int32 → Int32 → St → Prop)) (x3 : Int32) (x4 : Int32) (x5 : Int32) (x6 : Int32) (σ : St) : Prop := (k_Te_kindOf x3 σ) ∧ ((k_Wr_headLength (f_Te_kindOf x3 σ) σ) ∧ (k_Wr_letter_50 K8 x3 x4 x5 x6 (f_Wr_headLength (f_Te_kindOf x3 σ) σ) σ))
def f_Wr_letter_159 (x3 : Int32) (x4 : Int32) (σ : St) : Int32 := f_Wr_letterOfLeaf x3 x4 σ
def k_Wr_letter_159 (x3 : Int32) (x4 : Int32) (σ : St) : Prop := (k_Wr_letterOfLeaf x3 x4 σ) ∧ ((narrow .char (.int (f_Wr_letterOfLeaf x3 x4 σ)) = .int (f_Wr_letterOfLeaf x3 x4 σ)) ∧ True)
def f_Wr_letter_8 : Nat → Int32 → Int32 → Int32 → St → Int32
  | 0, _, _, _, σ => 0
  | n + 1, x3, x4, x5, σ => if 12 ≤ x5 then (f_Wr_letter_159 x3 x4 σ) else (if (f_Te_firstOf x3 σ) = (-1) then (f_Wr_letter_159 x3 x4 σ) else (f_Wr_letter_37 (f_Wr_letter_8 n) x3 x4 x5 (f_Te_firstOf x3 σ) σ))
def k_Wr_letter_8 : Nat → Int32 → Int32 → Int32 → St → Prop
  | 0, _, _, _, _ => False
  | n + 1, x3, x4, x5, σ => (12 ≤ x5 → (k_Wr_letter_159 x3 x4 σ)) ∧ (¬ 12 ≤ x5 → ((k_Te_firstOf x3 σ) ∧ (((f_Te_firstOf x3 σ) = (-1) → (k_Wr_letter_159 x3 x4 σ)) ∧ (¬ (f_Te_firstOf x3 σ) = (-1) → ((k_Te_firstOf x3 σ) ∧ (k_Wr_letter_37 (k_Wr_letter_8 n) x3 x4 x5 (f_Te_firstOf x3 σ) σ))))))
def f_Wr_letter (a1 : Int32) (a2 : Int32) (σ : St) : Int32 := f_Wr_letter_8 1000 a1 a2 0 σ
def k_Wr_letter (a1 : Int32) (a2 : Int32) (σ : St) : Prop := k_Wr_letter_8 1000 a1 a2 0 σ
abbrev w_Wr_letter : List Cond := Cond.code y_Wr_letter b_Wr_letter 9 (some .char) :: gw
abbrev rm_Wr_letter : Room := { frames := 10, cells := 0, slots := 0, locals := 256 }
set_option maxHeartbeats 4000000 in
set_option maxRecDepth 100000 in
theorem c_Wr_letter (l : Launch) (D : va_G) (ty : Nat → ClassId) (h : Nat → Nat) (px : va_W) (sa : Nat → Nat) (σ : St) (a1 : Int32) (a2 : Int32) (hk : k_Wr_letter a1 a2 σ) : Met l y_Wr_letter w_Wr_letter rm_Wr_letter (va_Pc [.ref (h 21), .int a1, .int a2] (fun U => va_P D classes (Wc ty h σ px) U.heap ∧ va_K D classes (Ta ty) U ∧ NW U ∧ MK sa (fun _ => False) U U.heap)) (k2_QcV (.int (f_Wr_letter a1 a2 σ))) 0 0 (fun _ => False) := by
  refine Met.ofW (cc := b_Wr_letter) (maxL := 9) (ret := (some .char)) (by decide) rfl ?_
  intro p e s m args below meth c s₁ B hml hv
  obtain ⟨ha, hP, hK, hN, hM⟩ := hv
  have hx := B.exec
  have hb := B.bytes
  have hr := B.returns
  have hg : ∀ w ∈ gw, w.before args s = true := fun w h9 => atoms_spec (ws := w_Wr_letter) B.pre w (List.mem_cons_of_mem _ h9)
  have hown : s.vm.findClass "ClauseLedger$Writer" = some m.cls := findClass_of_methodNamed B.named
  have hlocks := B.notSynchronized
  have he : entryFrame m args 9 = entryFrame m ([.ref (h 21), .int a1, .int a2] : List Value).toArray 9 := by rw [ha]
  rw [he, lg_entry_eq]
  have hl := lv_entry ([.ref (h 21), .int a1, .int a2]) (n := 9) (Nat.le_of_ble_eq_true rfl)
  generalize (lg_sl ([.ref (h 21), .int a1, .int a2]) ++ List.replicate (9 - (lg_sl ([.ref (h 21), .int a1, .int a2])).length) Slot.unset).toArray = ls at hl ⊢
  have hl : lv_has ls 9 [(0, .ref (h 21)), (1, .int a1), (2, .int a2)] := hl
  generalize hv : f_Wr_letter a1 a2 σ = v
  replace hv := hv.symm
  have B136 : ∀ (ls : Array Slot), v = f_Wr_letter_136 σ → k_Wr_letter_136 σ → lv_has ls 9 [] → W p l e (headSpec w_Wr_letter rm_Wr_letter).room s m args below meth c s.heap [] 0 0 (MQ below (k2_QcV (.int v)) args s 0 0 (fun _ => False)) (F0 m 136 ls []) := by
    intro ls hv hk hl
    unfold f_Wr_letter_136 at hv
    unfold k_Wr_letter_136 at hk
    refine lv_bipush (v := 41) hx hb d_Wr_letter_136 (by decide) ?_
    obtain ⟨hk0, hk⟩ := hk
    exact W.zret hx hb hr hk0 (fun t ht hW => ⟨by rw [hv], ht⟩) (fun q h => nomatch h) d_Wr_letter_138
  have B159 : ∀ (ls : Array Slot) (x3 : Int32) (x4 : Int32), v = f_Wr_letter_159 x3 x4 σ → k_Wr_letter_159 x3 x4 σ → lv_has ls 9 [(0, .ref (h 21)), (3, .int x3), (4, .int x4)] → W p l e (headSpec w_Wr_letter rm_Wr_letter).room s m args below meth c s.heap [] 0 0 (MQ below (k2_QcV (.int v)) args s 0 0 (fun _ => False)) (F0 m 159 ls []) := by
    intro ls x3 x4 hv hk hl
    unfold f_Wr_letter_159 at hv
    unfold k_Wr_letter_159 at hk
    refine lv_aload_n hx hb d_Wr_letter_159 rfl (lv_at hl 0 rfl) ?_
    refine lv_iload_n hx hb d_Wr_letter_160 rfl (lv_at hl 1 rfl) ?_
    refine lv_iload hx hb d_Wr_letter_161 (lv_at hl 2 rfl) ?_
    obtain ⟨hk0, hk⟩ := hk
    refine zz_callV (va_runV (As := [.int x3, .int x4]) (rest := []) ⟨hx, hb, hml, hown, hg⟩ (c_Wr_letterOfLeaf l D ty h px sa σ x3 x4 hk0) ⟨callB_of 2 hg (gw_C m_536) rfl rfl rfl (hg _ m_6) (hg _ m_533) hd_Wr_letterOfLeaf ⟨Nat.le_of_ble_eq_true rfl, Nat.le_of_ble_eq_true rfl⟩, hg _ m_535, hg _ ms_7⟩ (zz_preV hM hN hK hP 21 rfl rfl) rfl rfl hl.1 rfl (lv_room (Nat.le_of_ble_eq_true rfl)) d_Wr_letter_163 ⟨Nat.le_of_ble_eq_true rfl, Nat.le_of_ble_eq_true rfl⟩) ?_
    obtain ⟨hk0, hk⟩ := hk
    exact W.zret hx hb hr hk0 (fun t ht hW => ⟨by rw [hv], ht⟩) (fun q h => nomatch h) d_Wr_letter_166
  have B8 : ∀ (n8 : Nat) (ls : Array Slot) (x3 : Int32) (x4 : Int32) (x5 : Int32), v = f_Wr_letter_8 n8 x3 x4 x5 σ → k_Wr_letter_8 n8 x3 x4 x5 σ → lv_has ls 9 [(0, .ref (h 21)), (3, .int x3), (4, .int x4), (5, .int x5)] → W p l e (headSpec w_Wr_letter rm_Wr_letter).room s m args below meth c s.heap [] 0 0 (MQ below (k2_QcV (.int v)) args s 0 0 (fun _ => False)) (F0 m 8 ls []) := by
    intro n8
    induction n8 with
    | zero => intro ls x3 x4 x5 hv hk hl; exact hk.elim
    | succ n8 ih8 =>
      have B153 : ∀ (ls : Array Slot) (x3 : Int32) (x4 : Int32) (x5 : Int32), v = f_Wr_letter_153 (f_Wr_letter_8 n8) x3 x4 x5 σ → k_Wr_letter_153 (k_Wr_letter_8 n8) x3 x4 x5 σ → lv_has ls 9 [(0, .ref (h 21)), (3, .int x3), (4, .int x4), (5, .int x5)] → W p l e (headSpec w_Wr_letter rm_Wr_letter).room s m args below meth c s.heap [] 0 0 (MQ below (k2_QcV (.int v)) args s 0 0 (fun _ => False)) (F0 m 153 ls []) := by
        intro ls x3 x4 x5 hv hk hl
        unfold f_Wr_letter_153 at hv
        unfold k_Wr_letter_153 at hk
        refine lv_iinc (k := 3) (v := x5 + 1) (lv' := [(5, .int (x5 + 1)), (0, .ref (h 21)), (3, .int x3), (4, .int x4)]) hx hb d_Wr_letter_153 hl rfl (by first | rfl | simp [lit1, litm1]) (by decide) rfl (fun ls hl => ?_)
        refine lv_goto (tgt := 8) hx hb d_Wr_letter_156 (by decide) ?_
        exact ih8 _ x3 x4 (x5 + 1) hv hk (lv_sub hl [1, 2, 3, 0] rfl)
      have B116 : ∀ (ls : Array Slot) (x4 : Int32) (x5 : Int32) (x8 : Int32), v = f_Wr_letter_116 (f_Wr_letter_8 n8) x4 x5 x8 σ → k_Wr_letter_116 (k_Wr_letter_8 n8) x4 x5 x8 σ → lv_has ls 9 [(0, .ref (h 21)), (4, .int x4), (5, .int x5), (8, .int x8)] → W p l e (headSpec w_Wr_letter rm_Wr_letter).room s m args below meth c s.heap [] 0 0 (MQ below (k2_QcV (.int v)) args s 0 0 (fun _ => False)) (F0 m 116 ls []) := by
        intro ls x4 x5 x8 hv hk hl
        unfold f_Wr_letter_116 at hv
        unfold k_Wr_letter_116 at hk
        refine lv_iload hx hb d_Wr_letter_116 (lv_at hl 3 rfl) ?_
        refine lv_iconst (v := -1) hx hb d_Wr_letter_118 (by decide) ?_
        refine lv_icmp_eq (tgt := 136) hx hb d_Wr_letter_119 (by decide) (fun hc => ?_) (fun hc => ?_)
        · have hv := hv.trans (if_pos hc)
          have hk := hk.1 hc
          exact B136 _  hv hk (lv_sub hl [] rfl)
        · have hv := hv.trans (if_neg hc)
          have hk := hk.2 hc
          refine lv_iload hx hb d_Wr_letter_122 (lv_at hl 1 rfl) ?_
          refine lv_aload_n hx hb d_Wr_letter_124 rfl (lv_at hl 0 rfl) ?_
          refine va_get (v := .ref (h 6)) (C := R_Wr) (T := T_Wr) (N := 1) hx hb hg in_Wr hown hK hP 21 rfl rfl 0 (by decide) (hg _ m_152) (fun _ h9 => h9) rfl d_Wr_letter_125 ?_
          refine lv_iload hx hb d_Wr_letter_128 (lv_at hl 3 rfl) ?_
          obtain ⟨hk0, hk⟩ := hk
          refine zz_callV (va_runV (As := [.int x8]) (rest := [.int x4]) ⟨hx, hb, hml, hown, hg⟩ (c_Te_lengthOf l D ty h px sa σ x8 hk0) ⟨callB_of 1 hg (gw_C m_463) rfl rfl rfl (hg _ m_3) (hg _ m_531) hd_Te_lengthOf ⟨Nat.le_of_ble_eq_true rfl, Nat.le_of_ble_eq_true rfl⟩, hg _ m_461, hg _ m_462⟩ (zz_preV hM hN hK hP 6 rfl rfl) rfl rfl hl.1 rfl (lv_room (Nat.le_of_ble_eq_true rfl)) d_Wr_letter_130 ⟨Nat.le_of_ble_eq_true rfl, Nat.le_of_ble_eq_true rfl⟩) ?_
          refine lv_icmp_le (tgt := 139) hx hb d_Wr_letter_133 (by decide) (fun hc => ?_) (fun hc => ?_)
          · have hv := hv.trans (if_pos hc)
            have hk := hk.1 hc
            refine lv_iload hx hb d_Wr_letter_139 (lv_at hl 1 rfl) ?_
            refine lv_if_ne (tgt := 147) hx hb d_Wr_letter_141 (by decide) (fun hc => ?_) (fun hc => ?_)
            · have hv := hv.trans (if_neg hc)
              have hk := hk.2 hc
              refine lv_iinc (k := 1) (v := x4 + (-1)) (lv' := [(4, .int (x4 + (-1))), (0, .ref (h 21)), (5, .int x5), (8, .int x8)]) hx hb d_Wr_letter_147 hl rfl (by first | rfl | simp [lit1, litm1]) (by decide) rfl (fun ls hl => ?_)
              refine lv_iload hx hb d_Wr_letter_150 (lv_at hl 3 rfl) ?_
              refine lv_istore_n (lv' := [(3, .int x8), (4, .int (x4 + (-1))), (0, .ref (h 21)), (5, .int x5), (8, .int x8)]) hx hb d_Wr_letter_152 rfl hl (by decide) rfl (fun ls hl => ?_)
              exact B153 _ x8 (x4 + (-1)) x5 hv hk (lv_sub hl [2, 0, 1, 3] rfl)
            · have hv := hv.trans (if_pos hc)
              have hk := hk.1 hc
              refine lv_bipush (v := 32) hx hb d_Wr_letter_144 (by decide) ?_
              obtain ⟨hk0, hk⟩ := hk
              exact W.zret hx hb hr hk0 (fun t ht hW => ⟨by rw [hv], ht⟩) (fun q h => nomatch h) d_Wr_letter_146
          · have hv := hv.trans (if_neg hc)
            have hk := hk.2 hc
            exact B136 _  hv hk (lv_sub hl [] rfl)
      have B106 : ∀ (ls : Array Slot) (x3 : Int32) (x4 : Int32) (x5 : Int32), v = f_Wr_letter_106 (f_Wr_letter_8 n8) x3 x4 x5 σ → k_Wr_letter_106 (k_Wr_letter_8 n8) x3 x4 x5 σ → lv_has ls 9 [(0, .ref (h 21)), (3, .int x3), (4, .int x4), (5, .int x5)] → W p l e (headSpec w_Wr_letter rm_Wr_letter).room s m args below meth c s.heap [] 0 0 (MQ below (k2_QcV (.int v)) args s 0 0 (fun _ => False)) (F0 m 106 ls []) := by
        intro ls x3 x4 x5 hv hk hl
        unfold f_Wr_letter_106 at hv
        unfold k_Wr_letter_106 at hk
        refine lv_aload_n hx hb d_Wr_letter_106 rfl (lv_at hl 0 rfl) ?_
        refine va_get (v := .ref (h 6)) (C := R_Wr) (T := T_Wr) (N := 1) hx hb hg in_Wr hown hK hP 21 rfl rfl 0 (by decide) (hg _ m_152) (fun _ h9 => h9) rfl d_Wr_letter_107 ?_
        refine lv_iload_n hx hb d_Wr_letter_110 rfl (lv_at hl 1 rfl) ?_
        obtain ⟨hk0, hk⟩ := hk
        refine zz_callV (va_runV (As := [.int x3]) (rest := []) ⟨hx, hb, hml, hown, hg⟩ (c_Te_secondOf l D ty h px sa σ x3 hk0) ⟨callB_of 1 hg (gw_C m_451) rfl rfl rfl (hg _ m_3) (hg _ m_532) hd_Te_secondOf ⟨Nat.le_of_ble_eq_true rfl, Nat.le_of_ble_eq_true rfl⟩, hg _ m_449, hg _ m_450⟩ (zz_preV hM hN hK hP 6 rfl rfl) rfl rfl hl.1 rfl (lv_room (Nat.le_of_ble_eq_true rfl)) d_Wr_letter_111 ⟨Nat.le_of_ble_eq_true rfl, Nat.le_of_ble_eq_true rfl⟩) ?_
        refine lv_istore (lv' := [(8, .int (f_Te_secondOf x3 σ)), (0, .ref (h 21)), (3, .int x3), (4, .int x4), (5, .int x5)]) hx hb d_Wr_letter_114 hl (by decide) rfl (fun ls hl => ?_)
        exact B116 _ x4 x5 (f_Te_secondOf x3 σ) hv hk (lv_sub hl [1, 3, 4, 0] rfl)
      have B72 : ∀ (ls : Array Slot) (x3 : Int32) (x4 : Int32) (x5 : Int32) (x6 : Int32), v = f_Wr_letter_72 (f_Wr_letter_8 n8) x3 x4 x5 x6 σ → k_Wr_letter_72 (k_Wr_letter_8 n8) x3 x4 x5 x6 σ → lv_has ls 9 [(0, .ref (h 21)), (3, .int x3), (4, .int x4), (5, .int x5), (6, .int x6)] → W p l e (headSpec w_Wr_letter rm_Wr_letter).room s m args below meth c s.heap [] 0 0 (MQ below (k2_QcV (.int v)) args s 0 0 (fun _ => False)) (F0 m 72 ls []) := by
        intro ls x3 x4 x5 x6 hv hk hl
        unfold f_Wr_letter_72 at hv
        unfold k_Wr_letter_72 at hk
        refine lv_iload hx hb d_Wr_letter_72 (lv_at hl 2 rfl) ?_
        refine lv_aload_n hx hb d_Wr_letter_74 rfl (lv_at hl 0 rfl) ?_
        refine va_get (v := .ref (h 6)) (C := R_Wr) (T := T_Wr) (N := 1) hx hb hg in_Wr hown hK hP 21 rfl rfl 0 (by decide) (hg _ m_152) (fun _ h9 => h9) rfl d_Wr_letter_75 ?_
        refine lv_iload hx hb d_Wr_letter_78 (lv_at hl 4 rfl) ?_
        obtain ⟨hk0, hk⟩ := hk
        refine zz_callV (va_runV (As := [.int x6]) (rest := [.int x4]) ⟨hx, hb, hml, hown, hg⟩ (c_Te_lengthOf l D ty h px sa σ x6 hk0) ⟨callB_of 1 hg (gw_C m_463) rfl rfl rfl (hg _ m_3) (hg _ m_531) hd_Te_lengthOf ⟨Nat.le_of_ble_eq_true rfl, Nat.le_of_ble_eq_true rfl⟩, hg _ m_461, hg _ m_462⟩ (zz_preV hM hN hK hP 6 rfl rfl) rfl rfl hl.1 rfl (lv_room (Nat.le_of_ble_eq_true rfl)) d_Wr_letter_80 ⟨Nat.le_of_ble_eq_true rfl, Nat.le_of_ble_eq_true rfl⟩) ?_
        refine lv_icmp_ge (tgt := 92) hx hb d_Wr_letter_83 (by decide) (fun hc => ?_) (fun hc => ?_)
        · have hv := hv.trans (if_pos hc)
          have hk := hk.1 hc
          refine lv_iload hx hb d_Wr_letter_92 (lv_at hl 2 rfl) ?_
          refine lv_aload_n hx hb d_Wr_letter_94 rfl (lv_at hl 0 rfl) ?_
          refine va_get (v := .ref (h 6)) (C := R_Wr) (T := T_Wr) (N := 1) hx hb hg in_Wr hown hK hP 21 rfl rfl 0 (by decide) (hg _ m_152) (fun _ h9 => h9) rfl d_Wr_letter_95 ?_
          refine lv_iload hx hb d_Wr_letter_98 (lv_at hl 4 rfl) ?_
          obtain ⟨hk0, hk⟩ := hk
          refine zz_callV (va_runV (As := [.int x6]) (rest := [.int x4]) ⟨hx, hb, hml, hown, hg⟩ (c_Te_lengthOf l D ty h px sa σ x6 hk0) ⟨callB_of 1 hg (gw_C m_463) rfl rfl rfl (hg _ m_3) (hg _ m_531) hd_Te_lengthOf ⟨Nat.le_of_ble_eq_true rfl, Nat.le_of_ble_eq_true rfl⟩, hg _ m_461, hg _ m_462⟩ (zz_preV hM hN hK hP 6 rfl rfl) rfl rfl hl.1 rfl (lv_room (Nat.le_of_ble_eq_true rfl)) d_Wr_letter_100 ⟨Nat.le_of_ble_eq_true rfl, Nat.le_of_ble_eq_true rfl⟩) ?_
          refine lv_isub hx hb d_Wr_letter_103 ?_
          refine lv_istore (lv' := [(4, .int (x4 - (f_Te_lengthOf x6 σ))), (0, .ref (h 21)), (3, .int x3), (5, .int x5), (6, .int x6)]) hx hb d_Wr_letter_104 hl (by decide) rfl (fun ls hl => ?_)
          exact B106 _ x3 (x4 - (f_Te_lengthOf x6 σ)) x5 hv hk (lv_sub hl [1, 2, 0, 3] rfl)
        · have hv := hv.trans (if_neg hc)
          have hk := hk.2 hc
          refine lv_iload hx hb d_Wr_letter_86 (lv_at hl 4 rfl) ?_
          refine lv_istore_n (lv' := [(3, .int x6), (0, .ref (h 21)), (4, .int x4), (5, .int x5), (6, .int x6)]) hx hb d_Wr_letter_88 rfl hl (by decide) rfl (fun ls hl => ?_)
          refine lv_goto (tgt := 153) hx hb d_Wr_letter_89 (by decide) ?_
          exact B153 _ x6 x4 x5 hv hk (lv_sub hl [1, 0, 2, 3] rfl)
      have B50 : ∀ (ls : Array Slot) (x3 : Int32) (x4 : Int32) (x5 : Int32) (x6 : Int32) (x7 : Int32), v = f_Wr_letter_50 (f_Wr_letter_8 n8) x3 x4 x5 x6 x7 σ → k_Wr_letter_50 (k_Wr_letter_8 n8) x3 x4 x5 x6 x7 σ → lv_has ls 9 [(0, .ref (h 21)), (3, .int x3), (4, .int x4), (5, .int x5), (6, .int x6), (7, .int x7)] → W p l e (headSpec w_Wr_letter rm_Wr_letter).room s m args below meth c s.heap [] 0 0 (MQ below (k2_QcV (.int v)) args s 0 0 (fun _ => False)) (F0 m 50 ls []) := by
        intro ls x3 x4 x5 x6 x7 hv hk hl
        unfold f_Wr_letter_50 at hv
        unfold k_Wr_letter_50 at hk
        refine lv_iload hx hb d_Wr_letter_50 (lv_at hl 2 rfl) ?_
        refine lv_iload hx hb d_Wr_letter_52 (lv_at hl 5 rfl) ?_
        refine lv_icmp_ge (tgt := 65) hx hb d_Wr_letter_54 (by decide) (fun hc => ?_) (fun hc => ?_)
        · have hv := hv.trans (if_pos hc)
          have hk := hk.1 hc
          refine lv_iload hx hb d_Wr_letter_65 (lv_at hl 2 rfl) ?_
          refine lv_iload hx hb d_Wr_letter_67 (lv_at hl 5 rfl) ?_
          refine lv_isub hx hb d_Wr_letter_69 ?_
          refine lv_istore (lv' := [(4, .int (x4 - x7)), (0, .ref (h 21)), (3, .int x3), (5, .int x5), (6, .int x6), (7, .int x7)]) hx hb d_Wr_letter_70 hl (by decide) rfl (fun ls hl => ?_)
          exact B72 _ x3 (x4 - x7) x5 x6 hv hk (lv_sub hl [1, 2, 0, 3, 4] rfl)
        · have hv := hv.trans (if_neg hc)
          have hk := hk.2 hc
          refine lv_aload_n hx hb d_Wr_letter_57 rfl (lv_at hl 0 rfl) ?_
          refine lv_iload_n hx hb d_Wr_letter_58 rfl (lv_at hl 1 rfl) ?_
          refine lv_iload hx hb d_Wr_letter_59 (lv_at hl 2 rfl) ?_
          obtain ⟨hk0, hk⟩ := hk
          refine zz_callV (va_runV (As := [.int x3, .int x4]) (rest := []) ⟨hx, hb, hml, hown, hg⟩ (c_Wr_letterOfHead l D ty h px sa σ x3 x4 hk0) ⟨callB_of 2 hg (gw_C m_476) rfl rfl rfl (hg _ m_6) (hg _ m_473) hd_Wr_letterOfHead ⟨Nat.le_of_ble_eq_true rfl, Nat.le_of_ble_eq_true rfl⟩, hg _ m_475, hg _ ms_5⟩ (zz_preV hM hN hK hP 21 rfl rfl) rfl rfl hl.1 rfl (lv_room (Nat.le_of_ble_eq_true rfl)) d_Wr_letter_61 ⟨Nat.le_of_ble_eq_true rfl, Nat.le_of_ble_eq_true rfl⟩) ?_
          obtain ⟨hk0, hk⟩ := hk
          exact W.zret hx hb hr hk0 (fun t ht hW => ⟨by rw [hv], ht⟩) (fun q h => nomatch h) d_Wr_letter_64
      have B37 : ∀ (ls : Array Slot) (x3 : Int32) (x4 : Int32) (x5 : Int32) (x6 : Int32), v = f_Wr_letter_37 (f_Wr_letter_8 n8) x3 x4 x5 x6 σ → k_Wr_letter_37 (k_Wr_letter_8 n8) x3 x4 x5 x6 σ → lv_has ls 9 [(0, .ref (h 21)), (3, .int x3), (4, .int x4), (5, .int x5), (6, .int x6)] → W p l e (headSpec w_Wr_letter rm_Wr_letter).room s m args below meth c s.heap [] 0 0 (MQ below (k2_QcV (.int v)) args s 0 0 (fun _ => False)) (F0 m 37 ls []) := by
        intro ls x3 x4 x5 x6 hv hk hl
        unfold f_Wr_letter_37 at hv
        unfold k_Wr_letter_37 at hk
        refine lv_aload_n hx hb d_Wr_letter_37 rfl (lv_at hl 0 rfl) ?_
        refine va_get (v := .ref (h 6)) (C := R_Wr) (T := T_Wr) (N := 1) hx hb hg in_Wr hown hK hP 21 rfl rfl 0 (by decide) (hg _ m_152) (fun _ h9 => h9) rfl d_Wr_letter_38 ?_
        refine lv_iload_n hx hb d_Wr_letter_41 rfl (lv_at hl 1 rfl) ?_
        obtain ⟨hk0, hk⟩ := hk
        refine zz_callV (va_runV (As := [.int x3]) (rest := []) ⟨hx, hb, hml, hown, hg⟩ (c_Te_kindOf l D ty h px sa σ x3 hk0) ⟨callB_of 1 hg (gw_C m_434) rfl rfl rfl (hg _ m_3) (hg _ m_469) hd_Te_kindOf ⟨Nat.le_of_ble_eq_true rfl, Nat.le_of_ble_eq_true rfl⟩, hg _ m_432, hg _ m_433⟩ (zz_preV hM hN hK hP 6 rfl rfl) rfl rfl hl.1 rfl (lv_room (Nat.le_of_ble_eq_true rfl)) d_Wr_letter_42 ⟨Nat.le_of_ble_eq_true rfl, Nat.le_of_ble_eq_true rfl⟩) ?_
        obtain ⟨hk0, hk⟩ := hk
        refine zz_callV (va_runS (As := [.int (f_Te_kindOf x3 σ)]) (rest := []) ⟨hx, hb, hml, hown, hg⟩ (c_Wr_headLength l D ty h px sa σ (f_Te_kindOf x3 σ) hk0) ⟨callB_of 1 hg (gw_C m_472) rfl rfl rfl (hg _ m_6) (hg _ m_470) hd_Wr_headLength ⟨Nat.le_of_ble_eq_true rfl, Nat.le_of_ble_eq_true rfl⟩, hg _ m_471⟩ (zz_preS hM hN hK hP) rfl rfl hl.1 rfl (lv_room (Nat.le_of_ble_eq_true rfl)) d_Wr_letter_45 ⟨Nat.le_of_ble_eq_true rfl, Nat.le_of_ble_eq_true rfl⟩) ?_
        refine lv_istore (lv' := [(7, .int (f_Wr_headLength (f_Te_kindOf x3 σ) σ)), (0, .ref (h 21)), (3, .int x3), (4, .int x4), (5, .int x5), (6, .int x6)]) hx hb d_Wr_letter_48 hl (by decide) rfl (fun ls hl => ?_)
        exact B50 _ x3 x4 x5 x6 (f_Wr_headLength (f_Te_kindOf x3 σ) σ) hv hk (lv_sub hl [1, 2, 3, 4, 5, 0] rfl)
      intro ls x3 x4 x5 hv hk hl
      rw [f_Wr_letter_8] at hv
      rw [k_Wr_letter_8] at hk
      refine lv_iload hx hb d_Wr_letter_8 (lv_at hl 3 rfl) ?_
      refine lv_bipush (v := 12) hx hb d_Wr_letter_10 (by decide) ?_
      refine lv_icmp_ge (tgt := 159) hx hb d_Wr_letter_12 (by decide) (fun hc => ?_) (fun hc => ?_)
      · have hv := hv.trans (if_pos hc)
        have hk := hk.1 hc
        exact B159 _ x3 x4 hv hk (lv_sub hl [0, 1, 2] rfl)
      · have hv := hv.trans (if_neg hc)
        have hk := hk.2 hc
        refine lv_aload_n hx hb d_Wr_letter_15 rfl (lv_at hl 0 rfl) ?_
        refine va_get (v := .ref (h 6)) (C := R_Wr) (T := T_Wr) (N := 1) hx hb hg in_Wr hown hK hP 21 rfl rfl 0 (by decide) (hg _ m_152) (fun _ h9 => h9) rfl d_Wr_letter_16 ?_
        refine lv_iload_n hx hb d_Wr_letter_19 rfl (lv_at hl 1 rfl) ?_
        obtain ⟨hk0, hk⟩ := hk
        refine zz_callV (va_runV (As := [.int x3]) (rest := []) ⟨hx, hb, hml, hown, hg⟩ (c_Te_firstOf l D ty h px sa σ x3 hk0) ⟨callB_of 1 hg (gw_C m_447) rfl rfl rfl (hg _ m_3) (hg _ m_468) hd_Te_firstOf ⟨Nat.le_of_ble_eq_true rfl, Nat.le_of_ble_eq_true rfl⟩, hg _ m_445, hg _ m_446⟩ (zz_preV hM hN hK hP 6 rfl rfl) rfl rfl hl.1 rfl (lv_room (Nat.le_of_ble_eq_true rfl)) d_Wr_letter_20 ⟨Nat.le_of_ble_eq_true rfl, Nat.le_of_ble_eq_true rfl⟩) ?_
        refine lv_iconst (v := -1) hx hb d_Wr_letter_23 (by decide) ?_
        refine lv_icmp_eq (tgt := 159) hx hb d_Wr_letter_24 (by decide) (fun hc => ?_) (fun hc => ?_)
        · have hv := hv.trans (if_pos hc)
          have hk := hk.1 hc
          exact B159 _ x3 x4 hv hk (lv_sub hl [0, 1, 2] rfl)
        · have hv := hv.trans (if_neg hc)
          have hk := hk.2 hc
          refine lv_aload_n hx hb d_Wr_letter_27 rfl (lv_at hl 0 rfl) ?_
          refine va_get (v := .ref (h 6)) (C := R_Wr) (T := T_Wr) (N := 1) hx hb hg in_Wr hown hK hP 21 rfl rfl 0 (by decide) (hg _ m_152) (fun _ h9 => h9) rfl d_Wr_letter_28 ?_
          refine lv_iload_n hx hb d_Wr_letter_31 rfl (lv_at hl 1 rfl) ?_
          obtain ⟨hk0, hk⟩ := hk
          refine zz_callV (va_runV (As := [.int x3]) (rest := []) ⟨hx, hb, hml, hown, hg⟩ (c_Te_firstOf l D ty h px sa σ x3 hk0) ⟨callB_of 1 hg (gw_C m_447) rfl rfl rfl (hg _ m_3) (hg _ m_468) hd_Te_firstOf ⟨Nat.le_of_ble_eq_true rfl, Nat.le_of_ble_eq_true rfl⟩, hg _ m_445, hg _ m_446⟩ (zz_preV hM hN hK hP 6 rfl rfl) rfl rfl hl.1 rfl (lv_room (Nat.le_of_ble_eq_true rfl)) d_Wr_letter_32 ⟨Nat.le_of_ble_eq_true rfl, Nat.le_of_ble_eq_true rfl⟩) ?_
          refine lv_istore (lv' := [(6, .int (f_Te_firstOf x3 σ)), (0, .ref (h 21)), (3, .int x3), (4, .int x4), (5, .int x5)]) hx hb d_Wr_letter_35 hl (by decide) rfl (fun ls hl => ?_)
          exact B37 _ x3 x4 x5 (f_Te_firstOf x3 σ) hv hk (lv_sub hl [1, 2, 3, 4, 0] rfl)
  unfold f_Wr_letter at hv
  unfold k_Wr_letter at hk
  refine lv_iload_n hx hb d_Wr_letter_0 rfl (lv_at hl 1 rfl) ?_
  refine lv_istore_n (lv' := [(3, .int a1), (0, .ref (h 21)), (1, .int a1), (2, .int a2)]) hx hb d_Wr_letter_1 rfl hl (by decide) rfl (fun ls hl => ?_)
  refine lv_iload_n hx hb d_Wr_letter_2 rfl (lv_at hl 3 rfl) ?_
  refine lv_istore (lv' := [(4, .int a2), (3, .int a1), (0, .ref (h 21)), (1, .int a1), (2, .int a2)]) hx hb d_Wr_letter_3 hl (by decide) rfl (fun ls hl => ?_)
  refine lv_iconst (v := 0) hx hb d_Wr_letter_5 (by decide) ?_
  refine lv_istore (lv' := [(5, .int 0), (4, .int a2), (3, .int a1), (0, .ref (h 21)), (1, .int a1), (2, .int a2)]) hx hb d_Wr_letter_6 hl (by decide) rfl (fun ls hl => ?_)
  exact B8 1000 _ a1 a2 0 hv hk (lv_sub hl [3, 2, 1, 0] rfl)

-- ClauseLedger.text(II)I
abbrev b_CL_text : ByteArray := prog_1_method_23_code
def y_CL_text : MethodName := ⟨"ClauseLedger", "text", "(II)I"⟩
theorem hd_CL_text : y_CL_text.cls ≠ "java/lang/invoke/MethodHandle" ∧ y_CL_text.cls ≠ "java/lang/invoke/VarHandle" ∧ (parseMethodDescriptor y_CL_text.desc).map (fun d => d.parameters.length) = some 2 := by decide +kernel
theorem d_CL_text_0 : decode b_CL_text 0 = .ok (.aload_n 0, 1) := by decide +kernel
theorem d_CL_text_1 : decode b_CL_text 1 = .ok (.getfield 19, 3) := by decide +kernel
theorem d_CL_text_4 : decode b_CL_text 4 = .ok (.iload_n 1, 1) := by decide +kernel
theorem d_CL_text_5 : decode b_CL_text 5 = .ok (.invokevirtual 130, 3) := by decide +kernel
theorem d_CL_text_8 : decode b_CL_text 8 = .ok (.ifCond .ne 6, 3) := by decide +kernel
theorem d_CL_text_11 : decode b_CL_text 11 = .ok (.bipush (-2), 2) := by decide +kernel
theorem d_CL_text_13 : decode b_CL_text 13 = .ok (.ireturn, 1) := by decide +kernel
theorem d_CL_text_14 : decode b_CL_text 14 = .ok (.iload_n 2, 1) := by decide +kernel
theorem d_CL_text_15 : decode b_CL_text 15 = .ok (.iconst (-1), 1) := by decide +kernel
theorem d_CL_text_16 : decode b_CL_text 16 = .ok (.if_icmp .ne 12, 3) := by decide +kernel
theorem d_CL_text_19 : decode b_CL_text 19 = .ok (.aload_n 0, 1) := by decide +kernel
theorem d_CL_text_20 : decode b_CL_text 20 = .ok (.getfield 19, 3) := by decide +kernel
theorem d_CL_text_23 : decode b_CL_text 23 = .ok (.iload_n 1, 1) := by decide +kernel
theorem d_CL_text_24 : decode b_CL_text 24 = .ok (.invokevirtual 260, 3) := by decide +kernel
theorem d_CL_text_27 : decode b_CL_text 27 = .ok (.ireturn, 1) := by decide +kernel
theorem d_CL_text_28 : decode b_CL_text 28 = .ok (.iload_n 2, 1) := by decide +kernel
theorem d_CL_text_29 : decode b_CL_text 29 = .ok (.ifCond .lt 15, 3) := by decide +kernel
theorem d_CL_text_32 : decode b_CL_text 32 = .ok (.iload_n 2, 1) := by decide +kernel
theorem d_CL_text_33 : decode b_CL_text 33 = .ok (.aload_n 0, 1) := by decide +kernel
theorem d_CL_text_34 : decode b_CL_text 34 = .ok (.getfield 19, 3) := by decide +kernel
theorem d_CL_text_37 : decode b_CL_text 37 = .ok (.iload_n 1, 1) := by decide +kernel
theorem d_CL_text_38 : decode b_CL_text 38 = .ok (.invokevirtual 260, 3) := by decide +kernel
theorem d_CL_text_41 : decode b_CL_text 41 = .ok (.if_icmp .lt 8, 3) := by decide +kernel
theorem d_CL_text_44 : decode b_CL_text 44 = .ok (.bipush (-2), 2) := by decide +kernel
theorem d_CL_text_46 : decode b_CL_text 46 = .ok (.goto 12, 3) := by decide +kernel
theorem d_CL_text_49 : decode b_CL_text 49 = .ok (.aload_n 0, 1) := by decide +kernel
theorem d_CL_text_50 : decode b_CL_text 50 = .ok (.getfield 44, 3) := by decide +kernel
theorem d_CL_text_53 : decode b_CL_text 53 = .ok (.iload_n 1, 1) := by decide +kernel
theorem d_CL_text_54 : decode b_CL_text 54 = .ok (.iload_n 2, 1) := by decide +kernel
theorem d_CL_text_55 : decode b_CL_text 55 = .ok (.invokevirtual 263, 3) := by decide +kernel
theorem d_CL_text_58 : decode b_CL_text 58 = .ok (.ireturn, 1) := by decide +kernel
def f_CL_text_58 (s0 : Int32) (σ : St) : Int32 := s0
def k_CL_text_58 (s0 : Int32) (σ : St) : Prop := True
def f_CL_text_44 (σ : St) : Int32 := f_CL_text_58 (-2) σ
def k_CL_text_44 (σ : St) : Prop := k_CL_text_58 (-2) σ
def f_CL_text (a1 : Int32) (a2 : Int32) (σ : St) : Int32 := if (f_Te_has a1 σ) = 0 then (-2) else (if a2 = (-1) then (f_Te_lengthOf a1 σ) else (if a2 < 0 then (f_CL_text_44 σ) else (if a2 < (f_Te_lengthOf a1 σ) then (f_CL_text_58 (f_Wr_letter a1 a2 σ) σ) else (f_CL_text_44 σ))))
def k_CL_text (a1 : Int32) (a2 : Int32) (σ : St) : Prop := (k_Te_has a1 σ) ∧ (((f_Te_has a1 σ) = 0 → True) ∧ (¬ (f_Te_has a1 σ) = 0 → ((a2 = (-1) → ((k_Te_lengthOf a1 σ) ∧ True)) ∧ (¬ a2 = (-1) → ((a2 < 0 → (k_CL_text_44 σ)) ∧ (¬ a2 < 0 → ((k_Te_lengthOf a1 σ) ∧ ((a2 < (f_Te_lengthOf a1 σ) → ((k_Wr_letter a1 a2 σ) ∧ (k_CL_text_58 (f_Wr_letter a1 a2 σ) σ))) ∧ (¬ a2 < (f_Te_lengthOf a1 σ) → (k_CL_text_44 σ))))))))))
abbrev w_CL_text : List Cond := Cond.code y_CL_text b_CL_text 3 (some .int) :: gw
abbrev rm_CL_text : Room := { frames := 11, cells := 0, slots := 0, locals := 284 }
set_option maxHeartbeats 4000000 in
set_option maxRecDepth 100000 in
theorem c_CL_text (l : Launch) (D : va_G) (ty : Nat → ClassId) (h : Nat → Nat) (px : va_W) (sa : Nat → Nat) (σ : St) (a1 : Int32) (a2 : Int32) (hk : k_CL_text a1 a2 σ) : Met l y_CL_text w_CL_text rm_CL_text (va_Pc [.ref (h 0), .int a1, .int a2] (fun U => va_P D classes (Wc ty h σ px) U.heap ∧ va_K D classes (Ta ty) U ∧ NW U ∧ MK sa (fun _ => False) U U.heap)) (k2_QcV (.int (f_CL_text a1 a2 σ))) 0 0 (fun _ => False) := by
  refine Met.ofW (cc := b_CL_text) (maxL := 3) (ret := (some .int)) (by decide) rfl ?_
  intro p e s m args below meth c s₁ B hml hv
  obtain ⟨ha, hP, hK, hN, hM⟩ := hv
  have hx := B.exec
  have hb := B.bytes
  have hr := B.returns
  have hg : ∀ w ∈ gw, w.before args s = true := fun w h9 => atoms_spec (ws := w_CL_text) B.pre w (List.mem_cons_of_mem _ h9)
  have hown : s.vm.findClass "ClauseLedger" = some m.cls := findClass_of_methodNamed B.named
  have hlocks := B.notSynchronized
  have he : entryFrame m args 3 = entryFrame m ([.ref (h 0), .int a1, .int a2] : List Value).toArray 3 := by rw [ha]
  rw [he, lg_entry_eq]
  have hl := lv_entry ([.ref (h 0), .int a1, .int a2]) (n := 3) (Nat.le_of_ble_eq_true rfl)
  generalize (lg_sl ([.ref (h 0), .int a1, .int a2]) ++ List.replicate (3 - (lg_sl ([.ref (h 0), .int a1, .int a2])).length) Slot.unset).toArray = ls at hl ⊢
  have hl : lv_has ls 3 [(0, .ref (h 0)), (1, .int a1), (2, .int a2)] := hl
  generalize hv : f_CL_text a1 a2 σ = v
  replace hv := hv.symm
  have B58 : ∀ (ls : Array Slot) (s0 : Int32), v = f_CL_text_58 s0 σ → k_CL_text_58 s0 σ → lv_has ls 3 [] → W p l e (headSpec w_CL_text rm_CL_text).room s m args below meth c s.heap [] 0 0 (MQ below (k2_QcV (.int v)) args s 0 0 (fun _ => False)) (F0 m 58 ls [.int s0]) := by
    intro ls s0 hv hk hl
    unfold f_CL_text_58 at hv
    unfold k_CL_text_58 at hk
    exact W.iret hx hb hr (fun t ht hW => ⟨by rw [hv], ht⟩) (fun q h => nomatch h) d_CL_text_58
  have B44 : ∀ (ls : Array Slot), v = f_CL_text_44 σ → k_CL_text_44 σ → lv_has ls 3 [] → W p l e (headSpec w_CL_text rm_CL_text).room s m args below meth c s.heap [] 0 0 (MQ below (k2_QcV (.int v)) args s 0 0 (fun _ => False)) (F0 m 44 ls []) := by
    intro ls hv hk hl
    unfold f_CL_text_44 at hv
    unfold k_CL_text_44 at hk
    refine lv_bipush (v := -2) hx hb d_CL_text_44 (by decide) ?_
    refine lv_goto (tgt := 58) hx hb d_CL_text_46 (by decide) ?_
    exact B58 _ (-2) hv hk (lv_sub hl [] rfl)
  unfold f_CL_text at hv
  unfold k_CL_text at hk
  refine lv_aload_n hx hb d_CL_text_0 rfl (lv_at hl 0 rfl) ?_
  refine va_get (v := .ref (h 6)) (C := R_CL) (T := T_CL) (N := 11) hx hb hg in_CL hown hK hP 0 rfl rfl 1 (by decide) (hg _ m_285) (fun _ h9 => h9) rfl d_CL_text_1 ?_
  refine lv_iload_n hx hb d_CL_text_4 rfl (lv_at hl 1 rfl) ?_
  obtain ⟨hk0, hk⟩ := hk
  refine zz_callV (va_runV (As := [.int a1]) (rest := []) ⟨hx, hb, hml, hown, hg⟩ (c_Te_has l D ty h px sa σ a1 hk0) ⟨callB_of 1 hg (gw_C m_430) rfl rfl rfl (hg _ m_3) (hg _ m_427) hd_Te_has ⟨Nat.le_of_ble_eq_true rfl, Nat.le_of_ble_eq_true rfl⟩, hg _ m_428, hg _ m_429⟩ (zz_preV hM hN hK hP 6 rfl rfl) rfl rfl hl.1 rfl (lv_room (Nat.le_of_ble_eq_true rfl)) d_CL_text_5 ⟨Nat.le_of_ble_eq_true rfl, Nat.le_of_ble_eq_true rfl⟩) ?_
  refine lv_if_ne (tgt := 14) hx hb d_CL_text_8 (by decide) (fun hc => ?_) (fun hc => ?_)
  · have hv := hv.trans (if_neg hc)
    have hk := hk.2 hc
    refine lv_iload_n hx hb d_CL_text_14 rfl (lv_at hl 2 rfl) ?_
    refine lv_iconst (v := -1) hx hb d_CL_text_15 (by decide) ?_
    refine lv_icmp_ne (tgt := 28) hx hb d_CL_text_16 (by decide) (fun hc => ?_) (fun hc => ?_)
    · have hv := hv.trans (if_neg hc)
      have hk := hk.2 hc
      refine lv_iload_n hx hb d_CL_text_28 rfl (lv_at hl 2 rfl) ?_
      refine lv_if_lt (tgt := 44) hx hb d_CL_text_29 (by decide) (fun hc => ?_) (fun hc => ?_)
      · have hv := hv.trans (if_pos hc)
        have hk := hk.1 hc
        exact B44 _  hv hk (lv_sub hl [] rfl)
      · have hv := hv.trans (if_neg hc)
        have hk := hk.2 hc
        refine lv_iload_n hx hb d_CL_text_32 rfl (lv_at hl 2 rfl) ?_
        refine lv_aload_n hx hb d_CL_text_33 rfl (lv_at hl 0 rfl) ?_
        refine va_get (v := .ref (h 6)) (C := R_CL) (T := T_CL) (N := 11) hx hb hg in_CL hown hK hP 0 rfl rfl 1 (by decide) (hg _ m_285) (fun _ h9 => h9) rfl d_CL_text_34 ?_
        refine lv_iload_n hx hb d_CL_text_37 rfl (lv_at hl 1 rfl) ?_
        obtain ⟨hk0, hk⟩ := hk
        refine zz_callV (va_runV (As := [.int a1]) (rest := [.int a2]) ⟨hx, hb, hml, hown, hg⟩ (c_Te_lengthOf l D ty h px sa σ a1 hk0) ⟨callB_of 1 hg (gw_C m_463) rfl rfl rfl (hg _ m_3) (hg _ m_460) hd_Te_lengthOf ⟨Nat.le_of_ble_eq_true rfl, Nat.le_of_ble_eq_true rfl⟩, hg _ m_461, hg _ m_462⟩ (zz_preV hM hN hK hP 6 rfl rfl) rfl rfl hl.1 rfl (lv_room (Nat.le_of_ble_eq_true rfl)) d_CL_text_38 ⟨Nat.le_of_ble_eq_true rfl, Nat.le_of_ble_eq_true rfl⟩) ?_
        refine lv_icmp_lt (tgt := 49) hx hb d_CL_text_41 (by decide) (fun hc => ?_) (fun hc => ?_)
        · have hv := hv.trans (if_pos hc)
          have hk := hk.1 hc
          refine lv_aload_n hx hb d_CL_text_49 rfl (lv_at hl 0 rfl) ?_
          refine va_get (v := .ref (h 21)) (C := R_CL) (T := T_CL) (N := 11) hx hb hg in_CL hown hK hP 0 rfl rfl 4 (by decide) (hg _ m_288) (fun _ h9 => h9) rfl d_CL_text_50 ?_
          refine lv_iload_n hx hb d_CL_text_53 rfl (lv_at hl 1 rfl) ?_
          refine lv_iload_n hx hb d_CL_text_54 rfl (lv_at hl 2 rfl) ?_
          obtain ⟨hk0, hk⟩ := hk
          refine zz_callV (va_runV (As := [.int a1, .int a2]) (rest := []) ⟨hx, hb, hml, hown, hg⟩ (c_Wr_letter l D ty h px sa σ a1 a2 hk0) ⟨callB_of 2 hg (gw_C m_467) rfl rfl rfl (hg _ m_6) (hg _ m_464) hd_Wr_letter ⟨Nat.le_of_ble_eq_true rfl, Nat.le_of_ble_eq_true rfl⟩, hg _ m_465, hg _ m_466⟩ (zz_preV hM hN hK hP 21 rfl rfl) rfl rfl hl.1 rfl (lv_room (Nat.le_of_ble_eq_true rfl)) d_CL_text_55 ⟨Nat.le_of_ble_eq_true rfl, Nat.le_of_ble_eq_true rfl⟩) ?_
          exact B58 _ (f_Wr_letter a1 a2 σ) hv hk (lv_sub hl [] rfl)
        · have hv := hv.trans (if_neg hc)
          have hk := hk.2 hc
          exact B44 _  hv hk (lv_sub hl [] rfl)
    · have hv := hv.trans (if_pos hc)
      have hk := hk.1 hc
      refine lv_aload_n hx hb d_CL_text_19 rfl (lv_at hl 0 rfl) ?_
      refine va_get (v := .ref (h 6)) (C := R_CL) (T := T_CL) (N := 11) hx hb hg in_CL hown hK hP 0 rfl rfl 1 (by decide) (hg _ m_285) (fun _ h9 => h9) rfl d_CL_text_20 ?_
      refine lv_iload_n hx hb d_CL_text_23 rfl (lv_at hl 1 rfl) ?_
      obtain ⟨hk0, hk⟩ := hk
      refine zz_callV (va_runV (As := [.int a1]) (rest := []) ⟨hx, hb, hml, hown, hg⟩ (c_Te_lengthOf l D ty h px sa σ a1 hk0) ⟨callB_of 1 hg (gw_C m_463) rfl rfl rfl (hg _ m_3) (hg _ m_460) hd_Te_lengthOf ⟨Nat.le_of_ble_eq_true rfl, Nat.le_of_ble_eq_true rfl⟩, hg _ m_461, hg _ m_462⟩ (zz_preV hM hN hK hP 6 rfl rfl) rfl rfl hl.1 rfl (lv_room (Nat.le_of_ble_eq_true rfl)) d_CL_text_24 ⟨Nat.le_of_ble_eq_true rfl, Nat.le_of_ble_eq_true rfl⟩) ?_
      exact W.iret hx hb hr (fun t ht hW => ⟨by rw [hv], ht⟩) (fun q h => nomatch h) d_CL_text_27
  · have hv := hv.trans (if_pos hc)
    have hk := hk.1 hc
    refine lv_bipush (v := -2) hx hb d_CL_text_11 (by decide) ?_
    exact W.iret hx hb hr (fun t ht hW => ⟨by rw [hv], ht⟩) (fun q h => nomatch h) d_CL_text_13

