-- ClauseLedger$Terms.makeConstant(II)I
abbrev b_Te_makeConstant : ByteArray := prog_11_method_20_code
def y_Te_makeConstant : MethodName := ⟨"ClauseLedger$Terms", "makeConstant", "(II)I"⟩
theorem hd_Te_makeConstant : y_Te_makeConstant.cls ≠ "java/lang/invoke/MethodHandle" ∧ y_Te_makeConstant.cls ≠ "java/lang/invoke/VarHandle" ∧ (parseMethodDescriptor y_Te_makeConstant.desc).map (fun d => d.parameters.length) = some 2 := by decide +kernel
theorem d_Te_makeConstant_0 : decode b_Te_makeConstant 0 = .ok (.iconst 2, 1) := by decide +kernel
theorem d_Te_makeConstant_1 : decode b_Te_makeConstant 1 = .ok (.iconst (-1), 1) := by decide +kernel
theorem d_Te_makeConstant_2 : decode b_Te_makeConstant 2 = .ok (.iload_n 1, 1) := by decide +kernel
theorem d_Te_makeConstant_3 : decode b_Te_makeConstant 3 = .ok (.iload_n 2, 1) := by decide +kernel
theorem d_Te_makeConstant_4 : decode b_Te_makeConstant 4 = .ok (.invokestatic 68, 3) := by decide +kernel
theorem d_Te_makeConstant_7 : decode b_Te_makeConstant 7 = .ok (.lstore_n 3, 1) := by decide +kernel
theorem d_Te_makeConstant_8 : decode b_Te_makeConstant 8 = .ok (.aload_n 0, 1) := by decide +kernel
theorem d_Te_makeConstant_9 : decode b_Te_makeConstant 9 = .ok (.lload_n 3, 1) := by decide +kernel
theorem d_Te_makeConstant_10 : decode b_Te_makeConstant 10 = .ok (.iconst 0, 1) := by decide +kernel
theorem d_Te_makeConstant_11 : decode b_Te_makeConstant 11 = .ok (.invokevirtual 78, 3) := by decide +kernel
theorem d_Te_makeConstant_14 : decode b_Te_makeConstant 14 = .ok (.istore 5, 2) := by decide +kernel
theorem d_Te_makeConstant_16 : decode b_Te_makeConstant 16 = .ok (.iload 5, 2) := by decide +kernel
theorem d_Te_makeConstant_18 : decode b_Te_makeConstant 18 = .ok (.iconst (-1), 1) := by decide +kernel
theorem d_Te_makeConstant_19 : decode b_Te_makeConstant 19 = .ok (.if_icmp .eq 6, 3) := by decide +kernel
theorem d_Te_makeConstant_22 : decode b_Te_makeConstant 22 = .ok (.iload 5, 2) := by decide +kernel
theorem d_Te_makeConstant_24 : decode b_Te_makeConstant 24 = .ok (.ireturn, 1) := by decide +kernel
theorem d_Te_makeConstant_25 : decode b_Te_makeConstant 25 = .ok (.aload_n 0, 1) := by decide +kernel
theorem d_Te_makeConstant_26 : decode b_Te_makeConstant 26 = .ok (.lload_n 3, 1) := by decide +kernel
theorem d_Te_makeConstant_27 : decode b_Te_makeConstant 27 = .ok (.iconst 2, 1) := by decide +kernel
theorem d_Te_makeConstant_28 : decode b_Te_makeConstant 28 = .ok (.iconst 1, 1) := by decide +kernel
theorem d_Te_makeConstant_29 : decode b_Te_makeConstant 29 = .ok (.iconst (-1), 1) := by decide +kernel
theorem d_Te_makeConstant_30 : decode b_Te_makeConstant 30 = .ok (.invokevirtual 82, 3) := by decide +kernel
theorem d_Te_makeConstant_33 : decode b_Te_makeConstant 33 = .ok (.istore 6, 2) := by decide +kernel
theorem d_Te_makeConstant_35 : decode b_Te_makeConstant 35 = .ok (.aload_n 0, 1) := by decide +kernel
theorem d_Te_makeConstant_36 : decode b_Te_makeConstant 36 = .ok (.getfield 21, 3) := by decide +kernel
theorem d_Te_makeConstant_39 : decode b_Te_makeConstant 39 = .ok (.iload 6, 2) := by decide +kernel
theorem d_Te_makeConstant_41 : decode b_Te_makeConstant 41 = .ok (.iconst (-1), 1) := by decide +kernel
theorem d_Te_makeConstant_42 : decode b_Te_makeConstant 42 = .ok (.iastore, 1) := by decide +kernel
theorem d_Te_makeConstant_43 : decode b_Te_makeConstant 43 = .ok (.aload_n 0, 1) := by decide +kernel
theorem d_Te_makeConstant_44 : decode b_Te_makeConstant 44 = .ok (.getfield 24, 3) := by decide +kernel
theorem d_Te_makeConstant_47 : decode b_Te_makeConstant 47 = .ok (.iload 6, 2) := by decide +kernel
theorem d_Te_makeConstant_49 : decode b_Te_makeConstant 49 = .ok (.iconst (-1), 1) := by decide +kernel
theorem d_Te_makeConstant_50 : decode b_Te_makeConstant 50 = .ok (.iastore, 1) := by decide +kernel
theorem d_Te_makeConstant_51 : decode b_Te_makeConstant 51 = .ok (.aload_n 0, 1) := by decide +kernel
theorem d_Te_makeConstant_52 : decode b_Te_makeConstant 52 = .ok (.getfield 27, 3) := by decide +kernel
theorem d_Te_makeConstant_55 : decode b_Te_makeConstant 55 = .ok (.iload 6, 2) := by decide +kernel
theorem d_Te_makeConstant_57 : decode b_Te_makeConstant 57 = .ok (.iload_n 1, 1) := by decide +kernel
theorem d_Te_makeConstant_58 : decode b_Te_makeConstant 58 = .ok (.iastore, 1) := by decide +kernel
theorem d_Te_makeConstant_59 : decode b_Te_makeConstant 59 = .ok (.aload_n 0, 1) := by decide +kernel
theorem d_Te_makeConstant_60 : decode b_Te_makeConstant 60 = .ok (.getfield 30, 3) := by decide +kernel
theorem d_Te_makeConstant_63 : decode b_Te_makeConstant 63 = .ok (.iload 6, 2) := by decide +kernel
theorem d_Te_makeConstant_65 : decode b_Te_makeConstant 65 = .ok (.iload_n 2, 1) := by decide +kernel
theorem d_Te_makeConstant_66 : decode b_Te_makeConstant 66 = .ok (.iastore, 1) := by decide +kernel
theorem d_Te_makeConstant_67 : decode b_Te_makeConstant 67 = .ok (.aload_n 0, 1) := by decide +kernel
theorem d_Te_makeConstant_68 : decode b_Te_makeConstant 68 = .ok (.getfield 33, 3) := by decide +kernel
theorem d_Te_makeConstant_71 : decode b_Te_makeConstant 71 = .ok (.iload 6, 2) := by decide +kernel
theorem d_Te_makeConstant_73 : decode b_Te_makeConstant 73 = .ok (.iconst 1, 1) := by decide +kernel
theorem d_Te_makeConstant_74 : decode b_Te_makeConstant 74 = .ok (.iastore, 1) := by decide +kernel
theorem d_Te_makeConstant_75 : decode b_Te_makeConstant 75 = .ok (.aload_n 0, 1) := by decide +kernel
theorem d_Te_makeConstant_76 : decode b_Te_makeConstant 76 = .ok (.getfield 36, 3) := by decide +kernel
theorem d_Te_makeConstant_79 : decode b_Te_makeConstant 79 = .ok (.iload 6, 2) := by decide +kernel
theorem d_Te_makeConstant_81 : decode b_Te_makeConstant 81 = .ok (.iload_n 1, 1) := by decide +kernel
theorem d_Te_makeConstant_82 : decode b_Te_makeConstant 82 = .ok (.iload_n 2, 1) := by decide +kernel
theorem d_Te_makeConstant_83 : decode b_Te_makeConstant 83 = .ok (.invokestatic 102, 3) := by decide +kernel
theorem d_Te_makeConstant_86 : decode b_Te_makeConstant 86 = .ok (.iastore, 1) := by decide +kernel
theorem d_Te_makeConstant_87 : decode b_Te_makeConstant 87 = .ok (.aload_n 0, 1) := by decide +kernel
theorem d_Te_makeConstant_88 : decode b_Te_makeConstant 88 = .ok (.getfield 39, 3) := by decide +kernel
theorem d_Te_makeConstant_91 : decode b_Te_makeConstant 91 = .ok (.iload 6, 2) := by decide +kernel
theorem d_Te_makeConstant_93 : decode b_Te_makeConstant 93 = .ok (.iconst 0, 1) := by decide +kernel
theorem d_Te_makeConstant_94 : decode b_Te_makeConstant 94 = .ok (.iastore, 1) := by decide +kernel
theorem d_Te_makeConstant_95 : decode b_Te_makeConstant 95 = .ok (.iload 6, 2) := by decide +kernel
theorem d_Te_makeConstant_97 : decode b_Te_makeConstant 97 = .ok (.ireturn, 1) := by decide +kernel
def f_Te_makeConstant_95 (x6 : Int32) (σ : St) : Int32 × St := (x6, σ)
def k_Te_makeConstant_95 (x6 : Int32) (σ : St) : Prop := True
def f_Te_makeConstant_87 (x6 : Int32) (σ : St) : Int32 × St := f_Te_makeConstant_95 x6 (sA σ 16 x6 0)
def k_Te_makeConstant_87 (x6 : Int32) (σ : St) : Prop := vp_in x6 208 ∧ (k_Te_makeConstant_95 x6 (sA σ 16 x6 0))
def f_Te_makeConstant_75 (x1 : Int32) (x2 : Int32) (x6 : Int32) (σ : St) : Int32 × St := f_Te_makeConstant_87 x6 (sA σ 15 x6 (f_Wr_lengthOfConstant x1 x2 σ))
def k_Te_makeConstant_75 (x1 : Int32) (x2 : Int32) (x6 : Int32) (σ : St) : Prop := (k_Wr_lengthOfConstant x1 x2 σ) ∧ (vp_in x6 208 ∧ (k_Te_makeConstant_87 x6 (sA σ 15 x6 (f_Wr_lengthOfConstant x1 x2 σ))))
def f_Te_makeConstant_67 (x1 : Int32) (x2 : Int32) (x6 : Int32) (σ : St) : Int32 × St := f_Te_makeConstant_75 x1 x2 x6 (sA σ 14 x6 1)
def k_Te_makeConstant_67 (x1 : Int32) (x2 : Int32) (x6 : Int32) (σ : St) : Prop := vp_in x6 208 ∧ (k_Te_makeConstant_75 x1 x2 x6 (sA σ 14 x6 1))
def f_Te_makeConstant_59 (x1 : Int32) (x2 : Int32) (x6 : Int32) (σ : St) : Int32 × St := f_Te_makeConstant_67 x1 x2 x6 (sA σ 13 x6 x2)
def k_Te_makeConstant_59 (x1 : Int32) (x2 : Int32) (x6 : Int32) (σ : St) : Prop := vp_in x6 208 ∧ (k_Te_makeConstant_67 x1 x2 x6 (sA σ 13 x6 x2))
def f_Te_makeConstant_51 (x1 : Int32) (x2 : Int32) (x6 : Int32) (σ : St) : Int32 × St := f_Te_makeConstant_59 x1 x2 x6 (sA σ 12 x6 x1)
def k_Te_makeConstant_51 (x1 : Int32) (x2 : Int32) (x6 : Int32) (σ : St) : Prop := vp_in x6 208 ∧ (k_Te_makeConstant_59 x1 x2 x6 (sA σ 12 x6 x1))
def f_Te_makeConstant_43 (x1 : Int32) (x2 : Int32) (x6 : Int32) (σ : St) : Int32 × St := f_Te_makeConstant_51 x1 x2 x6 (sA σ 11 x6 (-1))
def k_Te_makeConstant_43 (x1 : Int32) (x2 : Int32) (x6 : Int32) (σ : St) : Prop := vp_in x6 208 ∧ (k_Te_makeConstant_51 x1 x2 x6 (sA σ 11 x6 (-1)))
def f_Te_makeConstant_35 (x1 : Int32) (x2 : Int32) (x6 : Int32) (σ : St) : Int32 × St := f_Te_makeConstant_43 x1 x2 x6 (sA σ 10 x6 (-1))
def k_Te_makeConstant_35 (x1 : Int32) (x2 : Int32) (x6 : Int32) (σ : St) : Prop := vp_in x6 208 ∧ (k_Te_makeConstant_43 x1 x2 x6 (sA σ 10 x6 (-1)))
def f_Te_makeConstant_33 (x1 : Int32) (x2 : Int32) (s0 : Int32) (σ : St) : Int32 × St := f_Te_makeConstant_35 x1 x2 s0 σ
def k_Te_makeConstant_33 (x1 : Int32) (x2 : Int32) (s0 : Int32) (σ : St) : Prop := k_Te_makeConstant_35 x1 x2 s0 σ
def f_Te_makeConstant_16 (x1 : Int32) (x2 : Int32) (x3 : Int64) (x5 : Int32) (σ : St) : Int32 × St := if x5 = (-1) then (f_Te_makeConstant_33 x1 x2 ((f_Te_append x3 2 1 (-1) σ).1) ((f_Te_append x3 2 1 (-1) σ).2)) else (x5, σ)
def k_Te_makeConstant_16 (x1 : Int32) (x2 : Int32) (x3 : Int64) (x5 : Int32) (σ : St) : Prop := (x5 = (-1) → ((k_Te_append x3 2 1 (-1) σ) ∧ (k_Te_makeConstant_33 x1 x2 ((f_Te_append x3 2 1 (-1) σ).1) ((f_Te_append x3 2 1 (-1) σ).2)))) ∧ (¬ x5 = (-1) → True)
def f_Te_makeConstant_8 (x1 : Int32) (x2 : Int32) (x3 : Int64) (σ : St) : Int32 × St := f_Te_makeConstant_16 x1 x2 x3 (f_Te_find x3 0 σ) σ
def k_Te_makeConstant_8 (x1 : Int32) (x2 : Int32) (x3 : Int64) (σ : St) : Prop := (k_Te_find x3 0 σ) ∧ (k_Te_makeConstant_16 x1 x2 x3 (f_Te_find x3 0 σ) σ)
def f_Te_makeConstant (a1 : Int32) (a2 : Int32) (σ : St) : Int32 × St := f_Te_makeConstant_8 a1 a2 (f_Te_keyOf 2 (-1) a1 a2 σ) σ
def k_Te_makeConstant (a1 : Int32) (a2 : Int32) (σ : St) : Prop := (k_Te_keyOf 2 (-1) a1 a2 σ) ∧ (k_Te_makeConstant_8 a1 a2 (f_Te_keyOf 2 (-1) a1 a2 σ) σ)
abbrev w_Te_makeConstant : List Cond := Cond.code y_Te_makeConstant b_Te_makeConstant 7 (some .int) :: gw
abbrev rm_Te_makeConstant : Room := { frames := 2, cells := 0, slots := 0, locals := 47 }
set_option maxHeartbeats 4000000 in
set_option maxRecDepth 100000 in
theorem c_Te_makeConstant (l : Launch) (D : va_G) (ty : Nat → ClassId) (h : Nat → Nat) (px : va_W) (σ : St) (sz : Nat) (a1 : Int32) (a2 : Int32) (hk : k_Te_makeConstant a1 a2 σ) : Met l y_Te_makeConstant w_Te_makeConstant rm_Te_makeConstant (va_Pc [.ref (h 6), .int a1, .int a2] (fun U => U.heap.size = sz ∧ va_P D classes (Wc ty h σ px) U.heap ∧ va_K D classes (Ta ty) U ∧ NW U ∧ va_D (fun _ => True) (Wc ty h σ px))) (va_Qi (fun r (u : St) => (r, u) = f_Te_makeConstant a1 a2 σ) (fun u t => va_P D classes (Wc ty h u px) t.heap) (va_A (Wc ty h σ px) sz)) 0 0 (va_A (Wc ty h σ px) sz) := by
  refine Met.ofW (cc := b_Te_makeConstant) (maxL := 7) (ret := (some .int)) (by decide) rfl ?_
  intro p e s m args below meth c s₁ B hml hv
  obtain ⟨ha, hsz, hP, hK, hN, hD0⟩ := hv
  have hx := B.exec
  have hb := B.bytes
  have hr := B.returns
  have hg : ∀ w ∈ gw, w.before args s = true := fun w h9 => atoms_spec (ws := w_Te_makeConstant) B.pre w (List.mem_cons_of_mem _ h9)
  have hown : s.vm.findClass "ClauseLedger$Terms" = some m.cls := findClass_of_methodNamed B.named
  have hlocks := B.notSynchronized
  subst hsz
  have hD := hD0.self (sz := s.heap.size)
  generalize hAe : va_A (Wc ty h σ px) s.heap.size = A at hD ⊢
  have hA : ∀ q : Nat, s.heap.size ≤ q → A q := fun q h9 => by rw [← hAe]; exact Or.inr h9
  have hS : va_S A s.heap s.heap [] := va_S.rf
  have he : entryFrame m args 7 = entryFrame m ([.ref (h 6), .int a1, .int a2] : List Value).toArray 7 := by rw [ha]
  rw [he, lg_entry_eq]
  have hl := lv_entry ([.ref (h 6), .int a1, .int a2]) (n := 7) (Nat.le_of_ble_eq_true rfl)
  generalize (lg_sl ([.ref (h 6), .int a1, .int a2]) ++ List.replicate (7 - (lg_sl ([.ref (h 6), .int a1, .int a2])).length) Slot.unset).toArray = ls at hl ⊢
  have hl : lv_has ls 7 [(0, .ref (h 6)), (1, .int a1), (2, .int a2)] := hl
  generalize hv : f_Te_makeConstant a1 a2 σ = v
  replace hv := hv.symm
  have B95 : ∀ (H : Heap) (locs : List Loc) (ls : Array Slot) (x6 : Int32) (σ : St), v = f_Te_makeConstant_95 x6 σ → k_Te_makeConstant_95 x6 σ → lv_has ls 7 [(6, .int x6)] → va_P D classes (Wc ty h σ px) H → va_D A (Wc ty h σ px) → va_S A s.heap H locs → W p l e (headSpec w_Te_makeConstant rm_Te_makeConstant).room s m args below meth c H locs 0 0 (MQ below (va_Qi (fun r (u : St) => (r, u) = v) (fun u t => va_P D classes (Wc ty h u px) t.heap) A) args s 0 0 A) (F0 m 95 ls []) := by
    intro H locs ls x6 σ hv hk hl hP hD hS
    unfold f_Te_makeConstant_95 at hv
    unfold k_Te_makeConstant_95 at hk
    refine lv_iload hx hb d_Te_makeConstant_95 (lv_at hl 0 rfl) ?_
    exact W.iret hx hb hr (fun t ht hW => ⟨⟨_, _, rfl, hv.symm, by dsimp only; rw [ht]; exact hP⟩, hS.F ht⟩) hS.2.2 d_Te_makeConstant_97
  have B87 : ∀ (H : Heap) (locs : List Loc) (ls : Array Slot) (x6 : Int32) (σ : St), v = f_Te_makeConstant_87 x6 σ → k_Te_makeConstant_87 x6 σ → lv_has ls 7 [(0, .ref (h 6)), (6, .int x6)] → va_P D classes (Wc ty h σ px) H → va_D A (Wc ty h σ px) → va_S A s.heap H locs → W p l e (headSpec w_Te_makeConstant rm_Te_makeConstant).room s m args below meth c H locs 0 0 (MQ below (va_Qi (fun r (u : St) => (r, u) = v) (fun u t => va_P D classes (Wc ty h u px) t.heap) A) args s 0 0 A) (F0 m 87 ls []) := by
    intro H locs ls x6 σ hv hk hl hP hD hS
    unfold f_Te_makeConstant_87 at hv
    unfold k_Te_makeConstant_87 at hk
    refine lv_aload_n hx hb d_Te_makeConstant_87 rfl (lv_at hl 0 rfl) ?_
    refine va_get (v := .ref (h 16)) (C := R_Te) (T := T_Te) (N := 14) hx hb hg in_Te hown hK hP 6 rfl rfl 9 (by decide) (hg _ m_78) (fun _ h9 => h9) rfl d_Te_makeConstant_88 ?_
    refine lv_iload hx hb d_Te_makeConstant_91 (lv_at hl 1 rfl) ?_
    refine lv_iconst (v := 0) hx hb d_Te_makeConstant_93 (by decide) ?_
    obtain ⟨hk0, hk⟩ := hk
    refine va_iast hx hb hK hP hD hS 16 0 rfl rfl hk0 d_Te_makeConstant_94 (fun H locs hP hD hS => ?_)
    have hP : va_P D classes (Wc ty h (sA σ 16 x6 0) px) H := hP
    have hD : va_D A (Wc ty h (sA σ 16 x6 0) px) := hD
    exact B95 _ _ _ x6 (sA σ 16 x6 0) hv hk (lv_sub hl [1] rfl) hP hD hS
  have B75 : ∀ (H : Heap) (locs : List Loc) (ls : Array Slot) (x1 : Int32) (x2 : Int32) (x6 : Int32) (σ : St), v = f_Te_makeConstant_75 x1 x2 x6 σ → k_Te_makeConstant_75 x1 x2 x6 σ → lv_has ls 7 [(0, .ref (h 6)), (1, .int x1), (2, .int x2), (6, .int x6)] → va_P D classes (Wc ty h σ px) H → va_D A (Wc ty h σ px) → va_S A s.heap H locs → W p l e (headSpec w_Te_makeConstant rm_Te_makeConstant).room s m args below meth c H locs 0 0 (MQ below (va_Qi (fun r (u : St) => (r, u) = v) (fun u t => va_P D classes (Wc ty h u px) t.heap) A) args s 0 0 A) (F0 m 75 ls []) := by
    intro H locs ls x1 x2 x6 σ hv hk hl hP hD hS
    unfold f_Te_makeConstant_75 at hv
    unfold k_Te_makeConstant_75 at hk
    refine lv_aload_n hx hb d_Te_makeConstant_75 rfl (lv_at hl 0 rfl) ?_
    refine va_get (v := .ref (h 15)) (C := R_Te) (T := T_Te) (N := 14) hx hb hg in_Te hown hK hP 6 rfl rfl 8 (by decide) (hg _ m_77) (fun _ h9 => h9) rfl d_Te_makeConstant_76 ?_
    refine lv_iload hx hb d_Te_makeConstant_79 (lv_at hl 3 rfl) ?_
    refine lv_iload_n hx hb d_Te_makeConstant_81 rfl (lv_at hl 1 rfl) ?_
    refine lv_iload_n hx hb d_Te_makeConstant_82 rfl (lv_at hl 2 rfl) ?_
    obtain ⟨hk0, hk⟩ := hk
    refine zz_callV (va_runS (As := [.int x1, .int x2]) (rest := [.int x6, .ref (h 15)]) ⟨hx, hb, hml, hown, hg⟩ (c_Wr_lengthOfConstant l D ty h px σ x1 x2 hk0) ⟨callB_of 2 hg (gw_C m_762) rfl rfl rfl (hg _ m_6) (hg _ m_760) hd_Wr_lengthOfConstant ⟨Nat.le_of_ble_eq_true rfl, Nat.le_of_ble_eq_true rfl⟩, hg _ m_761⟩ (zz_preS hN hK hP) rfl rfl hl.1 rfl (lv_room (Nat.le_of_ble_eq_true rfl)) d_Te_makeConstant_83 ⟨Nat.le_of_ble_eq_true rfl, Nat.le_of_ble_eq_true rfl⟩) ?_
    obtain ⟨hk0, hk⟩ := hk
    refine va_iast hx hb hK hP hD hS 15 0 rfl rfl hk0 d_Te_makeConstant_86 (fun H locs hP hD hS => ?_)
    have hP : va_P D classes (Wc ty h (sA σ 15 x6 (f_Wr_lengthOfConstant x1 x2 σ)) px) H := hP
    have hD : va_D A (Wc ty h (sA σ 15 x6 (f_Wr_lengthOfConstant x1 x2 σ)) px) := hD
    exact B87 _ _ _ x6 (sA σ 15 x6 (f_Wr_lengthOfConstant x1 x2 σ)) hv hk (lv_sub hl [0, 3] rfl) hP hD hS
  have B67 : ∀ (H : Heap) (locs : List Loc) (ls : Array Slot) (x1 : Int32) (x2 : Int32) (x6 : Int32) (σ : St), v = f_Te_makeConstant_67 x1 x2 x6 σ → k_Te_makeConstant_67 x1 x2 x6 σ → lv_has ls 7 [(0, .ref (h 6)), (1, .int x1), (2, .int x2), (6, .int x6)] → va_P D classes (Wc ty h σ px) H → va_D A (Wc ty h σ px) → va_S A s.heap H locs → W p l e (headSpec w_Te_makeConstant rm_Te_makeConstant).room s m args below meth c H locs 0 0 (MQ below (va_Qi (fun r (u : St) => (r, u) = v) (fun u t => va_P D classes (Wc ty h u px) t.heap) A) args s 0 0 A) (F0 m 67 ls []) := by
    intro H locs ls x1 x2 x6 σ hv hk hl hP hD hS
    unfold f_Te_makeConstant_67 at hv
    unfold k_Te_makeConstant_67 at hk
    refine lv_aload_n hx hb d_Te_makeConstant_67 rfl (lv_at hl 0 rfl) ?_
    refine va_get (v := .ref (h 14)) (C := R_Te) (T := T_Te) (N := 14) hx hb hg in_Te hown hK hP 6 rfl rfl 7 (by decide) (hg _ m_76) (fun _ h9 => h9) rfl d_Te_makeConstant_68 ?_
    refine lv_iload hx hb d_Te_makeConstant_71 (lv_at hl 3 rfl) ?_
    refine lv_iconst (v := 1) hx hb d_Te_makeConstant_73 (by decide) ?_
    obtain ⟨hk0, hk⟩ := hk
    refine va_iast hx hb hK hP hD hS 14 0 rfl rfl hk0 d_Te_makeConstant_74 (fun H locs hP hD hS => ?_)
    have hP : va_P D classes (Wc ty h (sA σ 14 x6 1) px) H := hP
    have hD : va_D A (Wc ty h (sA σ 14 x6 1) px) := hD
    exact B75 _ _ _ x1 x2 x6 (sA σ 14 x6 1) hv hk (lv_sub hl [0, 1, 2, 3] rfl) hP hD hS
  have B59 : ∀ (H : Heap) (locs : List Loc) (ls : Array Slot) (x1 : Int32) (x2 : Int32) (x6 : Int32) (σ : St), v = f_Te_makeConstant_59 x1 x2 x6 σ → k_Te_makeConstant_59 x1 x2 x6 σ → lv_has ls 7 [(0, .ref (h 6)), (1, .int x1), (2, .int x2), (6, .int x6)] → va_P D classes (Wc ty h σ px) H → va_D A (Wc ty h σ px) → va_S A s.heap H locs → W p l e (headSpec w_Te_makeConstant rm_Te_makeConstant).room s m args below meth c H locs 0 0 (MQ below (va_Qi (fun r (u : St) => (r, u) = v) (fun u t => va_P D classes (Wc ty h u px) t.heap) A) args s 0 0 A) (F0 m 59 ls []) := by
    intro H locs ls x1 x2 x6 σ hv hk hl hP hD hS
    unfold f_Te_makeConstant_59 at hv
    unfold k_Te_makeConstant_59 at hk
    refine lv_aload_n hx hb d_Te_makeConstant_59 rfl (lv_at hl 0 rfl) ?_
    refine va_get (v := .ref (h 13)) (C := R_Te) (T := T_Te) (N := 14) hx hb hg in_Te hown hK hP 6 rfl rfl 6 (by decide) (hg _ m_75) (fun _ h9 => h9) rfl d_Te_makeConstant_60 ?_
    refine lv_iload hx hb d_Te_makeConstant_63 (lv_at hl 3 rfl) ?_
    refine lv_iload_n hx hb d_Te_makeConstant_65 rfl (lv_at hl 2 rfl) ?_
    obtain ⟨hk0, hk⟩ := hk
    refine va_iast hx hb hK hP hD hS 13 0 rfl rfl hk0 d_Te_makeConstant_66 (fun H locs hP hD hS => ?_)
    have hP : va_P D classes (Wc ty h (sA σ 13 x6 x2) px) H := hP
    have hD : va_D A (Wc ty h (sA σ 13 x6 x2) px) := hD
    exact B67 _ _ _ x1 x2 x6 (sA σ 13 x6 x2) hv hk (lv_sub hl [0, 1, 2, 3] rfl) hP hD hS
  have B51 : ∀ (H : Heap) (locs : List Loc) (ls : Array Slot) (x1 : Int32) (x2 : Int32) (x6 : Int32) (σ : St), v = f_Te_makeConstant_51 x1 x2 x6 σ → k_Te_makeConstant_51 x1 x2 x6 σ → lv_has ls 7 [(0, .ref (h 6)), (1, .int x1), (2, .int x2), (6, .int x6)] → va_P D classes (Wc ty h σ px) H → va_D A (Wc ty h σ px) → va_S A s.heap H locs → W p l e (headSpec w_Te_makeConstant rm_Te_makeConstant).room s m args below meth c H locs 0 0 (MQ below (va_Qi (fun r (u : St) => (r, u) = v) (fun u t => va_P D classes (Wc ty h u px) t.heap) A) args s 0 0 A) (F0 m 51 ls []) := by
    intro H locs ls x1 x2 x6 σ hv hk hl hP hD hS
    unfold f_Te_makeConstant_51 at hv
    unfold k_Te_makeConstant_51 at hk
    refine lv_aload_n hx hb d_Te_makeConstant_51 rfl (lv_at hl 0 rfl) ?_
    refine va_get (v := .ref (h 12)) (C := R_Te) (T := T_Te) (N := 14) hx hb hg in_Te hown hK hP 6 rfl rfl 5 (by decide) (hg _ m_74) (fun _ h9 => h9) rfl d_Te_makeConstant_52 ?_
    refine lv_iload hx hb d_Te_makeConstant_55 (lv_at hl 3 rfl) ?_
    refine lv_iload_n hx hb d_Te_makeConstant_57 rfl (lv_at hl 1 rfl) ?_
    obtain ⟨hk0, hk⟩ := hk
    refine va_iast hx hb hK hP hD hS 12 0 rfl rfl hk0 d_Te_makeConstant_58 (fun H locs hP hD hS => ?_)
    have hP : va_P D classes (Wc ty h (sA σ 12 x6 x1) px) H := hP
    have hD : va_D A (Wc ty h (sA σ 12 x6 x1) px) := hD
    exact B59 _ _ _ x1 x2 x6 (sA σ 12 x6 x1) hv hk (lv_sub hl [0, 1, 2, 3] rfl) hP hD hS
  have B43 : ∀ (H : Heap) (locs : List Loc) (ls : Array Slot) (x1 : Int32) (x2 : Int32) (x6 : Int32) (σ : St), v = f_Te_makeConstant_43 x1 x2 x6 σ → k_Te_makeConstant_43 x1 x2 x6 σ → lv_has ls 7 [(0, .ref (h 6)), (1, .int x1), (2, .int x2), (6, .int x6)] → va_P D classes (Wc ty h σ px) H → va_D A (Wc ty h σ px) → va_S A s.heap H locs → W p l e (headSpec w_Te_makeConstant rm_Te_makeConstant).room s m args below meth c H locs 0 0 (MQ below (va_Qi (fun r (u : St) => (r, u) = v) (fun u t => va_P D classes (Wc ty h u px) t.heap) A) args s 0 0 A) (F0 m 43 ls []) := by
    intro H locs ls x1 x2 x6 σ hv hk hl hP hD hS
    unfold f_Te_makeConstant_43 at hv
    unfold k_Te_makeConstant_43 at hk
    refine lv_aload_n hx hb d_Te_makeConstant_43 rfl (lv_at hl 0 rfl) ?_
    refine va_get (v := .ref (h 11)) (C := R_Te) (T := T_Te) (N := 14) hx hb hg in_Te hown hK hP 6 rfl rfl 4 (by decide) (hg _ m_73) (fun _ h9 => h9) rfl d_Te_makeConstant_44 ?_
    refine lv_iload hx hb d_Te_makeConstant_47 (lv_at hl 3 rfl) ?_
    refine lv_iconst (v := -1) hx hb d_Te_makeConstant_49 (by decide) ?_
    obtain ⟨hk0, hk⟩ := hk
    refine va_iast hx hb hK hP hD hS 11 0 rfl rfl hk0 d_Te_makeConstant_50 (fun H locs hP hD hS => ?_)
    have hP : va_P D classes (Wc ty h (sA σ 11 x6 (-1)) px) H := hP
    have hD : va_D A (Wc ty h (sA σ 11 x6 (-1)) px) := hD
    exact B51 _ _ _ x1 x2 x6 (sA σ 11 x6 (-1)) hv hk (lv_sub hl [0, 1, 2, 3] rfl) hP hD hS
  have B35 : ∀ (H : Heap) (locs : List Loc) (ls : Array Slot) (x1 : Int32) (x2 : Int32) (x6 : Int32) (σ : St), v = f_Te_makeConstant_35 x1 x2 x6 σ → k_Te_makeConstant_35 x1 x2 x6 σ → lv_has ls 7 [(0, .ref (h 6)), (1, .int x1), (2, .int x2), (6, .int x6)] → va_P D classes (Wc ty h σ px) H → va_D A (Wc ty h σ px) → va_S A s.heap H locs → W p l e (headSpec w_Te_makeConstant rm_Te_makeConstant).room s m args below meth c H locs 0 0 (MQ below (va_Qi (fun r (u : St) => (r, u) = v) (fun u t => va_P D classes (Wc ty h u px) t.heap) A) args s 0 0 A) (F0 m 35 ls []) := by
    intro H locs ls x1 x2 x6 σ hv hk hl hP hD hS
    unfold f_Te_makeConstant_35 at hv
    unfold k_Te_makeConstant_35 at hk
    refine lv_aload_n hx hb d_Te_makeConstant_35 rfl (lv_at hl 0 rfl) ?_
    refine va_get (v := .ref (h 10)) (C := R_Te) (T := T_Te) (N := 14) hx hb hg in_Te hown hK hP 6 rfl rfl 3 (by decide) (hg _ m_72) (fun _ h9 => h9) rfl d_Te_makeConstant_36 ?_
    refine lv_iload hx hb d_Te_makeConstant_39 (lv_at hl 3 rfl) ?_
    refine lv_iconst (v := -1) hx hb d_Te_makeConstant_41 (by decide) ?_
    obtain ⟨hk0, hk⟩ := hk
    refine va_iast hx hb hK hP hD hS 10 0 rfl rfl hk0 d_Te_makeConstant_42 (fun H locs hP hD hS => ?_)
    have hP : va_P D classes (Wc ty h (sA σ 10 x6 (-1)) px) H := hP
    have hD : va_D A (Wc ty h (sA σ 10 x6 (-1)) px) := hD
    exact B43 _ _ _ x1 x2 x6 (sA σ 10 x6 (-1)) hv hk (lv_sub hl [0, 1, 2, 3] rfl) hP hD hS
  have B33 : ∀ (H : Heap) (locs : List Loc) (ls : Array Slot) (x1 : Int32) (x2 : Int32) (s0 : Int32) (σ : St), v = f_Te_makeConstant_33 x1 x2 s0 σ → k_Te_makeConstant_33 x1 x2 s0 σ → lv_has ls 7 [(0, .ref (h 6)), (1, .int x1), (2, .int x2)] → va_P D classes (Wc ty h σ px) H → va_D A (Wc ty h σ px) → va_S A s.heap H locs → W p l e (headSpec w_Te_makeConstant rm_Te_makeConstant).room s m args below meth c H locs 0 0 (MQ below (va_Qi (fun r (u : St) => (r, u) = v) (fun u t => va_P D classes (Wc ty h u px) t.heap) A) args s 0 0 A) (F0 m 33 ls [.int s0]) := by
    intro H locs ls x1 x2 s0 σ hv hk hl hP hD hS
    unfold f_Te_makeConstant_33 at hv
    unfold k_Te_makeConstant_33 at hk
    refine lv_istore (lv' := [(6, .int s0), (0, .ref (h 6)), (1, .int x1), (2, .int x2)]) hx hb d_Te_makeConstant_33 hl (by decide) rfl (fun ls hl => ?_)
    exact B35 _ _ _ x1 x2 s0 σ hv hk (lv_sub hl [1, 2, 3, 0] rfl) hP hD hS
  have B16 : ∀ (H : Heap) (locs : List Loc) (ls : Array Slot) (x1 : Int32) (x2 : Int32) (x3 : Int64) (x5 : Int32) (σ : St), v = f_Te_makeConstant_16 x1 x2 x3 x5 σ → k_Te_makeConstant_16 x1 x2 x3 x5 σ → lv_has ls 7 [(0, .ref (h 6)), (1, .int x1), (2, .int x2), (3, .long x3), (5, .int x5)] → va_P D classes (Wc ty h σ px) H → va_D A (Wc ty h σ px) → va_S A s.heap H locs → W p l e (headSpec w_Te_makeConstant rm_Te_makeConstant).room s m args below meth c H locs 0 0 (MQ below (va_Qi (fun r (u : St) => (r, u) = v) (fun u t => va_P D classes (Wc ty h u px) t.heap) A) args s 0 0 A) (F0 m 16 ls []) := by
    intro H locs ls x1 x2 x3 x5 σ hv hk hl hP hD hS
    unfold f_Te_makeConstant_16 at hv
    unfold k_Te_makeConstant_16 at hk
    refine lv_iload hx hb d_Te_makeConstant_16 (lv_at hl 4 rfl) ?_
    refine lv_iconst (v := -1) hx hb d_Te_makeConstant_18 (by decide) ?_
    refine lv_icmp_eq (tgt := 25) hx hb d_Te_makeConstant_19 (by decide) (fun hc => ?_) (fun hc => ?_)
    · have hv := hv.trans (if_pos hc)
      have hk := hk.1 hc
      refine lv_aload_n hx hb d_Te_makeConstant_25 rfl (lv_at hl 0 rfl) ?_
      refine lv_lload_n hx hb d_Te_makeConstant_26 rfl (lv_at hl 3 rfl) ?_
      refine lv_iconst (v := 2) hx hb d_Te_makeConstant_27 (by decide) ?_
      refine lv_iconst (v := 1) hx hb d_Te_makeConstant_28 (by decide) ?_
      refine lv_iconst (v := -1) hx hb d_Te_makeConstant_29 (by decide) ?_
      obtain ⟨hk0, hk⟩ := hk
      refine va_calli (va_runV (As := [.long x3, .int 2, .int 1, .int (-1)]) (rest := []) ⟨hx, hb, hml, hown, hg⟩ (c_Te_append l D ty h px σ H.size x3 2 1 (-1) hk0) ⟨callB_of 4 hg (gw_C m_638) rfl rfl rfl (hg _ m_3) (hg _ m_635) hd_Te_append ⟨Nat.le_of_ble_eq_true rfl, Nat.le_of_ble_eq_true rfl⟩, hg _ m_637, hg _ ms_15⟩ (zz_preVW hN hK hP hD 6 rfl rfl) rfl rfl hl.1 rfl (lv_room (Nat.le_of_ble_eq_true rfl)) d_Te_makeConstant_30 ⟨Nat.le_of_ble_eq_true rfl, Nat.le_of_ble_eq_true rfl⟩) hS (fun q _ h => zz_free hD hS hA q h) (zz_free hD hS hA) (fun r30 u30 t H locs ht hvm hp hP1 hz hk1 hS => ?_)
      rw [ht] at hP1
      rw [← hp] at hv hk
      have hD : va_D A (Wc ty h u30 px) := zz_D hD rfl
      have hP := hP1
      exact B33 _ _ _ x1 x2 r30 u30 hv hk (lv_sub hl [0, 1, 2] rfl) hP hD hS
    · have hv := hv.trans (if_neg hc)
      have hk := hk.2 hc
      refine lv_iload hx hb d_Te_makeConstant_22 (lv_at hl 4 rfl) ?_
      exact W.iret hx hb hr (fun t ht hW => ⟨⟨_, _, rfl, hv.symm, by dsimp only; rw [ht]; exact hP⟩, hS.F ht⟩) hS.2.2 d_Te_makeConstant_24
  have B8 : ∀ (H : Heap) (locs : List Loc) (ls : Array Slot) (x1 : Int32) (x2 : Int32) (x3 : Int64) (σ : St), v = f_Te_makeConstant_8 x1 x2 x3 σ → k_Te_makeConstant_8 x1 x2 x3 σ → lv_has ls 7 [(0, .ref (h 6)), (1, .int x1), (2, .int x2), (3, .long x3)] → va_P D classes (Wc ty h σ px) H → va_D A (Wc ty h σ px) → va_S A s.heap H locs → W p l e (headSpec w_Te_makeConstant rm_Te_makeConstant).room s m args below meth c H locs 0 0 (MQ below (va_Qi (fun r (u : St) => (r, u) = v) (fun u t => va_P D classes (Wc ty h u px) t.heap) A) args s 0 0 A) (F0 m 8 ls []) := by
    intro H locs ls x1 x2 x3 σ hv hk hl hP hD hS
    unfold f_Te_makeConstant_8 at hv
    unfold k_Te_makeConstant_8 at hk
    refine lv_aload_n hx hb d_Te_makeConstant_8 rfl (lv_at hl 0 rfl) ?_
    refine lv_lload_n hx hb d_Te_makeConstant_9 rfl (lv_at hl 3 rfl) ?_
    refine lv_iconst (v := 0) hx hb d_Te_makeConstant_10 (by decide) ?_
    obtain ⟨hk0, hk⟩ := hk
    refine zz_callV (va_runV (As := [.long x3, .int 0]) (rest := []) ⟨hx, hb, hml, hown, hg⟩ (c_Te_find l D ty h px σ x3 0 hk0) ⟨callB_of 2 hg (gw_C m_634) rfl rfl rfl (hg _ m_3) (hg _ m_631) hd_Te_find ⟨Nat.le_of_ble_eq_true rfl, Nat.le_of_ble_eq_true rfl⟩, hg _ m_633, hg _ ms_14⟩ (zz_preV hN hK hP 6 rfl rfl) rfl rfl hl.1 rfl (lv_room (Nat.le_of_ble_eq_true rfl)) d_Te_makeConstant_11 ⟨Nat.le_of_ble_eq_true rfl, Nat.le_of_ble_eq_true rfl⟩) ?_
    refine lv_istore (lv' := [(5, .int (f_Te_find x3 0 σ)), (0, .ref (h 6)), (1, .int x1), (2, .int x2), (3, .long x3)]) hx hb d_Te_makeConstant_14 hl (by decide) rfl (fun ls hl => ?_)
    exact B16 _ _ _ x1 x2 x3 (f_Te_find x3 0 σ) σ hv hk (lv_sub hl [1, 2, 3, 4, 0] rfl) hP hD hS
  unfold f_Te_makeConstant at hv
  unfold k_Te_makeConstant at hk
  refine lv_iconst (v := 2) hx hb d_Te_makeConstant_0 (by decide) ?_
  refine lv_iconst (v := -1) hx hb d_Te_makeConstant_1 (by decide) ?_
  refine lv_iload_n hx hb d_Te_makeConstant_2 rfl (lv_at hl 1 rfl) ?_
  refine lv_iload_n hx hb d_Te_makeConstant_3 rfl (lv_at hl 2 rfl) ?_
  obtain ⟨hk0, hk⟩ := hk
  refine zz_callV (va_runS (As := [.int 2, .int (-1), .int a1, .int a2]) (rest := []) ⟨hx, hb, hml, hown, hg⟩ (c_Te_keyOf l D ty h px σ 2 (-1) a1 a2 hk0) ⟨callB_of 4 hg (gw_C m_623) rfl rfl rfl (hg _ m_3) (hg _ m_621) hd_Te_keyOf ⟨Nat.le_of_ble_eq_true rfl, Nat.le_of_ble_eq_true rfl⟩, hg _ m_622⟩ (zz_preS hN hK hP) rfl rfl hl.1 rfl (lv_room (Nat.le_of_ble_eq_true rfl)) d_Te_makeConstant_4 ⟨Nat.le_of_ble_eq_true rfl, Nat.le_of_ble_eq_true rfl⟩) ?_
  refine lv_lstore_n (lv' := [(3, .long (f_Te_keyOf 2 (-1) a1 a2 σ)), (0, .ref (h 6)), (1, .int a1), (2, .int a2)]) hx hb d_Te_makeConstant_7 rfl hl (by decide) rfl (fun ls hl => ?_)
  exact B8 _ _ _ a1 a2 (f_Te_keyOf 2 (-1) a1 a2 σ) σ hv hk (lv_sub hl [1, 2, 3, 0] rfl) hP hD hS

-- ClauseLedger$Draft.size()I
abbrev b_Dr_size : ByteArray := prog_3_method_2_code
def y_Dr_size : MethodName := ⟨"ClauseLedger$Draft", "size", "()I"⟩
theorem hd_Dr_size : y_Dr_size.cls ≠ "java/lang/invoke/MethodHandle" ∧ y_Dr_size.cls ≠ "java/lang/invoke/VarHandle" ∧ (parseMethodDescriptor y_Dr_size.desc).map (fun d => d.parameters.length) = some 0 := by decide +kernel
theorem d_Dr_size_0 : decode b_Dr_size 0 = .ok (.aload_n 0, 1) := by decide +kernel
theorem d_Dr_size_1 : decode b_Dr_size 1 = .ok (.getfield 13, 3) := by decide +kernel
theorem d_Dr_size_4 : decode b_Dr_size 4 = .ok (.ireturn, 1) := by decide +kernel
def f_Dr_size (σ : St) : Int32 := σ.1 18 1
def k_Dr_size (σ : St) : Prop := True
abbrev w_Dr_size : List Cond := Cond.code y_Dr_size b_Dr_size 1 (some .int) :: gw
abbrev rm_Dr_size : Room := { frames := 0, cells := 0, slots := 0, locals := 0 }
set_option maxHeartbeats 4000000 in
set_option maxRecDepth 100000 in
theorem c_Dr_size (l : Launch) (D : va_G) (ty : Nat → ClassId) (h : Nat → Nat) (px : va_W) (σ : St) (hk : k_Dr_size σ) : Met l y_Dr_size w_Dr_size rm_Dr_size (va_Pc [.ref (h 18)] (fun U => va_P D classes (Wc ty h σ px) U.heap ∧ va_K D classes (Ta ty) U ∧ NW U)) (k2_QcV (.int (f_Dr_size σ))) 0 0 (fun _ => False) := by
  refine Met.ofW (cc := b_Dr_size) (maxL := 1) (ret := (some .int)) (by decide) rfl ?_
  intro p e s m args below meth c s₁ B hml hv
  obtain ⟨ha, hP, hK, hN⟩ := hv
  have hx := B.exec
  have hb := B.bytes
  have hr := B.returns
  have hg : ∀ w ∈ gw, w.before args s = true := fun w h9 => atoms_spec (ws := w_Dr_size) B.pre w (List.mem_cons_of_mem _ h9)
  have hown : s.vm.findClass "ClauseLedger$Draft" = some m.cls := findClass_of_methodNamed B.named
  have hlocks := B.notSynchronized
  have he : entryFrame m args 1 = entryFrame m ([.ref (h 18)] : List Value).toArray 1 := by rw [ha]
  rw [he, lg_entry_eq]
  have hl := lv_entry ([.ref (h 18)]) (n := 1) (Nat.le_of_ble_eq_true rfl)
  generalize (lg_sl ([.ref (h 18)]) ++ List.replicate (1 - (lg_sl ([.ref (h 18)])).length) Slot.unset).toArray = ls at hl ⊢
  have hl : lv_has ls 1 [(0, .ref (h 18))] := hl
  generalize hv : f_Dr_size σ = v
  replace hv := hv.symm
  unfold f_Dr_size at hv
  unfold k_Dr_size at hk
  refine lv_aload_n hx hb d_Dr_size_0 rfl (lv_at hl 0 rfl) ?_
  refine va_get (v := .int (σ.1 18 1)) (C := R_Dr) (T := T_Dr) (N := 2) hx hb hg in_Dr hown hK hP 18 rfl rfl 1 (by decide) (hg _ m_120) (fun _ h9 => h9) rfl d_Dr_size_1 ?_
  exact W.iret hx hb hr (fun t ht hW => ⟨by rw [hv], ht⟩) (fun q h => nomatch h) d_Dr_size_4

-- ClauseLedger$Draft.wipe()V
abbrev b_Dr_wipe : ByteArray := prog_3_method_3_code
def y_Dr_wipe : MethodName := ⟨"ClauseLedger$Draft", "wipe", "()V"⟩
theorem hd_Dr_wipe : y_Dr_wipe.cls ≠ "java/lang/invoke/MethodHandle" ∧ y_Dr_wipe.cls ≠ "java/lang/invoke/VarHandle" ∧ (parseMethodDescriptor y_Dr_wipe.desc).map (fun d => d.parameters.length) = some 0 := by decide +kernel
theorem d_Dr_wipe_0 : decode b_Dr_wipe 0 = .ok (.aload_n 0, 1) := by decide +kernel
theorem d_Dr_wipe_1 : decode b_Dr_wipe 1 = .ok (.iconst 0, 1) := by decide +kernel
theorem d_Dr_wipe_2 : decode b_Dr_wipe 2 = .ok (.putfield 13, 3) := by decide +kernel
theorem d_Dr_wipe_5 : decode b_Dr_wipe 5 = .ok (.return_, 1) := by decide +kernel
def f_Dr_wipe_5 (σ : St) : St := σ
def k_Dr_wipe_5 (σ : St) : Prop := True
def f_Dr_wipe (σ : St) : St := f_Dr_wipe_5 (sF σ 18 1 0)
def k_Dr_wipe (σ : St) : Prop := k_Dr_wipe_5 (sF σ 18 1 0)
abbrev w_Dr_wipe : List Cond := Cond.code y_Dr_wipe b_Dr_wipe 1 none :: gw
abbrev rm_Dr_wipe : Room := { frames := 0, cells := 0, slots := 0, locals := 0 }
set_option maxHeartbeats 4000000 in
set_option maxRecDepth 100000 in
theorem c_Dr_wipe (l : Launch) (D : va_G) (ty : Nat → ClassId) (h : Nat → Nat) (px : va_W) (σ : St) (sz : Nat) (hk : k_Dr_wipe σ) : Met l y_Dr_wipe w_Dr_wipe rm_Dr_wipe (va_Pc [.ref (h 18)] (fun U => U.heap.size = sz ∧ va_P D classes (Wc ty h σ px) U.heap ∧ va_K D classes (Ta ty) U ∧ NW U ∧ va_D (fun _ => True) (Wc ty h σ px))) (va_Qv (fun u : St => u = f_Dr_wipe σ) (fun u t => va_P D classes (Wc ty h u px) t.heap) (va_A (Wc ty h σ px) sz)) 0 0 (va_A (Wc ty h σ px) sz) := by
  refine Met.ofW (cc := b_Dr_wipe) (maxL := 1) (ret := none) (by decide) rfl ?_
  intro p e s m args below meth c s₁ B hml hv
  obtain ⟨ha, hsz, hP, hK, hN, hD0⟩ := hv
  have hx := B.exec
  have hb := B.bytes
  have hr := B.returns
  have hg : ∀ w ∈ gw, w.before args s = true := fun w h9 => atoms_spec (ws := w_Dr_wipe) B.pre w (List.mem_cons_of_mem _ h9)
  have hown : s.vm.findClass "ClauseLedger$Draft" = some m.cls := findClass_of_methodNamed B.named
  have hlocks := B.notSynchronized
  subst hsz
  have hD := hD0.self (sz := s.heap.size)
  generalize hAe : va_A (Wc ty h σ px) s.heap.size = A at hD ⊢
  have hA : ∀ q : Nat, s.heap.size ≤ q → A q := fun q h9 => by rw [← hAe]; exact Or.inr h9
  have hS : va_S A s.heap s.heap [] := va_S.rf
  have he : entryFrame m args 1 = entryFrame m ([.ref (h 18)] : List Value).toArray 1 := by rw [ha]
  rw [he, lg_entry_eq]
  have hl := lv_entry ([.ref (h 18)]) (n := 1) (Nat.le_of_ble_eq_true rfl)
  generalize (lg_sl ([.ref (h 18)]) ++ List.replicate (1 - (lg_sl ([.ref (h 18)])).length) Slot.unset).toArray = ls at hl ⊢
  have hl : lv_has ls 1 [(0, .ref (h 18))] := hl
  generalize hv : f_Dr_wipe σ = v
  replace hv := hv.symm
  have B5 : ∀ (H : Heap) (locs : List Loc) (ls : Array Slot) (σ : St), v = f_Dr_wipe_5 σ → k_Dr_wipe_5 σ → lv_has ls 1 [] → va_P D classes (Wc ty h σ px) H → va_D A (Wc ty h σ px) → va_S A s.heap H locs → W p l e (headSpec w_Dr_wipe rm_Dr_wipe).room s m args below meth c H locs 0 0 (MQ below (va_Qv (fun u : St => u = v) (fun u t => va_P D classes (Wc ty h u px) t.heap) A) args s 0 0 A) (F0 m 5 ls []) := by
    intro H locs ls σ hv hk hl hP hD hS
    unfold f_Dr_wipe_5 at hv
    unfold k_Dr_wipe_5 at hk
    exact W.vret hx hb hr (fun t ht hW => ⟨⟨_, rfl, hv.symm, by dsimp only; rw [ht]; exact hP⟩, hS.F ht⟩) hS.2.2 d_Dr_wipe_5
  unfold f_Dr_wipe at hv
  unfold k_Dr_wipe at hk
  refine lv_aload_n hx hb d_Dr_wipe_0 rfl (lv_at hl 0 rfl) ?_
  refine lv_iconst (v := 0) hx hb d_Dr_wipe_1 (by decide) ?_
  refine va_put (v := .int 0) (ty := .int) (C := R_Dr) (T := T_Dr) (N := 2) hx hb hg in_Dr ty_Dr ok_Dr nm_Dr hown hK hP hD hS 18 rfl rfl 1 (by decide) (hg _ m_120) (fun _ h9 => h9) rfl (by decide +kernel) rfl rfl (Nat.le_of_ble_eq_true rfl) d_Dr_wipe_2 (fun H locs hP hD hS => ?_)
  have hP : va_P D classes (Wc ty h (sF σ 18 1 0) px) H := hP
  have hD : va_D A (Wc ty h (sF σ 18 1 0) px) := hD
  exact B5 _ _ _  (sF σ 18 1 0) hv hk (lv_sub hl [] rfl) hP hD hS

-- ClauseLedger$Draft.letter(I)C
abbrev b_Dr_letter : ByteArray := prog_3_method_4_code
def y_Dr_letter : MethodName := ⟨"ClauseLedger$Draft", "letter", "(I)C"⟩
theorem hd_Dr_letter : y_Dr_letter.cls ≠ "java/lang/invoke/MethodHandle" ∧ y_Dr_letter.cls ≠ "java/lang/invoke/VarHandle" ∧ (parseMethodDescriptor y_Dr_letter.desc).map (fun d => d.parameters.length) = some 1 := by decide +kernel
theorem d_Dr_letter_0 : decode b_Dr_letter 0 = .ok (.iload_n 1, 1) := by decide +kernel
theorem d_Dr_letter_1 : decode b_Dr_letter 1 = .ok (.ifCond .lt 20, 3) := by decide +kernel
theorem d_Dr_letter_4 : decode b_Dr_letter 4 = .ok (.iload_n 1, 1) := by decide +kernel
theorem d_Dr_letter_5 : decode b_Dr_letter 5 = .ok (.aload_n 0, 1) := by decide +kernel
theorem d_Dr_letter_6 : decode b_Dr_letter 6 = .ok (.getfield 13, 3) := by decide +kernel
theorem d_Dr_letter_9 : decode b_Dr_letter 9 = .ok (.if_icmp .ge 12, 3) := by decide +kernel
theorem d_Dr_letter_12 : decode b_Dr_letter 12 = .ok (.aload_n 0, 1) := by decide +kernel
theorem d_Dr_letter_13 : decode b_Dr_letter 13 = .ok (.getfield 9, 3) := by decide +kernel
theorem d_Dr_letter_16 : decode b_Dr_letter 16 = .ok (.iload_n 1, 1) := by decide +kernel
theorem d_Dr_letter_17 : decode b_Dr_letter 17 = .ok (.caload, 1) := by decide +kernel
theorem d_Dr_letter_18 : decode b_Dr_letter 18 = .ok (.goto 4, 3) := by decide +kernel
theorem d_Dr_letter_21 : decode b_Dr_letter 21 = .ok (.iconst 0, 1) := by decide +kernel
theorem d_Dr_letter_22 : decode b_Dr_letter 22 = .ok (.ireturn, 1) := by decide +kernel
def f_Dr_letter_22 (s0 : Int32) (σ : St) : Int32 := s0
def k_Dr_letter_22 (s0 : Int32) (σ : St) : Prop := (narrow .char (.int s0) = .int s0) ∧ True
def f_Dr_letter_21 (σ : St) : Int32 := f_Dr_letter_22 0 σ
def k_Dr_letter_21 (σ : St) : Prop := k_Dr_letter_22 0 σ
def f_Dr_letter (a1 : Int32) (σ : St) : Int32 := if a1 < 0 then (f_Dr_letter_21 σ) else (if (σ.1 18 1) ≤ a1 then (f_Dr_letter_21 σ) else (f_Dr_letter_22 (σ.1 19 a1.toNatClampNeg) σ))
def k_Dr_letter (a1 : Int32) (σ : St) : Prop := (a1 < 0 → (k_Dr_letter_21 σ)) ∧ (¬ a1 < 0 → (((σ.1 18 1) ≤ a1 → (k_Dr_letter_21 σ)) ∧ (¬ (σ.1 18 1) ≤ a1 → (vp_in a1 120 ∧ (k_Dr_letter_22 (σ.1 19 a1.toNatClampNeg) σ)))))
abbrev w_Dr_letter : List Cond := Cond.code y_Dr_letter b_Dr_letter 2 (some .char) :: gw
abbrev rm_Dr_letter : Room := { frames := 0, cells := 0, slots := 0, locals := 0 }
set_option maxHeartbeats 4000000 in
set_option maxRecDepth 100000 in
theorem c_Dr_letter (l : Launch) (D : va_G) (ty : Nat → ClassId) (h : Nat → Nat) (px : va_W) (σ : St) (a1 : Int32) (hk : k_Dr_letter a1 σ) : Met l y_Dr_letter w_Dr_letter rm_Dr_letter (va_Pc [.ref (h 18), .int a1] (fun U => va_P D classes (Wc ty h σ px) U.heap ∧ va_K D classes (Ta ty) U ∧ NW U)) (k2_QcV (.int (f_Dr_letter a1 σ))) 0 0 (fun _ => False) := by
  refine Met.ofW (cc := b_Dr_letter) (maxL := 2) (ret := (some .char)) (by decide) rfl ?_
  intro p e s m args below meth c s₁ B hml hv
  obtain ⟨ha, hP, hK, hN⟩ := hv
  have hx := B.exec
  have hb := B.bytes
  have hr := B.returns
  have hg : ∀ w ∈ gw, w.before args s = true := fun w h9 => atoms_spec (ws := w_Dr_letter) B.pre w (List.mem_cons_of_mem _ h9)
  have hown : s.vm.findClass "ClauseLedger$Draft" = some m.cls := findClass_of_methodNamed B.named
  have hlocks := B.notSynchronized
  have he : entryFrame m args 2 = entryFrame m ([.ref (h 18), .int a1] : List Value).toArray 2 := by rw [ha]
  rw [he, lg_entry_eq]
  have hl := lv_entry ([.ref (h 18), .int a1]) (n := 2) (Nat.le_of_ble_eq_true rfl)
  generalize (lg_sl ([.ref (h 18), .int a1]) ++ List.replicate (2 - (lg_sl ([.ref (h 18), .int a1])).length) Slot.unset).toArray = ls at hl ⊢
  have hl : lv_has ls 2 [(0, .ref (h 18)), (1, .int a1)] := hl
  generalize hv : f_Dr_letter a1 σ = v
  replace hv := hv.symm
  have B22 : ∀ (ls : Array Slot) (s0 : Int32), v = f_Dr_letter_22 s0 σ → k_Dr_letter_22 s0 σ → lv_has ls 2 [] → W p l e (headSpec w_Dr_letter rm_Dr_letter).room s m args below meth c s.heap [] 0 0 (MQ below (k2_QcV (.int v)) args s 0 0 (fun _ => False)) (F0 m 22 ls [.int s0]) := by
    intro ls s0 hv hk hl
    unfold f_Dr_letter_22 at hv
    unfold k_Dr_letter_22 at hk
    obtain ⟨hk0, hk⟩ := hk
    exact W.zret hx hb hr hk0 (fun t ht hW => ⟨by rw [hv], ht⟩) (fun q h => nomatch h) d_Dr_letter_22
  have B21 : ∀ (ls : Array Slot), v = f_Dr_letter_21 σ → k_Dr_letter_21 σ → lv_has ls 2 [] → W p l e (headSpec w_Dr_letter rm_Dr_letter).room s m args below meth c s.heap [] 0 0 (MQ below (k2_QcV (.int v)) args s 0 0 (fun _ => False)) (F0 m 21 ls []) := by
    intro ls hv hk hl
    unfold f_Dr_letter_21 at hv
    unfold k_Dr_letter_21 at hk
    refine lv_iconst (v := 0) hx hb d_Dr_letter_21 (by decide) ?_
    exact B22 _ 0 hv hk (lv_sub hl [] rfl)
  unfold f_Dr_letter at hv
  unfold k_Dr_letter at hk
  refine lv_iload_n hx hb d_Dr_letter_0 rfl (lv_at hl 1 rfl) ?_
  refine lv_if_lt (tgt := 21) hx hb d_Dr_letter_1 (by decide) (fun hc => ?_) (fun hc => ?_)
  · have hv := hv.trans (if_pos hc)
    have hk := hk.1 hc
    exact B21 _  hv hk (lv_sub hl [] rfl)
  · have hv := hv.trans (if_neg hc)
    have hk := hk.2 hc
    refine lv_iload_n hx hb d_Dr_letter_4 rfl (lv_at hl 1 rfl) ?_
    refine lv_aload_n hx hb d_Dr_letter_5 rfl (lv_at hl 0 rfl) ?_
    refine va_get (v := .int (σ.1 18 1)) (C := R_Dr) (T := T_Dr) (N := 2) hx hb hg in_Dr hown hK hP 18 rfl rfl 1 (by decide) (hg _ m_120) (fun _ h9 => h9) rfl d_Dr_letter_6 ?_
    refine lv_icmp_ge (tgt := 21) hx hb d_Dr_letter_9 (by decide) (fun hc => ?_) (fun hc => ?_)
    · have hv := hv.trans (if_pos hc)
      have hk := hk.1 hc
      exact B21 _  hv hk (lv_sub hl [] rfl)
    · have hv := hv.trans (if_neg hc)
      have hk := hk.2 hc
      refine lv_aload_n hx hb d_Dr_letter_12 rfl (lv_at hl 0 rfl) ?_
      refine va_get (v := .ref (h 19)) (C := R_Dr) (T := T_Dr) (N := 2) hx hb hg in_Dr hown hK hP 18 rfl rfl 0 (by decide) (hg _ m_119) (fun _ h9 => h9) rfl d_Dr_letter_13 ?_
      refine lv_iload_n hx hb d_Dr_letter_16 rfl (lv_at hl 1 rfl) ?_
      obtain ⟨hk0, hk⟩ := hk
      refine va_cald hx hb hK hP 19 2 rfl rfl hk0 d_Dr_letter_17 ?_
      refine lv_goto (tgt := 22) hx hb d_Dr_letter_18 (by decide) ?_
      exact B22 _ (σ.1 19 a1.toNatClampNeg) hv hk (lv_sub hl [] rfl)

-- ClauseLedger$Reader.readBareSymbol()I
abbrev b_Rd_readBareSymbol : ByteArray := prog_5_method_4_code
def y_Rd_readBareSymbol : MethodName := ⟨"ClauseLedger$Reader", "readBareSymbol", "()I"⟩
theorem hd_Rd_readBareSymbol : y_Rd_readBareSymbol.cls ≠ "java/lang/invoke/MethodHandle" ∧ y_Rd_readBareSymbol.cls ≠ "java/lang/invoke/VarHandle" ∧ (parseMethodDescriptor y_Rd_readBareSymbol.desc).map (fun d => d.parameters.length) = some 0 := by decide +kernel
theorem d_Rd_readBareSymbol_0 : decode b_Rd_readBareSymbol 0 = .ok (.aload_n 0, 1) := by decide +kernel
theorem d_Rd_readBareSymbol_1 : decode b_Rd_readBareSymbol 1 = .ok (.getfield 15, 3) := by decide +kernel
theorem d_Rd_readBareSymbol_4 : decode b_Rd_readBareSymbol 4 = .ok (.aload_n 0, 1) := by decide +kernel
theorem d_Rd_readBareSymbol_5 : decode b_Rd_readBareSymbol 5 = .ok (.getfield 9, 3) := by decide +kernel
theorem d_Rd_readBareSymbol_8 : decode b_Rd_readBareSymbol 8 = .ok (.invokevirtual 37, 3) := by decide +kernel
theorem d_Rd_readBareSymbol_11 : decode b_Rd_readBareSymbol 11 = .ok (.bipush 97, 2) := by decide +kernel
theorem d_Rd_readBareSymbol_13 : decode b_Rd_readBareSymbol 13 = .ok (.isub, 1) := by decide +kernel
theorem d_Rd_readBareSymbol_14 : decode b_Rd_readBareSymbol 14 = .ok (.istore_n 1, 1) := by decide +kernel
theorem d_Rd_readBareSymbol_15 : decode b_Rd_readBareSymbol 15 = .ok (.aload_n 0, 1) := by decide +kernel
theorem d_Rd_readBareSymbol_16 : decode b_Rd_readBareSymbol 16 = .ok (.dup, 1) := by decide +kernel
theorem d_Rd_readBareSymbol_17 : decode b_Rd_readBareSymbol 17 = .ok (.getfield 9, 3) := by decide +kernel
theorem d_Rd_readBareSymbol_20 : decode b_Rd_readBareSymbol 20 = .ok (.iconst 1, 1) := by decide +kernel
theorem d_Rd_readBareSymbol_21 : decode b_Rd_readBareSymbol 21 = .ok (.iadd, 1) := by decide +kernel
theorem d_Rd_readBareSymbol_22 : decode b_Rd_readBareSymbol 22 = .ok (.putfield 9, 3) := by decide +kernel
theorem d_Rd_readBareSymbol_25 : decode b_Rd_readBareSymbol 25 = .ok (.aload_n 0, 1) := by decide +kernel
theorem d_Rd_readBareSymbol_26 : decode b_Rd_readBareSymbol 26 = .ok (.getfield 19, 3) := by decide +kernel
theorem d_Rd_readBareSymbol_29 : decode b_Rd_readBareSymbol 29 = .ok (.iload_n 1, 1) := by decide +kernel
theorem d_Rd_readBareSymbol_30 : decode b_Rd_readBareSymbol 30 = .ok (.invokevirtual 64, 3) := by decide +kernel
theorem d_Rd_readBareSymbol_33 : decode b_Rd_readBareSymbol 33 = .ok (.ifCond .eq 15, 3) := by decide +kernel
theorem d_Rd_readBareSymbol_36 : decode b_Rd_readBareSymbol 36 = .ok (.aload_n 0, 1) := by decide +kernel
theorem d_Rd_readBareSymbol_37 : decode b_Rd_readBareSymbol 37 = .ok (.getfield 19, 3) := by decide +kernel
theorem d_Rd_readBareSymbol_40 : decode b_Rd_readBareSymbol 40 = .ok (.iload_n 1, 1) := by decide +kernel
theorem d_Rd_readBareSymbol_41 : decode b_Rd_readBareSymbol 41 = .ok (.invokevirtual 68, 3) := by decide +kernel
theorem d_Rd_readBareSymbol_44 : decode b_Rd_readBareSymbol 44 = .ok (.iconst (-1), 1) := by decide +kernel
theorem d_Rd_readBareSymbol_45 : decode b_Rd_readBareSymbol 45 = .ok (.if_icmp .eq 5, 3) := by decide +kernel
theorem d_Rd_readBareSymbol_48 : decode b_Rd_readBareSymbol 48 = .ok (.iconst (-1), 1) := by decide +kernel
theorem d_Rd_readBareSymbol_49 : decode b_Rd_readBareSymbol 49 = .ok (.ireturn, 1) := by decide +kernel
theorem d_Rd_readBareSymbol_50 : decode b_Rd_readBareSymbol 50 = .ok (.aload_n 0, 1) := by decide +kernel
theorem d_Rd_readBareSymbol_51 : decode b_Rd_readBareSymbol 51 = .ok (.getfield 23, 3) := by decide +kernel
theorem d_Rd_readBareSymbol_54 : decode b_Rd_readBareSymbol 54 = .ok (.iconst 0, 1) := by decide +kernel
theorem d_Rd_readBareSymbol_55 : decode b_Rd_readBareSymbol 55 = .ok (.aload_n 0, 1) := by decide +kernel
theorem d_Rd_readBareSymbol_56 : decode b_Rd_readBareSymbol 56 = .ok (.getfield 19, 3) := by decide +kernel
theorem d_Rd_readBareSymbol_59 : decode b_Rd_readBareSymbol 59 = .ok (.iload_n 1, 1) := by decide +kernel
theorem d_Rd_readBareSymbol_60 : decode b_Rd_readBareSymbol 60 = .ok (.invokevirtual 71, 3) := by decide +kernel
theorem d_Rd_readBareSymbol_63 : decode b_Rd_readBareSymbol 63 = .ok (.iload_n 1, 1) := by decide +kernel
theorem d_Rd_readBareSymbol_64 : decode b_Rd_readBareSymbol 64 = .ok (.iconst (-1), 1) := by decide +kernel
theorem d_Rd_readBareSymbol_65 : decode b_Rd_readBareSymbol 65 = .ok (.iconst (-1), 1) := by decide +kernel
theorem d_Rd_readBareSymbol_66 : decode b_Rd_readBareSymbol 66 = .ok (.invokevirtual 55, 3) := by decide +kernel
theorem d_Rd_readBareSymbol_69 : decode b_Rd_readBareSymbol 69 = .ok (.ireturn, 1) := by decide +kernel
def f_Rd_readBareSymbol_48 (σ : St) : Int32 × St := ((-1), σ)
def k_Rd_readBareSymbol_48 (σ : St) : Prop := True
def f_Rd_readBareSymbol_69 (s0 : Int32) (σ : St) : Int32 × St := (s0, σ)
def k_Rd_readBareSymbol_69 (s0 : Int32) (σ : St) : Prop := True
def f_Rd_readBareSymbol_25 (x1 : Int32) (σ : St) : Int32 × St := if (f_Sg_isSymbol x1 σ) = 0 then (f_Rd_readBareSymbol_48 σ) else (if (f_Sg_firstOfSymbol x1 σ) = (-1) then (f_Rd_readBareSymbol_69 ((f_Te_make 0 (f_Sg_sortOfSymbol x1 σ) x1 (-1) (-1) σ).1) ((f_Te_make 0 (f_Sg_sortOfSymbol x1 σ) x1 (-1) (-1) σ).2)) else (f_Rd_readBareSymbol_48 σ))
def k_Rd_readBareSymbol_25 (x1 : Int32) (σ : St) : Prop := (k_Sg_isSymbol x1 σ) ∧ (((f_Sg_isSymbol x1 σ) = 0 → (k_Rd_readBareSymbol_48 σ)) ∧ (¬ (f_Sg_isSymbol x1 σ) = 0 → ((k_Sg_firstOfSymbol x1 σ) ∧ (((f_Sg_firstOfSymbol x1 σ) = (-1) → ((k_Sg_sortOfSymbol x1 σ) ∧ ((k_Te_make 0 (f_Sg_sortOfSymbol x1 σ) x1 (-1) (-1) σ) ∧ (k_Rd_readBareSymbol_69 ((f_Te_make 0 (f_Sg_sortOfSymbol x1 σ) x1 (-1) (-1) σ).1) ((f_Te_make 0 (f_Sg_sortOfSymbol x1 σ) x1 (-1) (-1) σ).2))))) ∧ (¬ (f_Sg_firstOfSymbol x1 σ) = (-1) → (k_Rd_readBareSymbol_48 σ))))))
def f_Rd_readBareSymbol_15 (x1 : Int32) (σ : St) : Int32 × St := f_Rd_readBareSymbol_25 x1 (sF σ 20 3 ((σ.1 20 3) + 1))
def k_Rd_readBareSymbol_15 (x1 : Int32) (σ : St) : Prop := k_Rd_readBareSymbol_25 x1 (sF σ 20 3 ((σ.1 20 3) + 1))
def f_Rd_readBareSymbol (σ : St) : Int32 × St := f_Rd_readBareSymbol_15 ((f_Dr_letter (σ.1 20 3) σ) - 97) σ
def k_Rd_readBareSymbol (σ : St) : Prop := (k_Dr_letter (σ.1 20 3) σ) ∧ (k_Rd_readBareSymbol_15 ((f_Dr_letter (σ.1 20 3) σ) - 97) σ)
abbrev w_Rd_readBareSymbol : List Cond := Cond.code y_Rd_readBareSymbol b_Rd_readBareSymbol 2 (some .int) :: gw
abbrev rm_Rd_readBareSymbol : Room := { frames := 3, cells := 0, slots := 0, locals := 76 }
set_option maxHeartbeats 4000000 in
set_option maxRecDepth 100000 in
theorem c_Rd_readBareSymbol (l : Launch) (D : va_G) (ty : Nat → ClassId) (h : Nat → Nat) (px : va_W) (σ : St) (sz : Nat) (hk : k_Rd_readBareSymbol σ) : Met l y_Rd_readBareSymbol w_Rd_readBareSymbol rm_Rd_readBareSymbol (va_Pc [.ref (h 20)] (fun U => U.heap.size = sz ∧ va_P D classes (Wc ty h σ px) U.heap ∧ va_K D classes (Ta ty) U ∧ NW U ∧ va_D (fun _ => True) (Wc ty h σ px))) (va_Qi (fun r (u : St) => (r, u) = f_Rd_readBareSymbol σ) (fun u t => va_P D classes (Wc ty h u px) t.heap) (va_A (Wc ty h σ px) sz)) 0 0 (va_A (Wc ty h σ px) sz) := by
  refine Met.ofW (cc := b_Rd_readBareSymbol) (maxL := 2) (ret := (some .int)) (by decide) rfl ?_
  intro p e s m args below meth c s₁ B hml hv
  obtain ⟨ha, hsz, hP, hK, hN, hD0⟩ := hv
  have hx := B.exec
  have hb := B.bytes
  have hr := B.returns
  have hg : ∀ w ∈ gw, w.before args s = true := fun w h9 => atoms_spec (ws := w_Rd_readBareSymbol) B.pre w (List.mem_cons_of_mem _ h9)
  have hown : s.vm.findClass "ClauseLedger$Reader" = some m.cls := findClass_of_methodNamed B.named
  have hlocks := B.notSynchronized
  subst hsz
  have hD := hD0.self (sz := s.heap.size)
  generalize hAe : va_A (Wc ty h σ px) s.heap.size = A at hD ⊢
  have hA : ∀ q : Nat, s.heap.size ≤ q → A q := fun q h9 => by rw [← hAe]; exact Or.inr h9
  have hS : va_S A s.heap s.heap [] := va_S.rf
  have he : entryFrame m args 2 = entryFrame m ([.ref (h 20)] : List Value).toArray 2 := by rw [ha]
  rw [he, lg_entry_eq]
  have hl := lv_entry ([.ref (h 20)]) (n := 2) (Nat.le_of_ble_eq_true rfl)
  generalize (lg_sl ([.ref (h 20)]) ++ List.replicate (2 - (lg_sl ([.ref (h 20)])).length) Slot.unset).toArray = ls at hl ⊢
  have hl : lv_has ls 2 [(0, .ref (h 20))] := hl
  generalize hv : f_Rd_readBareSymbol σ = v
  replace hv := hv.symm
  have B48 : ∀ (H : Heap) (locs : List Loc) (ls : Array Slot) (σ : St), v = f_Rd_readBareSymbol_48 σ → k_Rd_readBareSymbol_48 σ → lv_has ls 2 [] → va_P D classes (Wc ty h σ px) H → va_D A (Wc ty h σ px) → va_S A s.heap H locs → W p l e (headSpec w_Rd_readBareSymbol rm_Rd_readBareSymbol).room s m args below meth c H locs 0 0 (MQ below (va_Qi (fun r (u : St) => (r, u) = v) (fun u t => va_P D classes (Wc ty h u px) t.heap) A) args s 0 0 A) (F0 m 48 ls []) := by
    intro H locs ls σ hv hk hl hP hD hS
    unfold f_Rd_readBareSymbol_48 at hv
    unfold k_Rd_readBareSymbol_48 at hk
    refine lv_iconst (v := -1) hx hb d_Rd_readBareSymbol_48 (by decide) ?_
    exact W.iret hx hb hr (fun t ht hW => ⟨⟨_, _, rfl, hv.symm, by dsimp only; rw [ht]; exact hP⟩, hS.F ht⟩) hS.2.2 d_Rd_readBareSymbol_49
  have B69 : ∀ (H : Heap) (locs : List Loc) (ls : Array Slot) (s0 : Int32) (σ : St), v = f_Rd_readBareSymbol_69 s0 σ → k_Rd_readBareSymbol_69 s0 σ → lv_has ls 2 [] → va_P D classes (Wc ty h σ px) H → va_D A (Wc ty h σ px) → va_S A s.heap H locs → W p l e (headSpec w_Rd_readBareSymbol rm_Rd_readBareSymbol).room s m args below meth c H locs 0 0 (MQ below (va_Qi (fun r (u : St) => (r, u) = v) (fun u t => va_P D classes (Wc ty h u px) t.heap) A) args s 0 0 A) (F0 m 69 ls [.int s0]) := by
    intro H locs ls s0 σ hv hk hl hP hD hS
    unfold f_Rd_readBareSymbol_69 at hv
    unfold k_Rd_readBareSymbol_69 at hk
    exact W.iret hx hb hr (fun t ht hW => ⟨⟨_, _, rfl, hv.symm, by dsimp only; rw [ht]; exact hP⟩, hS.F ht⟩) hS.2.2 d_Rd_readBareSymbol_69
  have B25 : ∀ (H : Heap) (locs : List Loc) (ls : Array Slot) (x1 : Int32) (σ : St), v = f_Rd_readBareSymbol_25 x1 σ → k_Rd_readBareSymbol_25 x1 σ → lv_has ls 2 [(0, .ref (h 20)), (1, .int x1)] → va_P D classes (Wc ty h σ px) H → va_D A (Wc ty h σ px) → va_S A s.heap H locs → W p l e (headSpec w_Rd_readBareSymbol rm_Rd_readBareSymbol).room s m args below meth c H locs 0 0 (MQ below (va_Qi (fun r (u : St) => (r, u) = v) (fun u t => va_P D classes (Wc ty h u px) t.heap) A) args s 0 0 A) (F0 m 25 ls []) := by
    intro H locs ls x1 σ hv hk hl hP hD hS
    unfold f_Rd_readBareSymbol_25 at hv
    unfold k_Rd_readBareSymbol_25 at hk
    refine lv_aload_n hx hb d_Rd_readBareSymbol_25 rfl (lv_at hl 0 rfl) ?_
    refine va_get (v := .ref (h 1)) (C := R_Rd) (T := T_Rd) (N := 4) hx hb hg in_Rd hown hK hP 20 rfl rfl 1 (by decide) (hg _ m_134) (fun _ h9 => h9) rfl d_Rd_readBareSymbol_26 ?_
    refine lv_iload_n hx hb d_Rd_readBareSymbol_29 rfl (lv_at hl 1 rfl) ?_
    obtain ⟨hk0, hk⟩ := hk
    refine zz_callV (va_runV (As := [.int x1]) (rest := []) ⟨hx, hb, hml, hown, hg⟩ (c_Sg_isSymbol l D ty h px σ x1 hk0) ⟨callB_of 1 hg (gw_C m_599) rfl rfl rfl (hg _ m_2) (hg _ m_737) hd_Sg_isSymbol ⟨Nat.le_of_ble_eq_true rfl, Nat.le_of_ble_eq_true rfl⟩, hg _ m_597, hg _ m_598⟩ (zz_preV hN hK hP 1 rfl rfl) rfl rfl hl.1 rfl (lv_room (Nat.le_of_ble_eq_true rfl)) d_Rd_readBareSymbol_30 ⟨Nat.le_of_ble_eq_true rfl, Nat.le_of_ble_eq_true rfl⟩) ?_
    refine lv_if_eq (tgt := 48) hx hb d_Rd_readBareSymbol_33 (by decide) (fun hc => ?_) (fun hc => ?_)
    · have hv := hv.trans (if_pos hc)
      have hk := hk.1 hc
      exact B48 _ _ _  σ hv hk (lv_sub hl [] rfl) hP hD hS
    · have hv := hv.trans (if_neg hc)
      have hk := hk.2 hc
      refine lv_aload_n hx hb d_Rd_readBareSymbol_36 rfl (lv_at hl 0 rfl) ?_
      refine va_get (v := .ref (h 1)) (C := R_Rd) (T := T_Rd) (N := 4) hx hb hg in_Rd hown hK hP 20 rfl rfl 1 (by decide) (hg _ m_134) (fun _ h9 => h9) rfl d_Rd_readBareSymbol_37 ?_
      refine lv_iload_n hx hb d_Rd_readBareSymbol_40 rfl (lv_at hl 1 rfl) ?_
      obtain ⟨hk0, hk⟩ := hk
      refine zz_callV (va_runV (As := [.int x1]) (rest := []) ⟨hx, hb, hml, hown, hg⟩ (c_Sg_firstOfSymbol l D ty h px σ x1 hk0) ⟨callB_of 1 hg (gw_C m_595) rfl rfl rfl (hg _ m_2) (hg _ m_592) hd_Sg_firstOfSymbol ⟨Nat.le_of_ble_eq_true rfl, Nat.le_of_ble_eq_true rfl⟩, hg _ m_593, hg _ m_594⟩ (zz_preV hN hK hP 1 rfl rfl) rfl rfl hl.1 rfl (lv_room (Nat.le_of_ble_eq_true rfl)) d_Rd_readBareSymbol_41 ⟨Nat.le_of_ble_eq_true rfl, Nat.le_of_ble_eq_true rfl⟩) ?_
      refine lv_iconst (v := -1) hx hb d_Rd_readBareSymbol_44 (by decide) ?_
      refine lv_icmp_eq (tgt := 50) hx hb d_Rd_readBareSymbol_45 (by decide) (fun hc => ?_) (fun hc => ?_)
      · have hv := hv.trans (if_pos hc)
        have hk := hk.1 hc
        refine lv_aload_n hx hb d_Rd_readBareSymbol_50 rfl (lv_at hl 0 rfl) ?_
        refine va_get (v := .ref (h 6)) (C := R_Rd) (T := T_Rd) (N := 4) hx hb hg in_Rd hown hK hP 20 rfl rfl 2 (by decide) (hg _ m_135) (fun _ h9 => h9) rfl d_Rd_readBareSymbol_51 ?_
        refine lv_iconst (v := 0) hx hb d_Rd_readBareSymbol_54 (by decide) ?_
        refine lv_aload_n hx hb d_Rd_readBareSymbol_55 rfl (lv_at hl 0 rfl) ?_
        refine va_get (v := .ref (h 1)) (C := R_Rd) (T := T_Rd) (N := 4) hx hb hg in_Rd hown hK hP 20 rfl rfl 1 (by decide) (hg _ m_134) (fun _ h9 => h9) rfl d_Rd_readBareSymbol_56 ?_
        refine lv_iload_n hx hb d_Rd_readBareSymbol_59 rfl (lv_at hl 1 rfl) ?_
        obtain ⟨hk0, hk⟩ := hk
        refine zz_callV (va_runV (As := [.int x1]) (rest := [.int 0, .ref (h 6)]) ⟨hx, hb, hml, hown, hg⟩ (c_Sg_sortOfSymbol l D ty h px σ x1 hk0) ⟨callB_of 1 hg (gw_C m_616) rfl rfl rfl (hg _ m_2) (hg _ m_613) hd_Sg_sortOfSymbol ⟨Nat.le_of_ble_eq_true rfl, Nat.le_of_ble_eq_true rfl⟩, hg _ m_614, hg _ m_615⟩ (zz_preV hN hK hP 1 rfl rfl) rfl rfl hl.1 rfl (lv_room (Nat.le_of_ble_eq_true rfl)) d_Rd_readBareSymbol_60 ⟨Nat.le_of_ble_eq_true rfl, Nat.le_of_ble_eq_true rfl⟩) ?_
        refine lv_iload_n hx hb d_Rd_readBareSymbol_63 rfl (lv_at hl 1 rfl) ?_
        refine lv_iconst (v := -1) hx hb d_Rd_readBareSymbol_64 (by decide) ?_
        refine lv_iconst (v := -1) hx hb d_Rd_readBareSymbol_65 (by decide) ?_
        obtain ⟨hk0, hk⟩ := hk
        refine va_calli (va_runV (As := [.int 0, .int (f_Sg_sortOfSymbol x1 σ), .int x1, .int (-1), .int (-1)]) (rest := []) ⟨hx, hb, hml, hown, hg⟩ (c_Te_make l D ty h px σ H.size 0 (f_Sg_sortOfSymbol x1 σ) x1 (-1) (-1) hk0) ⟨callB_of 5 hg (gw_C m_620) rfl rfl rfl (hg _ m_3) (hg _ m_617) hd_Te_make ⟨Nat.le_of_ble_eq_true rfl, Nat.le_of_ble_eq_true rfl⟩, hg _ m_618, hg _ m_619⟩ (zz_preVW hN hK hP hD 6 rfl rfl) rfl rfl hl.1 rfl (lv_room (Nat.le_of_ble_eq_true rfl)) d_Rd_readBareSymbol_66 ⟨Nat.le_of_ble_eq_true rfl, Nat.le_of_ble_eq_true rfl⟩) hS (fun q _ h => zz_free hD hS hA q h) (zz_free hD hS hA) (fun r66 u66 t H locs ht hvm hp hP1 hz hk1 hS => ?_)
        rw [ht] at hP1
        rw [← hp] at hv hk
        have hD : va_D A (Wc ty h u66 px) := zz_D hD rfl
        have hP := hP1
        exact B69 _ _ _ r66 u66 hv hk (lv_sub hl [] rfl) hP hD hS
      · have hv := hv.trans (if_neg hc)
        have hk := hk.2 hc
        exact B48 _ _ _  σ hv hk (lv_sub hl [] rfl) hP hD hS
  have B15 : ∀ (H : Heap) (locs : List Loc) (ls : Array Slot) (x1 : Int32) (σ : St), v = f_Rd_readBareSymbol_15 x1 σ → k_Rd_readBareSymbol_15 x1 σ → lv_has ls 2 [(0, .ref (h 20)), (1, .int x1)] → va_P D classes (Wc ty h σ px) H → va_D A (Wc ty h σ px) → va_S A s.heap H locs → W p l e (headSpec w_Rd_readBareSymbol rm_Rd_readBareSymbol).room s m args below meth c H locs 0 0 (MQ below (va_Qi (fun r (u : St) => (r, u) = v) (fun u t => va_P D classes (Wc ty h u px) t.heap) A) args s 0 0 A) (F0 m 15 ls []) := by
    intro H locs ls x1 σ hv hk hl hP hD hS
    unfold f_Rd_readBareSymbol_15 at hv
    unfold k_Rd_readBareSymbol_15 at hk
    refine lv_aload_n hx hb d_Rd_readBareSymbol_15 rfl (lv_at hl 0 rfl) ?_
    refine lv_dup hx hb d_Rd_readBareSymbol_16 rfl ?_
    refine va_get (v := .int (σ.1 20 3)) (C := R_Rd) (T := T_Rd) (N := 4) hx hb hg in_Rd hown hK hP 20 rfl rfl 3 (by decide) (hg _ m_136) (fun _ h9 => h9) rfl d_Rd_readBareSymbol_17 ?_
    refine lv_iconst (v := 1) hx hb d_Rd_readBareSymbol_20 (by decide) ?_
    refine lv_iadd hx hb d_Rd_readBareSymbol_21 ?_
    refine va_put (v := .int ((σ.1 20 3) + 1)) (ty := .int) (C := R_Rd) (T := T_Rd) (N := 4) hx hb hg in_Rd ty_Rd ok_Rd nm_Rd hown hK hP hD hS 20 rfl rfl 3 (by decide) (hg _ m_136) (fun _ h9 => h9) rfl (by decide +kernel) rfl rfl (Nat.le_of_ble_eq_true rfl) d_Rd_readBareSymbol_22 (fun H locs hP hD hS => ?_)
    have hP : va_P D classes (Wc ty h (sF σ 20 3 ((σ.1 20 3) + 1)) px) H := hP
    have hD : va_D A (Wc ty h (sF σ 20 3 ((σ.1 20 3) + 1)) px) := hD
    exact B25 _ _ _ x1 (sF σ 20 3 ((σ.1 20 3) + 1)) hv hk (lv_sub hl [0, 1] rfl) hP hD hS
  unfold f_Rd_readBareSymbol at hv
  unfold k_Rd_readBareSymbol at hk
  refine lv_aload_n hx hb d_Rd_readBareSymbol_0 rfl (lv_at hl 0 rfl) ?_
  refine va_get (v := .ref (h 18)) (C := R_Rd) (T := T_Rd) (N := 4) hx hb hg in_Rd hown hK hP 20 rfl rfl 0 (by decide) (hg _ m_133) (fun _ h9 => h9) rfl d_Rd_readBareSymbol_1 ?_
  refine lv_aload_n hx hb d_Rd_readBareSymbol_4 rfl (lv_at hl 0 rfl) ?_
  refine va_get (v := .int (σ.1 20 3)) (C := R_Rd) (T := T_Rd) (N := 4) hx hb hg in_Rd hown hK hP 20 rfl rfl 3 (by decide) (hg _ m_136) (fun _ h9 => h9) rfl d_Rd_readBareSymbol_5 ?_
  obtain ⟨hk0, hk⟩ := hk
  refine zz_callV (va_runV (As := [.int (σ.1 20 3)]) (rest := []) ⟨hx, hb, hml, hown, hg⟩ (c_Dr_letter l D ty h px σ (σ.1 20 3) hk0) ⟨callB_of 1 hg (gw_C m_583) rfl rfl rfl (hg _ m_4) (hg _ m_580) hd_Dr_letter ⟨Nat.le_of_ble_eq_true rfl, Nat.le_of_ble_eq_true rfl⟩, hg _ m_581, hg _ m_582⟩ (zz_preV hN hK hP 18 rfl rfl) rfl rfl hl.1 rfl (lv_room (Nat.le_of_ble_eq_true rfl)) d_Rd_readBareSymbol_8 ⟨Nat.le_of_ble_eq_true rfl, Nat.le_of_ble_eq_true rfl⟩) ?_
  refine lv_bipush (v := 97) hx hb d_Rd_readBareSymbol_11 (by decide) ?_
  refine lv_isub hx hb d_Rd_readBareSymbol_13 ?_
  refine lv_istore_n (lv' := [(1, .int ((f_Dr_letter (σ.1 20 3) σ) - 97)), (0, .ref (h 20))]) hx hb d_Rd_readBareSymbol_14 rfl hl (by decide) rfl (fun ls hl => ?_)
  exact B15 _ _ _ ((f_Dr_letter (σ.1 20 3) σ) - 97) σ hv hk (lv_sub hl [1, 0] rfl) hP hD hS

-- ClauseLedger$Reader.readVariable()I
abbrev b_Rd_readVariable : ByteArray := prog_5_method_5_code
def y_Rd_readVariable : MethodName := ⟨"ClauseLedger$Reader", "readVariable", "()I"⟩
theorem hd_Rd_readVariable : y_Rd_readVariable.cls ≠ "java/lang/invoke/MethodHandle" ∧ y_Rd_readVariable.cls ≠ "java/lang/invoke/VarHandle" ∧ (parseMethodDescriptor y_Rd_readVariable.desc).map (fun d => d.parameters.length) = some 0 := by decide +kernel
theorem d_Rd_readVariable_0 : decode b_Rd_readVariable 0 = .ok (.aload_n 0, 1) := by decide +kernel
theorem d_Rd_readVariable_1 : decode b_Rd_readVariable 1 = .ok (.getfield 15, 3) := by decide +kernel
theorem d_Rd_readVariable_4 : decode b_Rd_readVariable 4 = .ok (.aload_n 0, 1) := by decide +kernel
theorem d_Rd_readVariable_5 : decode b_Rd_readVariable 5 = .ok (.getfield 9, 3) := by decide +kernel
theorem d_Rd_readVariable_8 : decode b_Rd_readVariable 8 = .ok (.invokevirtual 37, 3) := by decide +kernel
theorem d_Rd_readVariable_11 : decode b_Rd_readVariable 11 = .ok (.bipush 120, 2) := by decide +kernel
theorem d_Rd_readVariable_13 : decode b_Rd_readVariable 13 = .ok (.isub, 1) := by decide +kernel
theorem d_Rd_readVariable_14 : decode b_Rd_readVariable 14 = .ok (.istore_n 1, 1) := by decide +kernel
theorem d_Rd_readVariable_15 : decode b_Rd_readVariable 15 = .ok (.aload_n 0, 1) := by decide +kernel
theorem d_Rd_readVariable_16 : decode b_Rd_readVariable 16 = .ok (.dup, 1) := by decide +kernel
theorem d_Rd_readVariable_17 : decode b_Rd_readVariable 17 = .ok (.getfield 9, 3) := by decide +kernel
theorem d_Rd_readVariable_20 : decode b_Rd_readVariable 20 = .ok (.iconst 1, 1) := by decide +kernel
theorem d_Rd_readVariable_21 : decode b_Rd_readVariable 21 = .ok (.iadd, 1) := by decide +kernel
theorem d_Rd_readVariable_22 : decode b_Rd_readVariable 22 = .ok (.putfield 9, 3) := by decide +kernel
theorem d_Rd_readVariable_25 : decode b_Rd_readVariable 25 = .ok (.aload_n 0, 1) := by decide +kernel
theorem d_Rd_readVariable_26 : decode b_Rd_readVariable 26 = .ok (.getfield 19, 3) := by decide +kernel
theorem d_Rd_readVariable_29 : decode b_Rd_readVariable 29 = .ok (.iload_n 1, 1) := by decide +kernel
theorem d_Rd_readVariable_30 : decode b_Rd_readVariable 30 = .ok (.invokevirtual 74, 3) := by decide +kernel
theorem d_Rd_readVariable_33 : decode b_Rd_readVariable 33 = .ok (.ifCond .eq 7, 3) := by decide +kernel
theorem d_Rd_readVariable_36 : decode b_Rd_readVariable 36 = .ok (.iload_n 1, 1) := by decide +kernel
theorem d_Rd_readVariable_37 : decode b_Rd_readVariable 37 = .ok (.goto 4, 3) := by decide +kernel
theorem d_Rd_readVariable_40 : decode b_Rd_readVariable 40 = .ok (.iconst (-1), 1) := by decide +kernel
theorem d_Rd_readVariable_41 : decode b_Rd_readVariable 41 = .ok (.ireturn, 1) := by decide +kernel
def f_Rd_readVariable_41 (s0 : Int32) (σ : St) : Int32 × St := (s0, σ)
def k_Rd_readVariable_41 (s0 : Int32) (σ : St) : Prop := True
def f_Rd_readVariable_25 (x1 : Int32) (σ : St) : Int32 × St := if (f_Sg_isVariable x1 σ) = 0 then (f_Rd_readVariable_41 (-1) σ) else (f_Rd_readVariable_41 x1 σ)
def k_Rd_readVariable_25 (x1 : Int32) (σ : St) : Prop := (k_Sg_isVariable x1 σ) ∧ (((f_Sg_isVariable x1 σ) = 0 → (k_Rd_readVariable_41 (-1) σ)) ∧ (¬ (f_Sg_isVariable x1 σ) = 0 → (k_Rd_readVariable_41 x1 σ)))
def f_Rd_readVariable_15 (x1 : Int32) (σ : St) : Int32 × St := f_Rd_readVariable_25 x1 (sF σ 20 3 ((σ.1 20 3) + 1))
def k_Rd_readVariable_15 (x1 : Int32) (σ : St) : Prop := k_Rd_readVariable_25 x1 (sF σ 20 3 ((σ.1 20 3) + 1))
def f_Rd_readVariable (σ : St) : Int32 × St := f_Rd_readVariable_15 ((f_Dr_letter (σ.1 20 3) σ) - 120) σ
def k_Rd_readVariable (σ : St) : Prop := (k_Dr_letter (σ.1 20 3) σ) ∧ (k_Rd_readVariable_15 ((f_Dr_letter (σ.1 20 3) σ) - 120) σ)
abbrev w_Rd_readVariable : List Cond := Cond.code y_Rd_readVariable b_Rd_readVariable 2 (some .int) :: gw
abbrev rm_Rd_readVariable : Room := { frames := 1, cells := 0, slots := 0, locals := 21 }
set_option maxHeartbeats 4000000 in
set_option maxRecDepth 100000 in
theorem c_Rd_readVariable (l : Launch) (D : va_G) (ty : Nat → ClassId) (h : Nat → Nat) (px : va_W) (σ : St) (sz : Nat) (hk : k_Rd_readVariable σ) : Met l y_Rd_readVariable w_Rd_readVariable rm_Rd_readVariable (va_Pc [.ref (h 20)] (fun U => U.heap.size = sz ∧ va_P D classes (Wc ty h σ px) U.heap ∧ va_K D classes (Ta ty) U ∧ NW U ∧ va_D (fun _ => True) (Wc ty h σ px))) (va_Qi (fun r (u : St) => (r, u) = f_Rd_readVariable σ) (fun u t => va_P D classes (Wc ty h u px) t.heap) (va_A (Wc ty h σ px) sz)) 0 0 (va_A (Wc ty h σ px) sz) := by
  refine Met.ofW (cc := b_Rd_readVariable) (maxL := 2) (ret := (some .int)) (by decide) rfl ?_
  intro p e s m args below meth c s₁ B hml hv
  obtain ⟨ha, hsz, hP, hK, hN, hD0⟩ := hv
  have hx := B.exec
  have hb := B.bytes
  have hr := B.returns
  have hg : ∀ w ∈ gw, w.before args s = true := fun w h9 => atoms_spec (ws := w_Rd_readVariable) B.pre w (List.mem_cons_of_mem _ h9)
  have hown : s.vm.findClass "ClauseLedger$Reader" = some m.cls := findClass_of_methodNamed B.named
  have hlocks := B.notSynchronized
  subst hsz
  have hD := hD0.self (sz := s.heap.size)
  generalize hAe : va_A (Wc ty h σ px) s.heap.size = A at hD ⊢
  have hA : ∀ q : Nat, s.heap.size ≤ q → A q := fun q h9 => by rw [← hAe]; exact Or.inr h9
  have hS : va_S A s.heap s.heap [] := va_S.rf
  have he : entryFrame m args 2 = entryFrame m ([.ref (h 20)] : List Value).toArray 2 := by rw [ha]
  rw [he, lg_entry_eq]
  have hl := lv_entry ([.ref (h 20)]) (n := 2) (Nat.le_of_ble_eq_true rfl)
  generalize (lg_sl ([.ref (h 20)]) ++ List.replicate (2 - (lg_sl ([.ref (h 20)])).length) Slot.unset).toArray = ls at hl ⊢
  have hl : lv_has ls 2 [(0, .ref (h 20))] := hl
  generalize hv : f_Rd_readVariable σ = v
  replace hv := hv.symm
  have B41 : ∀ (H : Heap) (locs : List Loc) (ls : Array Slot) (s0 : Int32) (σ : St), v = f_Rd_readVariable_41 s0 σ → k_Rd_readVariable_41 s0 σ → lv_has ls 2 [] → va_P D classes (Wc ty h σ px) H → va_D A (Wc ty h σ px) → va_S A s.heap H locs → W p l e (headSpec w_Rd_readVariable rm_Rd_readVariable).room s m args below meth c H locs 0 0 (MQ below (va_Qi (fun r (u : St) => (r, u) = v) (fun u t => va_P D classes (Wc ty h u px) t.heap) A) args s 0 0 A) (F0 m 41 ls [.int s0]) := by
    intro H locs ls s0 σ hv hk hl hP hD hS
    unfold f_Rd_readVariable_41 at hv
    unfold k_Rd_readVariable_41 at hk
    exact W.iret hx hb hr (fun t ht hW => ⟨⟨_, _, rfl, hv.symm, by dsimp only; rw [ht]; exact hP⟩, hS.F ht⟩) hS.2.2 d_Rd_readVariable_41
  have B25 : ∀ (H : Heap) (locs : List Loc) (ls : Array Slot) (x1 : Int32) (σ : St), v = f_Rd_readVariable_25 x1 σ → k_Rd_readVariable_25 x1 σ → lv_has ls 2 [(0, .ref (h 20)), (1, .int x1)] → va_P D classes (Wc ty h σ px) H → va_D A (Wc ty h σ px) → va_S A s.heap H locs → W p l e (headSpec w_Rd_readVariable rm_Rd_readVariable).room s m args below meth c H locs 0 0 (MQ below (va_Qi (fun r (u : St) => (r, u) = v) (fun u t => va_P D classes (Wc ty h u px) t.heap) A) args s 0 0 A) (F0 m 25 ls []) := by
    intro H locs ls x1 σ hv hk hl hP hD hS
    unfold f_Rd_readVariable_25 at hv
    unfold k_Rd_readVariable_25 at hk
    refine lv_aload_n hx hb d_Rd_readVariable_25 rfl (lv_at hl 0 rfl) ?_
    refine va_get (v := .ref (h 1)) (C := R_Rd) (T := T_Rd) (N := 4) hx hb hg in_Rd hown hK hP 20 rfl rfl 1 (by decide) (hg _ m_134) (fun _ h9 => h9) rfl d_Rd_readVariable_26 ?_
    refine lv_iload_n hx hb d_Rd_readVariable_29 rfl (lv_at hl 1 rfl) ?_
    obtain ⟨hk0, hk⟩ := hk
    refine zz_callV (va_runV (As := [.int x1]) (rest := []) ⟨hx, hb, hml, hown, hg⟩ (c_Sg_isVariable l D ty h px σ x1 hk0) ⟨callB_of 1 hg (gw_C m_357) rfl rfl rfl (hg _ m_2) (hg _ m_667) hd_Sg_isVariable ⟨Nat.le_of_ble_eq_true rfl, Nat.le_of_ble_eq_true rfl⟩, hg _ m_355, hg _ m_356⟩ (zz_preV hN hK hP 1 rfl rfl) rfl rfl hl.1 rfl (lv_room (Nat.le_of_ble_eq_true rfl)) d_Rd_readVariable_30 ⟨Nat.le_of_ble_eq_true rfl, Nat.le_of_ble_eq_true rfl⟩) ?_
    refine lv_if_eq (tgt := 40) hx hb d_Rd_readVariable_33 (by decide) (fun hc => ?_) (fun hc => ?_)
    · have hv := hv.trans (if_pos hc)
      have hk := hk.1 hc
      refine lv_iconst (v := -1) hx hb d_Rd_readVariable_40 (by decide) ?_
      exact B41 _ _ _ (-1) σ hv hk (lv_sub hl [] rfl) hP hD hS
    · have hv := hv.trans (if_neg hc)
      have hk := hk.2 hc
      refine lv_iload_n hx hb d_Rd_readVariable_36 rfl (lv_at hl 1 rfl) ?_
      refine lv_goto (tgt := 41) hx hb d_Rd_readVariable_37 (by decide) ?_
      exact B41 _ _ _ x1 σ hv hk (lv_sub hl [] rfl) hP hD hS
  have B15 : ∀ (H : Heap) (locs : List Loc) (ls : Array Slot) (x1 : Int32) (σ : St), v = f_Rd_readVariable_15 x1 σ → k_Rd_readVariable_15 x1 σ → lv_has ls 2 [(0, .ref (h 20)), (1, .int x1)] → va_P D classes (Wc ty h σ px) H → va_D A (Wc ty h σ px) → va_S A s.heap H locs → W p l e (headSpec w_Rd_readVariable rm_Rd_readVariable).room s m args below meth c H locs 0 0 (MQ below (va_Qi (fun r (u : St) => (r, u) = v) (fun u t => va_P D classes (Wc ty h u px) t.heap) A) args s 0 0 A) (F0 m 15 ls []) := by
    intro H locs ls x1 σ hv hk hl hP hD hS
    unfold f_Rd_readVariable_15 at hv
    unfold k_Rd_readVariable_15 at hk
    refine lv_aload_n hx hb d_Rd_readVariable_15 rfl (lv_at hl 0 rfl) ?_
    refine lv_dup hx hb d_Rd_readVariable_16 rfl ?_
    refine va_get (v := .int (σ.1 20 3)) (C := R_Rd) (T := T_Rd) (N := 4) hx hb hg in_Rd hown hK hP 20 rfl rfl 3 (by decide) (hg _ m_136) (fun _ h9 => h9) rfl d_Rd_readVariable_17 ?_
    refine lv_iconst (v := 1) hx hb d_Rd_readVariable_20 (by decide) ?_
    refine lv_iadd hx hb d_Rd_readVariable_21 ?_
    refine va_put (v := .int ((σ.1 20 3) + 1)) (ty := .int) (C := R_Rd) (T := T_Rd) (N := 4) hx hb hg in_Rd ty_Rd ok_Rd nm_Rd hown hK hP hD hS 20 rfl rfl 3 (by decide) (hg _ m_136) (fun _ h9 => h9) rfl (by decide +kernel) rfl rfl (Nat.le_of_ble_eq_true rfl) d_Rd_readVariable_22 (fun H locs hP hD hS => ?_)
    have hP : va_P D classes (Wc ty h (sF σ 20 3 ((σ.1 20 3) + 1)) px) H := hP
    have hD : va_D A (Wc ty h (sF σ 20 3 ((σ.1 20 3) + 1)) px) := hD
    exact B25 _ _ _ x1 (sF σ 20 3 ((σ.1 20 3) + 1)) hv hk (lv_sub hl [0, 1] rfl) hP hD hS
  unfold f_Rd_readVariable at hv
  unfold k_Rd_readVariable at hk
  refine lv_aload_n hx hb d_Rd_readVariable_0 rfl (lv_at hl 0 rfl) ?_
  refine va_get (v := .ref (h 18)) (C := R_Rd) (T := T_Rd) (N := 4) hx hb hg in_Rd hown hK hP 20 rfl rfl 0 (by decide) (hg _ m_133) (fun _ h9 => h9) rfl d_Rd_readVariable_1 ?_
  refine lv_aload_n hx hb d_Rd_readVariable_4 rfl (lv_at hl 0 rfl) ?_
  refine va_get (v := .int (σ.1 20 3)) (C := R_Rd) (T := T_Rd) (N := 4) hx hb hg in_Rd hown hK hP 20 rfl rfl 3 (by decide) (hg _ m_136) (fun _ h9 => h9) rfl d_Rd_readVariable_5 ?_
  obtain ⟨hk0, hk⟩ := hk
  refine zz_callV (va_runV (As := [.int (σ.1 20 3)]) (rest := []) ⟨hx, hb, hml, hown, hg⟩ (c_Dr_letter l D ty h px σ (σ.1 20 3) hk0) ⟨callB_of 1 hg (gw_C m_583) rfl rfl rfl (hg _ m_4) (hg _ m_580) hd_Dr_letter ⟨Nat.le_of_ble_eq_true rfl, Nat.le_of_ble_eq_true rfl⟩, hg _ m_581, hg _ m_582⟩ (zz_preV hN hK hP 18 rfl rfl) rfl rfl hl.1 rfl (lv_room (Nat.le_of_ble_eq_true rfl)) d_Rd_readVariable_8 ⟨Nat.le_of_ble_eq_true rfl, Nat.le_of_ble_eq_true rfl⟩) ?_
  refine lv_bipush (v := 120) hx hb d_Rd_readVariable_11 (by decide) ?_
  refine lv_isub hx hb d_Rd_readVariable_13 ?_
  refine lv_istore_n (lv' := [(1, .int ((f_Dr_letter (σ.1 20 3) σ) - 120)), (0, .ref (h 20))]) hx hb d_Rd_readVariable_14 rfl hl (by decide) rfl (fun ls hl => ?_)
  exact B15 _ _ _ ((f_Dr_letter (σ.1 20 3) σ) - 120) σ hv hk (lv_sub hl [1, 0] rfl) hP hD hS

-- ClauseLedger$Reader.canBePartsOf(III)Z
abbrev b_Rd_canBePartsOf : ByteArray := prog_5_method_10_code
def y_Rd_canBePartsOf : MethodName := ⟨"ClauseLedger$Reader", "canBePartsOf", "(III)Z"⟩
theorem hd_Rd_canBePartsOf : y_Rd_canBePartsOf.cls ≠ "java/lang/invoke/MethodHandle" ∧ y_Rd_canBePartsOf.cls ≠ "java/lang/invoke/VarHandle" ∧ (parseMethodDescriptor y_Rd_canBePartsOf.desc).map (fun d => d.parameters.length) = some 3 := by decide +kernel
theorem d_Rd_canBePartsOf_0 : decode b_Rd_canBePartsOf 0 = .ok (.iload_n 1, 1) := by decide +kernel
theorem d_Rd_canBePartsOf_1 : decode b_Rd_canBePartsOf 1 = .ok (.iconst 5, 1) := by decide +kernel
theorem d_Rd_canBePartsOf_2 : decode b_Rd_canBePartsOf 2 = .ok (.if_icmp .ne 28, 3) := by decide +kernel
theorem d_Rd_canBePartsOf_5 : decode b_Rd_canBePartsOf 5 = .ok (.aload_n 0, 1) := by decide +kernel
theorem d_Rd_canBePartsOf_6 : decode b_Rd_canBePartsOf 6 = .ok (.getfield 23, 3) := by decide +kernel
theorem d_Rd_canBePartsOf_9 : decode b_Rd_canBePartsOf 9 = .ok (.iload_n 2, 1) := by decide +kernel
theorem d_Rd_canBePartsOf_10 : decode b_Rd_canBePartsOf 10 = .ok (.invokevirtual 105, 3) := by decide +kernel
theorem d_Rd_canBePartsOf_13 : decode b_Rd_canBePartsOf 13 = .ok (.aload_n 0, 1) := by decide +kernel
theorem d_Rd_canBePartsOf_14 : decode b_Rd_canBePartsOf 14 = .ok (.getfield 23, 3) := by decide +kernel
theorem d_Rd_canBePartsOf_17 : decode b_Rd_canBePartsOf 17 = .ok (.iload_n 3, 1) := by decide +kernel
theorem d_Rd_canBePartsOf_18 : decode b_Rd_canBePartsOf 18 = .ok (.invokevirtual 105, 3) := by decide +kernel
theorem d_Rd_canBePartsOf_21 : decode b_Rd_canBePartsOf 21 = .ok (.if_icmp .ne 7, 3) := by decide +kernel
theorem d_Rd_canBePartsOf_24 : decode b_Rd_canBePartsOf 24 = .ok (.iconst 1, 1) := by decide +kernel
theorem d_Rd_canBePartsOf_25 : decode b_Rd_canBePartsOf 25 = .ok (.goto 4, 3) := by decide +kernel
theorem d_Rd_canBePartsOf_28 : decode b_Rd_canBePartsOf 28 = .ok (.iconst 0, 1) := by decide +kernel
theorem d_Rd_canBePartsOf_29 : decode b_Rd_canBePartsOf 29 = .ok (.ireturn, 1) := by decide +kernel
theorem d_Rd_canBePartsOf_30 : decode b_Rd_canBePartsOf 30 = .ok (.iload_n 1, 1) := by decide +kernel
theorem d_Rd_canBePartsOf_31 : decode b_Rd_canBePartsOf 31 = .ok (.iconst 4, 1) := by decide +kernel
theorem d_Rd_canBePartsOf_32 : decode b_Rd_canBePartsOf 32 = .ok (.if_icmp .ne 33, 3) := by decide +kernel
theorem d_Rd_canBePartsOf_35 : decode b_Rd_canBePartsOf 35 = .ok (.aload_n 0, 1) := by decide +kernel
theorem d_Rd_canBePartsOf_36 : decode b_Rd_canBePartsOf 36 = .ok (.getfield 23, 3) := by decide +kernel
theorem d_Rd_canBePartsOf_39 : decode b_Rd_canBePartsOf 39 = .ok (.iload_n 2, 1) := by decide +kernel
theorem d_Rd_canBePartsOf_40 : decode b_Rd_canBePartsOf 40 = .ok (.invokevirtual 115, 3) := by decide +kernel
theorem d_Rd_canBePartsOf_43 : decode b_Rd_canBePartsOf 43 = .ok (.iconst 2, 1) := by decide +kernel
theorem d_Rd_canBePartsOf_44 : decode b_Rd_canBePartsOf 44 = .ok (.if_icmp .ne 19, 3) := by decide +kernel
theorem d_Rd_canBePartsOf_47 : decode b_Rd_canBePartsOf 47 = .ok (.aload_n 0, 1) := by decide +kernel
theorem d_Rd_canBePartsOf_48 : decode b_Rd_canBePartsOf 48 = .ok (.getfield 23, 3) := by decide +kernel
theorem d_Rd_canBePartsOf_51 : decode b_Rd_canBePartsOf 51 = .ok (.iload_n 3, 1) := by decide +kernel
theorem d_Rd_canBePartsOf_52 : decode b_Rd_canBePartsOf 52 = .ok (.invokevirtual 105, 3) := by decide +kernel
theorem d_Rd_canBePartsOf_55 : decode b_Rd_canBePartsOf 55 = .ok (.iconst 1, 1) := by decide +kernel
theorem d_Rd_canBePartsOf_56 : decode b_Rd_canBePartsOf 56 = .ok (.if_icmp .ne 7, 3) := by decide +kernel
theorem d_Rd_canBePartsOf_59 : decode b_Rd_canBePartsOf 59 = .ok (.iconst 1, 1) := by decide +kernel
theorem d_Rd_canBePartsOf_60 : decode b_Rd_canBePartsOf 60 = .ok (.goto 4, 3) := by decide +kernel
theorem d_Rd_canBePartsOf_63 : decode b_Rd_canBePartsOf 63 = .ok (.iconst 0, 1) := by decide +kernel
theorem d_Rd_canBePartsOf_64 : decode b_Rd_canBePartsOf 64 = .ok (.ireturn, 1) := by decide +kernel
theorem d_Rd_canBePartsOf_65 : decode b_Rd_canBePartsOf 65 = .ok (.iload_n 1, 1) := by decide +kernel
theorem d_Rd_canBePartsOf_66 : decode b_Rd_canBePartsOf 66 = .ok (.iconst 3, 1) := by decide +kernel
theorem d_Rd_canBePartsOf_67 : decode b_Rd_canBePartsOf 67 = .ok (.if_icmp .eq 9, 3) := by decide +kernel
theorem d_Rd_canBePartsOf_70 : decode b_Rd_canBePartsOf 70 = .ok (.iload_n 1, 1) := by decide +kernel
theorem d_Rd_canBePartsOf_71 : decode b_Rd_canBePartsOf 71 = .ok (.bipush 6, 2) := by decide +kernel
theorem d_Rd_canBePartsOf_73 : decode b_Rd_canBePartsOf 73 = .ok (.if_icmp .ne 7, 3) := by decide +kernel
theorem d_Rd_canBePartsOf_76 : decode b_Rd_canBePartsOf 76 = .ok (.iconst 1, 1) := by decide +kernel
theorem d_Rd_canBePartsOf_77 : decode b_Rd_canBePartsOf 77 = .ok (.goto 4, 3) := by decide +kernel
theorem d_Rd_canBePartsOf_80 : decode b_Rd_canBePartsOf 80 = .ok (.iconst 0, 1) := by decide +kernel
theorem d_Rd_canBePartsOf_81 : decode b_Rd_canBePartsOf 81 = .ok (.istore 4, 2) := by decide +kernel
theorem d_Rd_canBePartsOf_83 : decode b_Rd_canBePartsOf 83 = .ok (.aload_n 0, 1) := by decide +kernel
theorem d_Rd_canBePartsOf_84 : decode b_Rd_canBePartsOf 84 = .ok (.getfield 23, 3) := by decide +kernel
theorem d_Rd_canBePartsOf_87 : decode b_Rd_canBePartsOf 87 = .ok (.iload_n 2, 1) := by decide +kernel
theorem d_Rd_canBePartsOf_88 : decode b_Rd_canBePartsOf 88 = .ok (.invokevirtual 105, 3) := by decide +kernel
theorem d_Rd_canBePartsOf_91 : decode b_Rd_canBePartsOf 91 = .ok (.iload 4, 2) := by decide +kernel
theorem d_Rd_canBePartsOf_93 : decode b_Rd_canBePartsOf 93 = .ok (.if_icmp .ne 20, 3) := by decide +kernel
theorem d_Rd_canBePartsOf_96 : decode b_Rd_canBePartsOf 96 = .ok (.aload_n 0, 1) := by decide +kernel
theorem d_Rd_canBePartsOf_97 : decode b_Rd_canBePartsOf 97 = .ok (.getfield 23, 3) := by decide +kernel
theorem d_Rd_canBePartsOf_100 : decode b_Rd_canBePartsOf 100 = .ok (.iload_n 3, 1) := by decide +kernel
theorem d_Rd_canBePartsOf_101 : decode b_Rd_canBePartsOf 101 = .ok (.invokevirtual 105, 3) := by decide +kernel
theorem d_Rd_canBePartsOf_104 : decode b_Rd_canBePartsOf 104 = .ok (.iload 4, 2) := by decide +kernel
theorem d_Rd_canBePartsOf_106 : decode b_Rd_canBePartsOf 106 = .ok (.if_icmp .ne 7, 3) := by decide +kernel
theorem d_Rd_canBePartsOf_109 : decode b_Rd_canBePartsOf 109 = .ok (.iconst 1, 1) := by decide +kernel
theorem d_Rd_canBePartsOf_110 : decode b_Rd_canBePartsOf 110 = .ok (.goto 4, 3) := by decide +kernel
theorem d_Rd_canBePartsOf_113 : decode b_Rd_canBePartsOf 113 = .ok (.iconst 0, 1) := by decide +kernel
theorem d_Rd_canBePartsOf_114 : decode b_Rd_canBePartsOf 114 = .ok (.ireturn, 1) := by decide +kernel
def f_Rd_canBePartsOf_29 (s0 : Int32) (σ : St) : Int32 := s0
def k_Rd_canBePartsOf_29 (s0 : Int32) (σ : St) : Prop := (narrow .boolean (.int s0) = .int s0) ∧ True
def f_Rd_canBePartsOf_64 (s0 : Int32) (σ : St) : Int32 := s0
def k_Rd_canBePartsOf_64 (s0 : Int32) (σ : St) : Prop := (narrow .boolean (.int s0) = .int s0) ∧ True
def f_Rd_canBePartsOf_63 (σ : St) : Int32 := f_Rd_canBePartsOf_64 0 σ
def k_Rd_canBePartsOf_63 (σ : St) : Prop := k_Rd_canBePartsOf_64 0 σ
def f_Rd_canBePartsOf_114 (s0 : Int32) (σ : St) : Int32 := s0
def k_Rd_canBePartsOf_114 (s0 : Int32) (σ : St) : Prop := (narrow .boolean (.int s0) = .int s0) ∧ True
def f_Rd_canBePartsOf_113 (σ : St) : Int32 := f_Rd_canBePartsOf_114 0 σ
def k_Rd_canBePartsOf_113 (σ : St) : Prop := k_Rd_canBePartsOf_114 0 σ
def f_Rd_canBePartsOf_81 (x2 : Int32) (x3 : Int32) (s0 : Int32) (σ : St) : Int32 := if (f_Te_sortOf x2 σ) = s0 then (if (f_Te_sortOf x3 σ) = s0 then (f_Rd_canBePartsOf_114 1 σ) else (f_Rd_canBePartsOf_113 σ)) else (f_Rd_canBePartsOf_113 σ)
def k_Rd_canBePartsOf_81 (x2 : Int32) (x3 : Int32) (s0 : Int32) (σ : St) : Prop := (k_Te_sortOf x2 σ) ∧ (((f_Te_sortOf x2 σ) = s0 → ((k_Te_sortOf x3 σ) ∧ (((f_Te_sortOf x3 σ) = s0 → (k_Rd_canBePartsOf_114 1 σ)) ∧ (¬ (f_Te_sortOf x3 σ) = s0 → (k_Rd_canBePartsOf_113 σ))))) ∧ (¬ (f_Te_sortOf x2 σ) = s0 → (k_Rd_canBePartsOf_113 σ)))
def f_Rd_canBePartsOf_76 (x2 : Int32) (x3 : Int32) (σ : St) : Int32 := f_Rd_canBePartsOf_81 x2 x3 1 σ
def k_Rd_canBePartsOf_76 (x2 : Int32) (x3 : Int32) (σ : St) : Prop := k_Rd_canBePartsOf_81 x2 x3 1 σ
def f_Rd_canBePartsOf (a1 : Int32) (a2 : Int32) (a3 : Int32) (σ : St) : Int32 := if a1 = 5 then (if (f_Te_sortOf a2 σ) = (f_Te_sortOf a3 σ) then (f_Rd_canBePartsOf_29 1 σ) else (f_Rd_canBePartsOf_29 0 σ)) else (if a1 = 4 then (if (f_Te_kindOf a2 σ) = 2 then (if (f_Te_sortOf a3 σ) = 1 then (f_Rd_canBePartsOf_64 1 σ) else (f_Rd_canBePartsOf_63 σ)) else (f_Rd_canBePartsOf_63 σ)) else (if a1 = 3 then (f_Rd_canBePartsOf_76 a2 a3 σ) else (if a1 = 6 then (f_Rd_canBePartsOf_76 a2 a3 σ) else (f_Rd_canBePartsOf_81 a2 a3 0 σ))))
def k_Rd_canBePartsOf (a1 : Int32) (a2 : Int32) (a3 : Int32) (σ : St) : Prop := (a1 = 5 → ((k_Te_sortOf a2 σ) ∧ ((k_Te_sortOf a3 σ) ∧ (((f_Te_sortOf a2 σ) = (f_Te_sortOf a3 σ) → (k_Rd_canBePartsOf_29 1 σ)) ∧ (¬ (f_Te_sortOf a2 σ) = (f_Te_sortOf a3 σ) → (k_Rd_canBePartsOf_29 0 σ)))))) ∧ (¬ a1 = 5 → ((a1 = 4 → ((k_Te_kindOf a2 σ) ∧ (((f_Te_kindOf a2 σ) = 2 → ((k_Te_sortOf a3 σ) ∧ (((f_Te_sortOf a3 σ) = 1 → (k_Rd_canBePartsOf_64 1 σ)) ∧ (¬ (f_Te_sortOf a3 σ) = 1 → (k_Rd_canBePartsOf_63 σ))))) ∧ (¬ (f_Te_kindOf a2 σ) = 2 → (k_Rd_canBePartsOf_63 σ))))) ∧ (¬ a1 = 4 → ((a1 = 3 → (k_Rd_canBePartsOf_76 a2 a3 σ)) ∧ (¬ a1 = 3 → ((a1 = 6 → (k_Rd_canBePartsOf_76 a2 a3 σ)) ∧ (¬ a1 = 6 → (k_Rd_canBePartsOf_81 a2 a3 0 σ))))))))
abbrev w_Rd_canBePartsOf : List Cond := Cond.code y_Rd_canBePartsOf b_Rd_canBePartsOf 5 (some .boolean) :: gw
abbrev rm_Rd_canBePartsOf : Room := { frames := 2, cells := 0, slots := 0, locals := 42 }
set_option maxHeartbeats 4000000 in
set_option maxRecDepth 100000 in
theorem c_Rd_canBePartsOf (l : Launch) (D : va_G) (ty : Nat → ClassId) (h : Nat → Nat) (px : va_W) (σ : St) (a1 : Int32) (a2 : Int32) (a3 : Int32) (hk : k_Rd_canBePartsOf a1 a2 a3 σ) : Met l y_Rd_canBePartsOf w_Rd_canBePartsOf rm_Rd_canBePartsOf (va_Pc [.ref (h 20), .int a1, .int a2, .int a3] (fun U => va_P D classes (Wc ty h σ px) U.heap ∧ va_K D classes (Ta ty) U ∧ NW U)) (k2_QcV (.int (f_Rd_canBePartsOf a1 a2 a3 σ))) 0 0 (fun _ => False) := by
  refine Met.ofW (cc := b_Rd_canBePartsOf) (maxL := 5) (ret := (some .boolean)) (by decide) rfl ?_
  intro p e s m args below meth c s₁ B hml hv
  obtain ⟨ha, hP, hK, hN⟩ := hv
  have hx := B.exec
  have hb := B.bytes
  have hr := B.returns
  have hg : ∀ w ∈ gw, w.before args s = true := fun w h9 => atoms_spec (ws := w_Rd_canBePartsOf) B.pre w (List.mem_cons_of_mem _ h9)
  have hown : s.vm.findClass "ClauseLedger$Reader" = some m.cls := findClass_of_methodNamed B.named
  have hlocks := B.notSynchronized
  have he : entryFrame m args 5 = entryFrame m ([.ref (h 20), .int a1, .int a2, .int a3] : List Value).toArray 5 := by rw [ha]
  rw [he, lg_entry_eq]
  have hl := lv_entry ([.ref (h 20), .int a1, .int a2, .int a3]) (n := 5) (Nat.le_of_ble_eq_true rfl)
  generalize (lg_sl ([.ref (h 20), .int a1, .int a2, .int a3]) ++ List.replicate (5 - (lg_sl ([.ref (h 20), .int a1, .int a2, .int a3])).length) Slot.unset).toArray = ls at hl ⊢
  have hl : lv_has ls 5 [(0, .ref (h 20)), (1, .int a1), (2, .int a2), (3, .int a3)] := hl
  generalize hv : f_Rd_canBePartsOf a1 a2 a3 σ = v
  replace hv := hv.symm
  have B29 : ∀ (ls : Array Slot) (s0 : Int32), v = f_Rd_canBePartsOf_29 s0 σ → k_Rd_canBePartsOf_29 s0 σ → lv_has ls 5 [] → W p l e (headSpec w_Rd_canBePartsOf rm_Rd_canBePartsOf).room s m args below meth c s.heap [] 0 0 (MQ below (k2_QcV (.int v)) args s 0 0 (fun _ => False)) (F0 m 29 ls [.int s0]) := by
    intro ls s0 hv hk hl
    unfold f_Rd_canBePartsOf_29 at hv
    unfold k_Rd_canBePartsOf_29 at hk
    obtain ⟨hk0, hk⟩ := hk
    exact W.zret hx hb hr hk0 (fun t ht hW => ⟨by rw [hv], ht⟩) (fun q h => nomatch h) d_Rd_canBePartsOf_29
  have B64 : ∀ (ls : Array Slot) (s0 : Int32), v = f_Rd_canBePartsOf_64 s0 σ → k_Rd_canBePartsOf_64 s0 σ → lv_has ls 5 [] → W p l e (headSpec w_Rd_canBePartsOf rm_Rd_canBePartsOf).room s m args below meth c s.heap [] 0 0 (MQ below (k2_QcV (.int v)) args s 0 0 (fun _ => False)) (F0 m 64 ls [.int s0]) := by
    intro ls s0 hv hk hl
    unfold f_Rd_canBePartsOf_64 at hv
    unfold k_Rd_canBePartsOf_64 at hk
    obtain ⟨hk0, hk⟩ := hk
    exact W.zret hx hb hr hk0 (fun t ht hW => ⟨by rw [hv], ht⟩) (fun q h => nomatch h) d_Rd_canBePartsOf_64
  have B63 : ∀ (ls : Array Slot), v = f_Rd_canBePartsOf_63 σ → k_Rd_canBePartsOf_63 σ → lv_has ls 5 [] → W p l e (headSpec w_Rd_canBePartsOf rm_Rd_canBePartsOf).room s m args below meth c s.heap [] 0 0 (MQ below (k2_QcV (.int v)) args s 0 0 (fun _ => False)) (F0 m 63 ls []) := by
    intro ls hv hk hl
    unfold f_Rd_canBePartsOf_63 at hv
    unfold k_Rd_canBePartsOf_63 at hk
    refine lv_iconst (v := 0) hx hb d_Rd_canBePartsOf_63 (by decide) ?_
    exact B64 _ 0 hv hk (lv_sub hl [] rfl)
  have B114 : ∀ (ls : Array Slot) (s0 : Int32), v = f_Rd_canBePartsOf_114 s0 σ → k_Rd_canBePartsOf_114 s0 σ → lv_has ls 5 [] → W p l e (headSpec w_Rd_canBePartsOf rm_Rd_canBePartsOf).room s m args below meth c s.heap [] 0 0 (MQ below (k2_QcV (.int v)) args s 0 0 (fun _ => False)) (F0 m 114 ls [.int s0]) := by
    intro ls s0 hv hk hl
    unfold f_Rd_canBePartsOf_114 at hv
    unfold k_Rd_canBePartsOf_114 at hk
    obtain ⟨hk0, hk⟩ := hk
    exact W.zret hx hb hr hk0 (fun t ht hW => ⟨by rw [hv], ht⟩) (fun q h => nomatch h) d_Rd_canBePartsOf_114
  have B113 : ∀ (ls : Array Slot), v = f_Rd_canBePartsOf_113 σ → k_Rd_canBePartsOf_113 σ → lv_has ls 5 [] → W p l e (headSpec w_Rd_canBePartsOf rm_Rd_canBePartsOf).room s m args below meth c s.heap [] 0 0 (MQ below (k2_QcV (.int v)) args s 0 0 (fun _ => False)) (F0 m 113 ls []) := by
    intro ls hv hk hl
    unfold f_Rd_canBePartsOf_113 at hv
    unfold k_Rd_canBePartsOf_113 at hk
    refine lv_iconst (v := 0) hx hb d_Rd_canBePartsOf_113 (by decide) ?_
    exact B114 _ 0 hv hk (lv_sub hl [] rfl)
  have B81 : ∀ (ls : Array Slot) (x2 : Int32) (x3 : Int32) (s0 : Int32), v = f_Rd_canBePartsOf_81 x2 x3 s0 σ → k_Rd_canBePartsOf_81 x2 x3 s0 σ → lv_has ls 5 [(0, .ref (h 20)), (2, .int x2), (3, .int x3)] → W p l e (headSpec w_Rd_canBePartsOf rm_Rd_canBePartsOf).room s m args below meth c s.heap [] 0 0 (MQ below (k2_QcV (.int v)) args s 0 0 (fun _ => False)) (F0 m 81 ls [.int s0]) := by
    intro ls x2 x3 s0 hv hk hl
    unfold f_Rd_canBePartsOf_81 at hv
    unfold k_Rd_canBePartsOf_81 at hk
    refine lv_istore (lv' := [(4, .int s0), (0, .ref (h 20)), (2, .int x2), (3, .int x3)]) hx hb d_Rd_canBePartsOf_81 hl (by decide) rfl (fun ls hl => ?_)
    refine lv_aload_n hx hb d_Rd_canBePartsOf_83 rfl (lv_at hl 1 rfl) ?_
    refine va_get (v := .ref (h 6)) (C := R_Rd) (T := T_Rd) (N := 4) hx hb hg in_Rd hown hK hP 20 rfl rfl 2 (by decide) (hg _ m_135) (fun _ h9 => h9) rfl d_Rd_canBePartsOf_84 ?_
    refine lv_iload_n hx hb d_Rd_canBePartsOf_87 rfl (lv_at hl 2 rfl) ?_
    obtain ⟨hk0, hk⟩ := hk
    refine zz_callV (va_runV (As := [.int x2]) (rest := []) ⟨hx, hb, hml, hown, hg⟩ (c_Te_sortOf l D ty h px σ x2 hk0) ⟨callB_of 1 hg (gw_C m_439) rfl rfl rfl (hg _ m_3) (hg _ m_612) hd_Te_sortOf ⟨Nat.le_of_ble_eq_true rfl, Nat.le_of_ble_eq_true rfl⟩, hg _ m_437, hg _ m_438⟩ (zz_preV hN hK hP 6 rfl rfl) rfl rfl hl.1 rfl (lv_room (Nat.le_of_ble_eq_true rfl)) d_Rd_canBePartsOf_88 ⟨Nat.le_of_ble_eq_true rfl, Nat.le_of_ble_eq_true rfl⟩) ?_
    refine lv_iload hx hb d_Rd_canBePartsOf_91 (lv_at hl 0 rfl) ?_
    refine lv_icmp_ne (tgt := 113) hx hb d_Rd_canBePartsOf_93 (by decide) (fun hc => ?_) (fun hc => ?_)
    · have hv := hv.trans (if_neg hc)
      have hk := hk.2 hc
      exact B113 _  hv hk (lv_sub hl [] rfl)
    · have hv := hv.trans (if_pos hc)
      have hk := hk.1 hc
      refine lv_aload_n hx hb d_Rd_canBePartsOf_96 rfl (lv_at hl 1 rfl) ?_
      refine va_get (v := .ref (h 6)) (C := R_Rd) (T := T_Rd) (N := 4) hx hb hg in_Rd hown hK hP 20 rfl rfl 2 (by decide) (hg _ m_135) (fun _ h9 => h9) rfl d_Rd_canBePartsOf_97 ?_
      refine lv_iload_n hx hb d_Rd_canBePartsOf_100 rfl (lv_at hl 3 rfl) ?_
      obtain ⟨hk0, hk⟩ := hk
      refine zz_callV (va_runV (As := [.int x3]) (rest := []) ⟨hx, hb, hml, hown, hg⟩ (c_Te_sortOf l D ty h px σ x3 hk0) ⟨callB_of 1 hg (gw_C m_439) rfl rfl rfl (hg _ m_3) (hg _ m_612) hd_Te_sortOf ⟨Nat.le_of_ble_eq_true rfl, Nat.le_of_ble_eq_true rfl⟩, hg _ m_437, hg _ m_438⟩ (zz_preV hN hK hP 6 rfl rfl) rfl rfl hl.1 rfl (lv_room (Nat.le_of_ble_eq_true rfl)) d_Rd_canBePartsOf_101 ⟨Nat.le_of_ble_eq_true rfl, Nat.le_of_ble_eq_true rfl⟩) ?_
      refine lv_iload hx hb d_Rd_canBePartsOf_104 (lv_at hl 0 rfl) ?_
      refine lv_icmp_ne (tgt := 113) hx hb d_Rd_canBePartsOf_106 (by decide) (fun hc => ?_) (fun hc => ?_)
      · have hv := hv.trans (if_neg hc)
        have hk := hk.2 hc
        exact B113 _  hv hk (lv_sub hl [] rfl)
      · have hv := hv.trans (if_pos hc)
        have hk := hk.1 hc
        refine lv_iconst (v := 1) hx hb d_Rd_canBePartsOf_109 (by decide) ?_
        refine lv_goto (tgt := 114) hx hb d_Rd_canBePartsOf_110 (by decide) ?_
        exact B114 _ 1 hv hk (lv_sub hl [] rfl)
  have B76 : ∀ (ls : Array Slot) (x2 : Int32) (x3 : Int32), v = f_Rd_canBePartsOf_76 x2 x3 σ → k_Rd_canBePartsOf_76 x2 x3 σ → lv_has ls 5 [(0, .ref (h 20)), (2, .int x2), (3, .int x3)] → W p l e (headSpec w_Rd_canBePartsOf rm_Rd_canBePartsOf).room s m args below meth c s.heap [] 0 0 (MQ below (k2_QcV (.int v)) args s 0 0 (fun _ => False)) (F0 m 76 ls []) := by
    intro ls x2 x3 hv hk hl
    unfold f_Rd_canBePartsOf_76 at hv
    unfold k_Rd_canBePartsOf_76 at hk
    refine lv_iconst (v := 1) hx hb d_Rd_canBePartsOf_76 (by decide) ?_
    refine lv_goto (tgt := 81) hx hb d_Rd_canBePartsOf_77 (by decide) ?_
    exact B81 _ x2 x3 1 hv hk (lv_sub hl [0, 1, 2] rfl)
  unfold f_Rd_canBePartsOf at hv
  unfold k_Rd_canBePartsOf at hk
  refine lv_iload_n hx hb d_Rd_canBePartsOf_0 rfl (lv_at hl 1 rfl) ?_
  refine lv_iconst (v := 5) hx hb d_Rd_canBePartsOf_1 (by decide) ?_
  refine lv_icmp_ne (tgt := 30) hx hb d_Rd_canBePartsOf_2 (by decide) (fun hc => ?_) (fun hc => ?_)
  · have hv := hv.trans (if_neg hc)
    have hk := hk.2 hc
    refine lv_iload_n hx hb d_Rd_canBePartsOf_30 rfl (lv_at hl 1 rfl) ?_
    refine lv_iconst (v := 4) hx hb d_Rd_canBePartsOf_31 (by decide) ?_
    refine lv_icmp_ne (tgt := 65) hx hb d_Rd_canBePartsOf_32 (by decide) (fun hc => ?_) (fun hc => ?_)
    · have hv := hv.trans (if_neg hc)
      have hk := hk.2 hc
      refine lv_iload_n hx hb d_Rd_canBePartsOf_65 rfl (lv_at hl 1 rfl) ?_
      refine lv_iconst (v := 3) hx hb d_Rd_canBePartsOf_66 (by decide) ?_
      refine lv_icmp_eq (tgt := 76) hx hb d_Rd_canBePartsOf_67 (by decide) (fun hc => ?_) (fun hc => ?_)
      · have hv := hv.trans (if_pos hc)
        have hk := hk.1 hc
        exact B76 _ a2 a3 hv hk (lv_sub hl [0, 2, 3] rfl)
      · have hv := hv.trans (if_neg hc)
        have hk := hk.2 hc
        refine lv_iload_n hx hb d_Rd_canBePartsOf_70 rfl (lv_at hl 1 rfl) ?_
        refine lv_bipush (v := 6) hx hb d_Rd_canBePartsOf_71 (by decide) ?_
        refine lv_icmp_ne (tgt := 80) hx hb d_Rd_canBePartsOf_73 (by decide) (fun hc => ?_) (fun hc => ?_)
        · have hv := hv.trans (if_neg hc)
          have hk := hk.2 hc
          refine lv_iconst (v := 0) hx hb d_Rd_canBePartsOf_80 (by decide) ?_
          exact B81 _ a2 a3 0 hv hk (lv_sub hl [0, 2, 3] rfl)
        · have hv := hv.trans (if_pos hc)
          have hk := hk.1 hc
          exact B76 _ a2 a3 hv hk (lv_sub hl [0, 2, 3] rfl)
    · have hv := hv.trans (if_pos hc)
      have hk := hk.1 hc
      refine lv_aload_n hx hb d_Rd_canBePartsOf_35 rfl (lv_at hl 0 rfl) ?_
      refine va_get (v := .ref (h 6)) (C := R_Rd) (T := T_Rd) (N := 4) hx hb hg in_Rd hown hK hP 20 rfl rfl 2 (by decide) (hg _ m_135) (fun _ h9 => h9) rfl d_Rd_canBePartsOf_36 ?_
      refine lv_iload_n hx hb d_Rd_canBePartsOf_39 rfl (lv_at hl 2 rfl) ?_
      obtain ⟨hk0, hk⟩ := hk
      refine zz_callV (va_runV (As := [.int a2]) (rest := []) ⟨hx, hb, hml, hown, hg⟩ (c_Te_kindOf l D ty h px σ a2 hk0) ⟨callB_of 1 hg (gw_C m_434) rfl rfl rfl (hg _ m_3) (hg _ m_732) hd_Te_kindOf ⟨Nat.le_of_ble_eq_true rfl, Nat.le_of_ble_eq_true rfl⟩, hg _ m_432, hg _ m_433⟩ (zz_preV hN hK hP 6 rfl rfl) rfl rfl hl.1 rfl (lv_room (Nat.le_of_ble_eq_true rfl)) d_Rd_canBePartsOf_40 ⟨Nat.le_of_ble_eq_true rfl, Nat.le_of_ble_eq_true rfl⟩) ?_
      refine lv_iconst (v := 2) hx hb d_Rd_canBePartsOf_43 (by decide) ?_
      refine lv_icmp_ne (tgt := 63) hx hb d_Rd_canBePartsOf_44 (by decide) (fun hc => ?_) (fun hc => ?_)
      · have hv := hv.trans (if_neg hc)
        have hk := hk.2 hc
        exact B63 _  hv hk (lv_sub hl [] rfl)
      · have hv := hv.trans (if_pos hc)
        have hk := hk.1 hc
        refine lv_aload_n hx hb d_Rd_canBePartsOf_47 rfl (lv_at hl 0 rfl) ?_
        refine va_get (v := .ref (h 6)) (C := R_Rd) (T := T_Rd) (N := 4) hx hb hg in_Rd hown hK hP 20 rfl rfl 2 (by decide) (hg _ m_135) (fun _ h9 => h9) rfl d_Rd_canBePartsOf_48 ?_
        refine lv_iload_n hx hb d_Rd_canBePartsOf_51 rfl (lv_at hl 3 rfl) ?_
        obtain ⟨hk0, hk⟩ := hk
        refine zz_callV (va_runV (As := [.int a3]) (rest := []) ⟨hx, hb, hml, hown, hg⟩ (c_Te_sortOf l D ty h px σ a3 hk0) ⟨callB_of 1 hg (gw_C m_439) rfl rfl rfl (hg _ m_3) (hg _ m_612) hd_Te_sortOf ⟨Nat.le_of_ble_eq_true rfl, Nat.le_of_ble_eq_true rfl⟩, hg _ m_437, hg _ m_438⟩ (zz_preV hN hK hP 6 rfl rfl) rfl rfl hl.1 rfl (lv_room (Nat.le_of_ble_eq_true rfl)) d_Rd_canBePartsOf_52 ⟨Nat.le_of_ble_eq_true rfl, Nat.le_of_ble_eq_true rfl⟩) ?_
        refine lv_iconst (v := 1) hx hb d_Rd_canBePartsOf_55 (by decide) ?_
        refine lv_icmp_ne (tgt := 63) hx hb d_Rd_canBePartsOf_56 (by decide) (fun hc => ?_) (fun hc => ?_)
        · have hv := hv.trans (if_neg hc)
          have hk := hk.2 hc
          exact B63 _  hv hk (lv_sub hl [] rfl)
        · have hv := hv.trans (if_pos hc)
          have hk := hk.1 hc
          refine lv_iconst (v := 1) hx hb d_Rd_canBePartsOf_59 (by decide) ?_
          refine lv_goto (tgt := 64) hx hb d_Rd_canBePartsOf_60 (by decide) ?_
          exact B64 _ 1 hv hk (lv_sub hl [] rfl)
  · have hv := hv.trans (if_pos hc)
    have hk := hk.1 hc
    refine lv_aload_n hx hb d_Rd_canBePartsOf_5 rfl (lv_at hl 0 rfl) ?_
    refine va_get (v := .ref (h 6)) (C := R_Rd) (T := T_Rd) (N := 4) hx hb hg in_Rd hown hK hP 20 rfl rfl 2 (by decide) (hg _ m_135) (fun _ h9 => h9) rfl d_Rd_canBePartsOf_6 ?_
    refine lv_iload_n hx hb d_Rd_canBePartsOf_9 rfl (lv_at hl 2 rfl) ?_
    obtain ⟨hk0, hk⟩ := hk
    refine zz_callV (va_runV (As := [.int a2]) (rest := []) ⟨hx, hb, hml, hown, hg⟩ (c_Te_sortOf l D ty h px σ a2 hk0) ⟨callB_of 1 hg (gw_C m_439) rfl rfl rfl (hg _ m_3) (hg _ m_612) hd_Te_sortOf ⟨Nat.le_of_ble_eq_true rfl, Nat.le_of_ble_eq_true rfl⟩, hg _ m_437, hg _ m_438⟩ (zz_preV hN hK hP 6 rfl rfl) rfl rfl hl.1 rfl (lv_room (Nat.le_of_ble_eq_true rfl)) d_Rd_canBePartsOf_10 ⟨Nat.le_of_ble_eq_true rfl, Nat.le_of_ble_eq_true rfl⟩) ?_
    refine lv_aload_n hx hb d_Rd_canBePartsOf_13 rfl (lv_at hl 0 rfl) ?_
    refine va_get (v := .ref (h 6)) (C := R_Rd) (T := T_Rd) (N := 4) hx hb hg in_Rd hown hK hP 20 rfl rfl 2 (by decide) (hg _ m_135) (fun _ h9 => h9) rfl d_Rd_canBePartsOf_14 ?_
    refine lv_iload_n hx hb d_Rd_canBePartsOf_17 rfl (lv_at hl 3 rfl) ?_
    obtain ⟨hk0, hk⟩ := hk
    refine zz_callV (va_runV (As := [.int a3]) (rest := [.int (f_Te_sortOf a2 σ)]) ⟨hx, hb, hml, hown, hg⟩ (c_Te_sortOf l D ty h px σ a3 hk0) ⟨callB_of 1 hg (gw_C m_439) rfl rfl rfl (hg _ m_3) (hg _ m_612) hd_Te_sortOf ⟨Nat.le_of_ble_eq_true rfl, Nat.le_of_ble_eq_true rfl⟩, hg _ m_437, hg _ m_438⟩ (zz_preV hN hK hP 6 rfl rfl) rfl rfl hl.1 rfl (lv_room (Nat.le_of_ble_eq_true rfl)) d_Rd_canBePartsOf_18 ⟨Nat.le_of_ble_eq_true rfl, Nat.le_of_ble_eq_true rfl⟩) ?_
    refine lv_icmp_ne (tgt := 28) hx hb d_Rd_canBePartsOf_21 (by decide) (fun hc => ?_) (fun hc => ?_)
    · have hv := hv.trans (if_neg hc)
      have hk := hk.2 hc
      refine lv_iconst (v := 0) hx hb d_Rd_canBePartsOf_28 (by decide) ?_
      exact B29 _ 0 hv hk (lv_sub hl [] rfl)
    · have hv := hv.trans (if_pos hc)
      have hk := hk.1 hc
      refine lv_iconst (v := 1) hx hb d_Rd_canBePartsOf_24 (by decide) ?_
      refine lv_goto (tgt := 29) hx hb d_Rd_canBePartsOf_25 (by decide) ?_
      exact B29 _ 1 hv hk (lv_sub hl [] rfl)

-- ClauseLedger$Reader.take(C)Z
abbrev b_Rd_take : ByteArray := prog_5_method_15_code
def y_Rd_take : MethodName := ⟨"ClauseLedger$Reader", "take", "(C)Z"⟩
theorem hd_Rd_take : y_Rd_take.cls ≠ "java/lang/invoke/MethodHandle" ∧ y_Rd_take.cls ≠ "java/lang/invoke/VarHandle" ∧ (parseMethodDescriptor y_Rd_take.desc).map (fun d => d.parameters.length) = some 1 := by decide +kernel
theorem d_Rd_take_0 : decode b_Rd_take 0 = .ok (.aload_n 0, 1) := by decide +kernel
theorem d_Rd_take_1 : decode b_Rd_take 1 = .ok (.getfield 15, 3) := by decide +kernel
theorem d_Rd_take_4 : decode b_Rd_take 4 = .ok (.aload_n 0, 1) := by decide +kernel
theorem d_Rd_take_5 : decode b_Rd_take 5 = .ok (.getfield 9, 3) := by decide +kernel
theorem d_Rd_take_8 : decode b_Rd_take 8 = .ok (.invokevirtual 37, 3) := by decide +kernel
theorem d_Rd_take_11 : decode b_Rd_take 11 = .ok (.iload_n 1, 1) := by decide +kernel
theorem d_Rd_take_12 : decode b_Rd_take 12 = .ok (.if_icmp .eq 5, 3) := by decide +kernel
theorem d_Rd_take_15 : decode b_Rd_take 15 = .ok (.iconst 0, 1) := by decide +kernel
theorem d_Rd_take_16 : decode b_Rd_take 16 = .ok (.ireturn, 1) := by decide +kernel
theorem d_Rd_take_17 : decode b_Rd_take 17 = .ok (.aload_n 0, 1) := by decide +kernel
theorem d_Rd_take_18 : decode b_Rd_take 18 = .ok (.dup, 1) := by decide +kernel
theorem d_Rd_take_19 : decode b_Rd_take 19 = .ok (.getfield 9, 3) := by decide +kernel
theorem d_Rd_take_22 : decode b_Rd_take 22 = .ok (.iconst 1, 1) := by decide +kernel
theorem d_Rd_take_23 : decode b_Rd_take 23 = .ok (.iadd, 1) := by decide +kernel
theorem d_Rd_take_24 : decode b_Rd_take 24 = .ok (.putfield 9, 3) := by decide +kernel
theorem d_Rd_take_27 : decode b_Rd_take 27 = .ok (.iconst 1, 1) := by decide +kernel
theorem d_Rd_take_28 : decode b_Rd_take 28 = .ok (.ireturn, 1) := by decide +kernel
def f_Rd_take_27 (σ : St) : Int32 × St := (1, σ)
def k_Rd_take_27 (σ : St) : Prop := True
def f_Rd_take (a1 : Int32) (σ : St) : Int32 × St := if (f_Dr_letter (σ.1 20 3) σ) = a1 then (f_Rd_take_27 (sF σ 20 3 ((σ.1 20 3) + 1))) else (0, σ)
def k_Rd_take (a1 : Int32) (σ : St) : Prop := (k_Dr_letter (σ.1 20 3) σ) ∧ (((f_Dr_letter (σ.1 20 3) σ) = a1 → (k_Rd_take_27 (sF σ 20 3 ((σ.1 20 3) + 1)))) ∧ (¬ (f_Dr_letter (σ.1 20 3) σ) = a1 → True))
abbrev w_Rd_take : List Cond := Cond.code y_Rd_take b_Rd_take 2 (some .boolean) :: gw
abbrev rm_Rd_take : Room := { frames := 1, cells := 0, slots := 0, locals := 21 }
set_option maxHeartbeats 4000000 in
set_option maxRecDepth 100000 in
theorem c_Rd_take (l : Launch) (D : va_G) (ty : Nat → ClassId) (h : Nat → Nat) (px : va_W) (σ : St) (sz : Nat) (a1 : Int32) (hk : k_Rd_take a1 σ) : Met l y_Rd_take w_Rd_take rm_Rd_take (va_Pc [.ref (h 20), .int a1] (fun U => U.heap.size = sz ∧ va_P D classes (Wc ty h σ px) U.heap ∧ va_K D classes (Ta ty) U ∧ NW U ∧ va_D (fun _ => True) (Wc ty h σ px))) (va_Qi (fun r (u : St) => (r, u) = f_Rd_take a1 σ) (fun u t => va_P D classes (Wc ty h u px) t.heap) (va_A (Wc ty h σ px) sz)) 0 0 (va_A (Wc ty h σ px) sz) := by
  refine Met.ofW (cc := b_Rd_take) (maxL := 2) (ret := (some .boolean)) (by decide) rfl ?_
  intro p e s m args below meth c s₁ B hml hv
  obtain ⟨ha, hsz, hP, hK, hN, hD0⟩ := hv
  have hx := B.exec
  have hb := B.bytes
  have hr := B.returns
  have hg : ∀ w ∈ gw, w.before args s = true := fun w h9 => atoms_spec (ws := w_Rd_take) B.pre w (List.mem_cons_of_mem _ h9)
  have hown : s.vm.findClass "ClauseLedger$Reader" = some m.cls := findClass_of_methodNamed B.named
  have hlocks := B.notSynchronized
  subst hsz
  have hD := hD0.self (sz := s.heap.size)
  generalize hAe : va_A (Wc ty h σ px) s.heap.size = A at hD ⊢
  have hA : ∀ q : Nat, s.heap.size ≤ q → A q := fun q h9 => by rw [← hAe]; exact Or.inr h9
  have hS : va_S A s.heap s.heap [] := va_S.rf
  have he : entryFrame m args 2 = entryFrame m ([.ref (h 20), .int a1] : List Value).toArray 2 := by rw [ha]
  rw [he, lg_entry_eq]
  have hl := lv_entry ([.ref (h 20), .int a1]) (n := 2) (Nat.le_of_ble_eq_true rfl)
  generalize (lg_sl ([.ref (h 20), .int a1]) ++ List.replicate (2 - (lg_sl ([.ref (h 20), .int a1])).length) Slot.unset).toArray = ls at hl ⊢
  have hl : lv_has ls 2 [(0, .ref (h 20)), (1, .int a1)] := hl
  generalize hv : f_Rd_take a1 σ = v
  replace hv := hv.symm
  have B27 : ∀ (H : Heap) (locs : List Loc) (ls : Array Slot) (σ : St), v = f_Rd_take_27 σ → k_Rd_take_27 σ → lv_has ls 2 [] → va_P D classes (Wc ty h σ px) H → va_D A (Wc ty h σ px) → va_S A s.heap H locs → W p l e (headSpec w_Rd_take rm_Rd_take).room s m args below meth c H locs 0 0 (MQ below (va_Qi (fun r (u : St) => (r, u) = v) (fun u t => va_P D classes (Wc ty h u px) t.heap) A) args s 0 0 A) (F0 m 27 ls []) := by
    intro H locs ls σ hv hk hl hP hD hS
    unfold f_Rd_take_27 at hv
    unfold k_Rd_take_27 at hk
    refine lv_iconst (v := 1) hx hb d_Rd_take_27 (by decide) ?_
    exact W.zret hx hb hr rfl (fun t ht hW => ⟨⟨_, _, rfl, hv.symm, by dsimp only; rw [ht]; exact hP⟩, hS.F ht⟩) hS.2.2 d_Rd_take_28
  unfold f_Rd_take at hv
  unfold k_Rd_take at hk
  refine lv_aload_n hx hb d_Rd_take_0 rfl (lv_at hl 0 rfl) ?_
  refine va_get (v := .ref (h 18)) (C := R_Rd) (T := T_Rd) (N := 4) hx hb hg in_Rd hown hK hP 20 rfl rfl 0 (by decide) (hg _ m_133) (fun _ h9 => h9) rfl d_Rd_take_1 ?_
  refine lv_aload_n hx hb d_Rd_take_4 rfl (lv_at hl 0 rfl) ?_
  refine va_get (v := .int (σ.1 20 3)) (C := R_Rd) (T := T_Rd) (N := 4) hx hb hg in_Rd hown hK hP 20 rfl rfl 3 (by decide) (hg _ m_136) (fun _ h9 => h9) rfl d_Rd_take_5 ?_
  obtain ⟨hk0, hk⟩ := hk
  refine zz_callV (va_runV (As := [.int (σ.1 20 3)]) (rest := []) ⟨hx, hb, hml, hown, hg⟩ (c_Dr_letter l D ty h px σ (σ.1 20 3) hk0) ⟨callB_of 1 hg (gw_C m_583) rfl rfl rfl (hg _ m_4) (hg _ m_580) hd_Dr_letter ⟨Nat.le_of_ble_eq_true rfl, Nat.le_of_ble_eq_true rfl⟩, hg _ m_581, hg _ m_582⟩ (zz_preV hN hK hP 18 rfl rfl) rfl rfl hl.1 rfl (lv_room (Nat.le_of_ble_eq_true rfl)) d_Rd_take_8 ⟨Nat.le_of_ble_eq_true rfl, Nat.le_of_ble_eq_true rfl⟩) ?_
  refine lv_iload_n hx hb d_Rd_take_11 rfl (lv_at hl 1 rfl) ?_
  refine lv_icmp_eq (tgt := 17) hx hb d_Rd_take_12 (by decide) (fun hc => ?_) (fun hc => ?_)
  · have hv := hv.trans (if_pos hc)
    have hk := hk.1 hc
    refine lv_aload_n hx hb d_Rd_take_17 rfl (lv_at hl 0 rfl) ?_
    refine lv_dup hx hb d_Rd_take_18 rfl ?_
    refine va_get (v := .int (σ.1 20 3)) (C := R_Rd) (T := T_Rd) (N := 4) hx hb hg in_Rd hown hK hP 20 rfl rfl 3 (by decide) (hg _ m_136) (fun _ h9 => h9) rfl d_Rd_take_19 ?_
    refine lv_iconst (v := 1) hx hb d_Rd_take_22 (by decide) ?_
    refine lv_iadd hx hb d_Rd_take_23 ?_
    refine va_put (v := .int ((σ.1 20 3) + 1)) (ty := .int) (C := R_Rd) (T := T_Rd) (N := 4) hx hb hg in_Rd ty_Rd ok_Rd nm_Rd hown hK hP hD hS 20 rfl rfl 3 (by decide) (hg _ m_136) (fun _ h9 => h9) rfl (by decide +kernel) rfl rfl (Nat.le_of_ble_eq_true rfl) d_Rd_take_24 (fun H locs hP hD hS => ?_)
    have hP : va_P D classes (Wc ty h (sF σ 20 3 ((σ.1 20 3) + 1)) px) H := hP
    have hD : va_D A (Wc ty h (sF σ 20 3 ((σ.1 20 3) + 1)) px) := hD
    exact B27 _ _ _  (sF σ 20 3 ((σ.1 20 3) + 1)) hv hk (lv_sub hl [] rfl) hP hD hS
  · have hv := hv.trans (if_neg hc)
    have hk := hk.2 hc
    refine lv_iconst (v := 0) hx hb d_Rd_take_15 (by decide) ?_
    exact W.zret hx hb hr rfl (fun t ht hW => ⟨⟨_, _, rfl, hv.symm, by dsimp only; rw [ht]; exact hP⟩, hS.F ht⟩) hS.2.2 d_Rd_take_16

-- ClauseLedger$Reader.isDigit(C)Z
abbrev b_Rd_isDigit : ByteArray := prog_5_method_14_code
def y_Rd_isDigit : MethodName := ⟨"ClauseLedger$Reader", "isDigit", "(C)Z"⟩
theorem hd_Rd_isDigit : y_Rd_isDigit.cls ≠ "java/lang/invoke/MethodHandle" ∧ y_Rd_isDigit.cls ≠ "java/lang/invoke/VarHandle" ∧ (parseMethodDescriptor y_Rd_isDigit.desc).map (fun d => d.parameters.length) = some 1 := by decide +kernel
theorem d_Rd_isDigit_0 : decode b_Rd_isDigit 0 = .ok (.iload_n 0, 1) := by decide +kernel
theorem d_Rd_isDigit_1 : decode b_Rd_isDigit 1 = .ok (.bipush 48, 2) := by decide +kernel
theorem d_Rd_isDigit_3 : decode b_Rd_isDigit 3 = .ok (.if_icmp .lt 13, 3) := by decide +kernel
theorem d_Rd_isDigit_6 : decode b_Rd_isDigit 6 = .ok (.iload_n 0, 1) := by decide +kernel
theorem d_Rd_isDigit_7 : decode b_Rd_isDigit 7 = .ok (.bipush 57, 2) := by decide +kernel
theorem d_Rd_isDigit_9 : decode b_Rd_isDigit 9 = .ok (.if_icmp .gt 7, 3) := by decide +kernel
theorem d_Rd_isDigit_12 : decode b_Rd_isDigit 12 = .ok (.iconst 1, 1) := by decide +kernel
theorem d_Rd_isDigit_13 : decode b_Rd_isDigit 13 = .ok (.goto 4, 3) := by decide +kernel
theorem d_Rd_isDigit_16 : decode b_Rd_isDigit 16 = .ok (.iconst 0, 1) := by decide +kernel
theorem d_Rd_isDigit_17 : decode b_Rd_isDigit 17 = .ok (.ireturn, 1) := by decide +kernel
def f_Rd_isDigit_17 (s0 : Int32) (σ : St) : Int32 := s0
def k_Rd_isDigit_17 (s0 : Int32) (σ : St) : Prop := (narrow .boolean (.int s0) = .int s0) ∧ True
def f_Rd_isDigit_16 (σ : St) : Int32 := f_Rd_isDigit_17 0 σ
def k_Rd_isDigit_16 (σ : St) : Prop := k_Rd_isDigit_17 0 σ
def f_Rd_isDigit (a0 : Int32) (σ : St) : Int32 := if a0 < 48 then (f_Rd_isDigit_16 σ) else (if 57 < a0 then (f_Rd_isDigit_16 σ) else (f_Rd_isDigit_17 1 σ))
def k_Rd_isDigit (a0 : Int32) (σ : St) : Prop := (a0 < 48 → (k_Rd_isDigit_16 σ)) ∧ (¬ a0 < 48 → ((57 < a0 → (k_Rd_isDigit_16 σ)) ∧ (¬ 57 < a0 → (k_Rd_isDigit_17 1 σ))))
abbrev w_Rd_isDigit : List Cond := Cond.code y_Rd_isDigit b_Rd_isDigit 1 (some .boolean) :: gw
abbrev rm_Rd_isDigit : Room := { frames := 0, cells := 0, slots := 0, locals := 0 }
set_option maxHeartbeats 4000000 in
set_option maxRecDepth 100000 in
theorem c_Rd_isDigit (l : Launch) (D : va_G) (ty : Nat → ClassId) (h : Nat → Nat) (px : va_W) (σ : St) (a0 : Int32) (hk : k_Rd_isDigit a0 σ) : Met l y_Rd_isDigit w_Rd_isDigit rm_Rd_isDigit (va_Pc [.int a0] (fun U => va_P D classes (Wc ty h σ px) U.heap ∧ va_K D classes (Ta ty) U ∧ NW U)) (k2_QcV (.int (f_Rd_isDigit a0 σ))) 0 0 (fun _ => False) := by
  refine Met.ofW (cc := b_Rd_isDigit) (maxL := 1) (ret := (some .boolean)) (by decide) rfl ?_
  intro p e s m args below meth c s₁ B hml hv
  obtain ⟨ha, hP, hK, hN⟩ := hv
  have hx := B.exec
  have hb := B.bytes
  have hr := B.returns
  have hg : ∀ w ∈ gw, w.before args s = true := fun w h9 => atoms_spec (ws := w_Rd_isDigit) B.pre w (List.mem_cons_of_mem _ h9)
  have hown : s.vm.findClass "ClauseLedger$Reader" = some m.cls := findClass_of_methodNamed B.named
  have hlocks := B.notSynchronized
  have he : entryFrame m args 1 = entryFrame m ([.int a0] : List Value).toArray 1 := by rw [ha]
  rw [he, lg_entry_eq]
  have hl := lv_entry ([.int a0]) (n := 1) (Nat.le_of_ble_eq_true rfl)
  generalize (lg_sl ([.int a0]) ++ List.replicate (1 - (lg_sl ([.int a0])).length) Slot.unset).toArray = ls at hl ⊢
  have hl : lv_has ls 1 [(0, .int a0)] := hl
  generalize hv : f_Rd_isDigit a0 σ = v
  replace hv := hv.symm
  have B17 : ∀ (ls : Array Slot) (s0 : Int32), v = f_Rd_isDigit_17 s0 σ → k_Rd_isDigit_17 s0 σ → lv_has ls 1 [] → W p l e (headSpec w_Rd_isDigit rm_Rd_isDigit).room s m args below meth c s.heap [] 0 0 (MQ below (k2_QcV (.int v)) args s 0 0 (fun _ => False)) (F0 m 17 ls [.int s0]) := by
    intro ls s0 hv hk hl
    unfold f_Rd_isDigit_17 at hv
    unfold k_Rd_isDigit_17 at hk
    obtain ⟨hk0, hk⟩ := hk
    exact W.zret hx hb hr hk0 (fun t ht hW => ⟨by rw [hv], ht⟩) (fun q h => nomatch h) d_Rd_isDigit_17
  have B16 : ∀ (ls : Array Slot), v = f_Rd_isDigit_16 σ → k_Rd_isDigit_16 σ → lv_has ls 1 [] → W p l e (headSpec w_Rd_isDigit rm_Rd_isDigit).room s m args below meth c s.heap [] 0 0 (MQ below (k2_QcV (.int v)) args s 0 0 (fun _ => False)) (F0 m 16 ls []) := by
    intro ls hv hk hl
    unfold f_Rd_isDigit_16 at hv
    unfold k_Rd_isDigit_16 at hk
    refine lv_iconst (v := 0) hx hb d_Rd_isDigit_16 (by decide) ?_
    exact B17 _ 0 hv hk (lv_sub hl [] rfl)
  unfold f_Rd_isDigit at hv
  unfold k_Rd_isDigit at hk
  refine lv_iload_n hx hb d_Rd_isDigit_0 rfl (lv_at hl 0 rfl) ?_
  refine lv_bipush (v := 48) hx hb d_Rd_isDigit_1 (by decide) ?_
  refine lv_icmp_lt (tgt := 16) hx hb d_Rd_isDigit_3 (by decide) (fun hc => ?_) (fun hc => ?_)
  · have hv := hv.trans (if_pos hc)
    have hk := hk.1 hc
    exact B16 _  hv hk (lv_sub hl [] rfl)
  · have hv := hv.trans (if_neg hc)
    have hk := hk.2 hc
    refine lv_iload_n hx hb d_Rd_isDigit_6 rfl (lv_at hl 0 rfl) ?_
    refine lv_bipush (v := 57) hx hb d_Rd_isDigit_7 (by decide) ?_
    refine lv_icmp_gt (tgt := 16) hx hb d_Rd_isDigit_9 (by decide) (fun hc => ?_) (fun hc => ?_)
    · have hv := hv.trans (if_pos hc)
      have hk := hk.1 hc
      exact B16 _  hv hk (lv_sub hl [] rfl)
    · have hv := hv.trans (if_neg hc)
      have hk := hk.2 hc
      refine lv_iconst (v := 1) hx hb d_Rd_isDigit_12 (by decide) ?_
      refine lv_goto (tgt := 17) hx hb d_Rd_isDigit_13 (by decide) ?_
      exact B17 _ 1 hv hk (lv_sub hl [] rfl)

-- ClauseLedger$Reader.readDigits()I
abbrev b_Rd_readDigits : ByteArray := prog_5_method_13_code
def y_Rd_readDigits : MethodName := ⟨"ClauseLedger$Reader", "readDigits", "()I"⟩
theorem hd_Rd_readDigits : y_Rd_readDigits.cls ≠ "java/lang/invoke/MethodHandle" ∧ y_Rd_readDigits.cls ≠ "java/lang/invoke/VarHandle" ∧ (parseMethodDescriptor y_Rd_readDigits.desc).map (fun d => d.parameters.length) = some 0 := by decide +kernel
theorem d_Rd_readDigits_0 : decode b_Rd_readDigits 0 = .ok (.iconst 0, 1) := by decide +kernel
theorem d_Rd_readDigits_1 : decode b_Rd_readDigits 1 = .ok (.istore_n 1, 1) := by decide +kernel
theorem d_Rd_readDigits_2 : decode b_Rd_readDigits 2 = .ok (.iconst 0, 1) := by decide +kernel
theorem d_Rd_readDigits_3 : decode b_Rd_readDigits 3 = .ok (.istore_n 2, 1) := by decide +kernel
theorem d_Rd_readDigits_4 : decode b_Rd_readDigits 4 = .ok (.iload_n 2, 1) := by decide +kernel
theorem d_Rd_readDigits_5 : decode b_Rd_readDigits 5 = .ok (.iconst 5, 1) := by decide +kernel
theorem d_Rd_readDigits_6 : decode b_Rd_readDigits 6 = .ok (.if_icmp .gt 56, 3) := by decide +kernel
theorem d_Rd_readDigits_9 : decode b_Rd_readDigits 9 = .ok (.aload_n 0, 1) := by decide +kernel
theorem d_Rd_readDigits_10 : decode b_Rd_readDigits 10 = .ok (.getfield 15, 3) := by decide +kernel
theorem d_Rd_readDigits_13 : decode b_Rd_readDigits 13 = .ok (.aload_n 0, 1) := by decide +kernel
theorem d_Rd_readDigits_14 : decode b_Rd_readDigits 14 = .ok (.getfield 9, 3) := by decide +kernel
theorem d_Rd_readDigits_17 : decode b_Rd_readDigits 17 = .ok (.invokevirtual 37, 3) := by decide +kernel
theorem d_Rd_readDigits_20 : decode b_Rd_readDigits 20 = .ok (.invokestatic 128, 3) := by decide +kernel
theorem d_Rd_readDigits_23 : decode b_Rd_readDigits 23 = .ok (.ifCond .eq 39, 3) := by decide +kernel
theorem d_Rd_readDigits_26 : decode b_Rd_readDigits 26 = .ok (.bipush 10, 2) := by decide +kernel
theorem d_Rd_readDigits_28 : decode b_Rd_readDigits 28 = .ok (.iload_n 1, 1) := by decide +kernel
theorem d_Rd_readDigits_29 : decode b_Rd_readDigits 29 = .ok (.imul, 1) := by decide +kernel
theorem d_Rd_readDigits_30 : decode b_Rd_readDigits 30 = .ok (.aload_n 0, 1) := by decide +kernel
theorem d_Rd_readDigits_31 : decode b_Rd_readDigits 31 = .ok (.getfield 15, 3) := by decide +kernel
theorem d_Rd_readDigits_34 : decode b_Rd_readDigits 34 = .ok (.aload_n 0, 1) := by decide +kernel
theorem d_Rd_readDigits_35 : decode b_Rd_readDigits 35 = .ok (.getfield 9, 3) := by decide +kernel
theorem d_Rd_readDigits_38 : decode b_Rd_readDigits 38 = .ok (.invokevirtual 37, 3) := by decide +kernel
theorem d_Rd_readDigits_41 : decode b_Rd_readDigits 41 = .ok (.bipush 48, 2) := by decide +kernel
theorem d_Rd_readDigits_43 : decode b_Rd_readDigits 43 = .ok (.isub, 1) := by decide +kernel
theorem d_Rd_readDigits_44 : decode b_Rd_readDigits 44 = .ok (.iadd, 1) := by decide +kernel
theorem d_Rd_readDigits_45 : decode b_Rd_readDigits 45 = .ok (.istore_n 1, 1) := by decide +kernel
theorem d_Rd_readDigits_46 : decode b_Rd_readDigits 46 = .ok (.iinc 2 1, 3) := by decide +kernel
theorem d_Rd_readDigits_49 : decode b_Rd_readDigits 49 = .ok (.aload_n 0, 1) := by decide +kernel
theorem d_Rd_readDigits_50 : decode b_Rd_readDigits 50 = .ok (.dup, 1) := by decide +kernel
theorem d_Rd_readDigits_51 : decode b_Rd_readDigits 51 = .ok (.getfield 9, 3) := by decide +kernel
theorem d_Rd_readDigits_54 : decode b_Rd_readDigits 54 = .ok (.iconst 1, 1) := by decide +kernel
theorem d_Rd_readDigits_55 : decode b_Rd_readDigits 55 = .ok (.iadd, 1) := by decide +kernel
theorem d_Rd_readDigits_56 : decode b_Rd_readDigits 56 = .ok (.putfield 9, 3) := by decide +kernel
theorem d_Rd_readDigits_59 : decode b_Rd_readDigits 59 = .ok (.goto (-55), 3) := by decide +kernel
theorem d_Rd_readDigits_62 : decode b_Rd_readDigits 62 = .ok (.iload_n 2, 1) := by decide +kernel
theorem d_Rd_readDigits_63 : decode b_Rd_readDigits 63 = .ok (.ifCond .eq 8, 3) := by decide +kernel
theorem d_Rd_readDigits_66 : decode b_Rd_readDigits 66 = .ok (.iload_n 2, 1) := by decide +kernel
theorem d_Rd_readDigits_67 : decode b_Rd_readDigits 67 = .ok (.iconst 5, 1) := by decide +kernel
theorem d_Rd_readDigits_68 : decode b_Rd_readDigits 68 = .ok (.if_icmp .le 7, 3) := by decide +kernel
theorem d_Rd_readDigits_71 : decode b_Rd_readDigits 71 = .ok (.iconst (-1), 1) := by decide +kernel
theorem d_Rd_readDigits_72 : decode b_Rd_readDigits 72 = .ok (.goto 4, 3) := by decide +kernel
theorem d_Rd_readDigits_75 : decode b_Rd_readDigits 75 = .ok (.iload_n 1, 1) := by decide +kernel
theorem d_Rd_readDigits_76 : decode b_Rd_readDigits 76 = .ok (.ireturn, 1) := by decide +kernel
def f_Rd_readDigits_59 (F4 : (Int32 → Int32 → St → Int32 × St)) (x1 : Int32) (x2 : Int32) (σ : St) : Int32 × St := F4 x1 x2 σ
def k_Rd_readDigits_59 (K4 : (Int32 → Int32 → St → Prop)) (x1 : Int32) (x2 : Int32) (σ : St) : Prop := K4 x1 x2 σ
def f_Rd_readDigits_46 (F4 : (Int32 → Int32 → St → Int32 × St)) (x1 : Int32) (x2 : Int32) (σ : St) : Int32 × St := f_Rd_readDigits_59 F4 x1 (x2 + 1) (sF σ 20 3 ((σ.1 20 3) + 1))
def k_Rd_readDigits_46 (K4 : (Int32 → Int32 → St → Prop)) (x1 : Int32) (x2 : Int32) (σ : St) : Prop := k_Rd_readDigits_59 K4 x1 (x2 + 1) (sF σ 20 3 ((σ.1 20 3) + 1))
def f_Rd_readDigits_76 (s0 : Int32) (σ : St) : Int32 × St := (s0, σ)
def k_Rd_readDigits_76 (s0 : Int32) (σ : St) : Prop := True
def f_Rd_readDigits_71 (σ : St) : Int32 × St := f_Rd_readDigits_76 (-1) σ
def k_Rd_readDigits_71 (σ : St) : Prop := k_Rd_readDigits_76 (-1) σ
def f_Rd_readDigits_62 (x1 : Int32) (x2 : Int32) (σ : St) : Int32 × St := if x2 = 0 then (f_Rd_readDigits_71 σ) else (if x2 ≤ 5 then (f_Rd_readDigits_76 x1 σ) else (f_Rd_readDigits_71 σ))
def k_Rd_readDigits_62 (x1 : Int32) (x2 : Int32) (σ : St) : Prop := (x2 = 0 → (k_Rd_readDigits_71 σ)) ∧ (¬ x2 = 0 → ((x2 ≤ 5 → (k_Rd_readDigits_76 x1 σ)) ∧ (¬ x2 ≤ 5 → (k_Rd_readDigits_71 σ))))
def f_Rd_readDigits_4 : Nat → Int32 → Int32 → St → Int32 × St
  | 0, _, _, σ => (0, σ)
  | n + 1, x1, x2, σ => if 5 < x2 then (f_Rd_readDigits_62 x1 x2 σ) else (if (f_Rd_isDigit (f_Dr_letter (σ.1 20 3) σ) σ) = 0 then (f_Rd_readDigits_62 x1 x2 σ) else (f_Rd_readDigits_46 (f_Rd_readDigits_4 n) ((10 * x1) + ((f_Dr_letter (σ.1 20 3) σ) - 48)) x2 σ))
def k_Rd_readDigits_4 : Nat → Int32 → Int32 → St → Prop
  | 0, _, _, _ => False
  | n + 1, x1, x2, σ => (5 < x2 → (k_Rd_readDigits_62 x1 x2 σ)) ∧ (¬ 5 < x2 → ((k_Dr_letter (σ.1 20 3) σ) ∧ ((k_Rd_isDigit (f_Dr_letter (σ.1 20 3) σ) σ) ∧ (((f_Rd_isDigit (f_Dr_letter (σ.1 20 3) σ) σ) = 0 → (k_Rd_readDigits_62 x1 x2 σ)) ∧ (¬ (f_Rd_isDigit (f_Dr_letter (σ.1 20 3) σ) σ) = 0 → ((k_Dr_letter (σ.1 20 3) σ) ∧ (k_Rd_readDigits_46 (k_Rd_readDigits_4 n) ((10 * x1) + ((f_Dr_letter (σ.1 20 3) σ) - 48)) x2 σ)))))))
def f_Rd_readDigits (σ : St) : Int32 × St := f_Rd_readDigits_4 1000 0 0 σ
def k_Rd_readDigits (σ : St) : Prop := k_Rd_readDigits_4 1000 0 0 σ
abbrev w_Rd_readDigits : List Cond := Cond.code y_Rd_readDigits b_Rd_readDigits 3 (some .int) :: gw
abbrev rm_Rd_readDigits : Room := { frames := 1, cells := 0, slots := 0, locals := 21 }
set_option maxHeartbeats 4000000 in
set_option maxRecDepth 100000 in
theorem c_Rd_readDigits (l : Launch) (D : va_G) (ty : Nat → ClassId) (h : Nat → Nat) (px : va_W) (σ : St) (sz : Nat) (hk : k_Rd_readDigits σ) : Met l y_Rd_readDigits w_Rd_readDigits rm_Rd_readDigits (va_Pc [.ref (h 20)] (fun U => U.heap.size = sz ∧ va_P D classes (Wc ty h σ px) U.heap ∧ va_K D classes (Ta ty) U ∧ NW U ∧ va_D (fun _ => True) (Wc ty h σ px))) (va_Qi (fun r (u : St) => (r, u) = f_Rd_readDigits σ) (fun u t => va_P D classes (Wc ty h u px) t.heap) (va_A (Wc ty h σ px) sz)) 0 0 (va_A (Wc ty h σ px) sz) := by
  refine Met.ofW (cc := b_Rd_readDigits) (maxL := 3) (ret := (some .int)) (by decide) rfl ?_
  intro p e s m args below meth c s₁ B hml hv
  obtain ⟨ha, hsz, hP, hK, hN, hD0⟩ := hv
  have hx := B.exec
  have hb := B.bytes
  have hr := B.returns
  have hg : ∀ w ∈ gw, w.before args s = true := fun w h9 => atoms_spec (ws := w_Rd_readDigits) B.pre w (List.mem_cons_of_mem _ h9)
  have hown : s.vm.findClass "ClauseLedger$Reader" = some m.cls := findClass_of_methodNamed B.named
  have hlocks := B.notSynchronized
  subst hsz
  have hD := hD0.self (sz := s.heap.size)
  generalize hAe : va_A (Wc ty h σ px) s.heap.size = A at hD ⊢
  have hA : ∀ q : Nat, s.heap.size ≤ q → A q := fun q h9 => by rw [← hAe]; exact Or.inr h9
  have hS : va_S A s.heap s.heap [] := va_S.rf
  have he : entryFrame m args 3 = entryFrame m ([.ref (h 20)] : List Value).toArray 3 := by rw [ha]
  rw [he, lg_entry_eq]
  have hl := lv_entry ([.ref (h 20)]) (n := 3) (Nat.le_of_ble_eq_true rfl)
  generalize (lg_sl ([.ref (h 20)]) ++ List.replicate (3 - (lg_sl ([.ref (h 20)])).length) Slot.unset).toArray = ls at hl ⊢
  have hl : lv_has ls 3 [(0, .ref (h 20))] := hl
  generalize hv : f_Rd_readDigits σ = v
  replace hv := hv.symm
  have B76 : ∀ (H : Heap) (locs : List Loc) (ls : Array Slot) (s0 : Int32) (σ : St), v = f_Rd_readDigits_76 s0 σ → k_Rd_readDigits_76 s0 σ → lv_has ls 3 [] → va_P D classes (Wc ty h σ px) H → va_D A (Wc ty h σ px) → va_S A s.heap H locs → W p l e (headSpec w_Rd_readDigits rm_Rd_readDigits).room s m args below meth c H locs 0 0 (MQ below (va_Qi (fun r (u : St) => (r, u) = v) (fun u t => va_P D classes (Wc ty h u px) t.heap) A) args s 0 0 A) (F0 m 76 ls [.int s0]) := by
    intro H locs ls s0 σ hv hk hl hP hD hS
    unfold f_Rd_readDigits_76 at hv
    unfold k_Rd_readDigits_76 at hk
    exact W.iret hx hb hr (fun t ht hW => ⟨⟨_, _, rfl, hv.symm, by dsimp only; rw [ht]; exact hP⟩, hS.F ht⟩) hS.2.2 d_Rd_readDigits_76
  have B71 : ∀ (H : Heap) (locs : List Loc) (ls : Array Slot) (σ : St), v = f_Rd_readDigits_71 σ → k_Rd_readDigits_71 σ → lv_has ls 3 [] → va_P D classes (Wc ty h σ px) H → va_D A (Wc ty h σ px) → va_S A s.heap H locs → W p l e (headSpec w_Rd_readDigits rm_Rd_readDigits).room s m args below meth c H locs 0 0 (MQ below (va_Qi (fun r (u : St) => (r, u) = v) (fun u t => va_P D classes (Wc ty h u px) t.heap) A) args s 0 0 A) (F0 m 71 ls []) := by
    intro H locs ls σ hv hk hl hP hD hS
    unfold f_Rd_readDigits_71 at hv
    unfold k_Rd_readDigits_71 at hk
    refine lv_iconst (v := -1) hx hb d_Rd_readDigits_71 (by decide) ?_
    refine lv_goto (tgt := 76) hx hb d_Rd_readDigits_72 (by decide) ?_
    exact B76 _ _ _ (-1) σ hv hk (lv_sub hl [] rfl) hP hD hS
  have B62 : ∀ (H : Heap) (locs : List Loc) (ls : Array Slot) (x1 : Int32) (x2 : Int32) (σ : St), v = f_Rd_readDigits_62 x1 x2 σ → k_Rd_readDigits_62 x1 x2 σ → lv_has ls 3 [(1, .int x1), (2, .int x2)] → va_P D classes (Wc ty h σ px) H → va_D A (Wc ty h σ px) → va_S A s.heap H locs → W p l e (headSpec w_Rd_readDigits rm_Rd_readDigits).room s m args below meth c H locs 0 0 (MQ below (va_Qi (fun r (u : St) => (r, u) = v) (fun u t => va_P D classes (Wc ty h u px) t.heap) A) args s 0 0 A) (F0 m 62 ls []) := by
    intro H locs ls x1 x2 σ hv hk hl hP hD hS
    unfold f_Rd_readDigits_62 at hv
    unfold k_Rd_readDigits_62 at hk
    refine lv_iload_n hx hb d_Rd_readDigits_62 rfl (lv_at hl 1 rfl) ?_
    refine lv_if_eq (tgt := 71) hx hb d_Rd_readDigits_63 (by decide) (fun hc => ?_) (fun hc => ?_)
    · have hv := hv.trans (if_pos hc)
      have hk := hk.1 hc
      exact B71 _ _ _  σ hv hk (lv_sub hl [] rfl) hP hD hS
    · have hv := hv.trans (if_neg hc)
      have hk := hk.2 hc
      refine lv_iload_n hx hb d_Rd_readDigits_66 rfl (lv_at hl 1 rfl) ?_
      refine lv_iconst (v := 5) hx hb d_Rd_readDigits_67 (by decide) ?_
      refine lv_icmp_le (tgt := 75) hx hb d_Rd_readDigits_68 (by decide) (fun hc => ?_) (fun hc => ?_)
      · have hv := hv.trans (if_pos hc)
        have hk := hk.1 hc
        refine lv_iload_n hx hb d_Rd_readDigits_75 rfl (lv_at hl 0 rfl) ?_
        exact B76 _ _ _ x1 σ hv hk (lv_sub hl [] rfl) hP hD hS
      · have hv := hv.trans (if_neg hc)
        have hk := hk.2 hc
        exact B71 _ _ _  σ hv hk (lv_sub hl [] rfl) hP hD hS
  have B4 : ∀ (n4 : Nat) (H : Heap) (locs : List Loc) (ls : Array Slot) (x1 : Int32) (x2 : Int32) (σ : St), v = f_Rd_readDigits_4 n4 x1 x2 σ → k_Rd_readDigits_4 n4 x1 x2 σ → lv_has ls 3 [(0, .ref (h 20)), (1, .int x1), (2, .int x2)] → va_P D classes (Wc ty h σ px) H → va_D A (Wc ty h σ px) → va_S A s.heap H locs → W p l e (headSpec w_Rd_readDigits rm_Rd_readDigits).room s m args below meth c H locs 0 0 (MQ below (va_Qi (fun r (u : St) => (r, u) = v) (fun u t => va_P D classes (Wc ty h u px) t.heap) A) args s 0 0 A) (F0 m 4 ls []) := by
    intro n4
    induction n4 with
    | zero => intro H locs ls x1 x2 σ hv hk hl hP hD hS; exact hk.elim
    | succ n4 ih4 =>
      have B59 : ∀ (H : Heap) (locs : List Loc) (ls : Array Slot) (x1 : Int32) (x2 : Int32) (σ : St), v = f_Rd_readDigits_59 (f_Rd_readDigits_4 n4) x1 x2 σ → k_Rd_readDigits_59 (k_Rd_readDigits_4 n4) x1 x2 σ → lv_has ls 3 [(0, .ref (h 20)), (1, .int x1), (2, .int x2)] → va_P D classes (Wc ty h σ px) H → va_D A (Wc ty h σ px) → va_S A s.heap H locs → W p l e (headSpec w_Rd_readDigits rm_Rd_readDigits).room s m args below meth c H locs 0 0 (MQ below (va_Qi (fun r (u : St) => (r, u) = v) (fun u t => va_P D classes (Wc ty h u px) t.heap) A) args s 0 0 A) (F0 m 59 ls []) := by
        intro H locs ls x1 x2 σ hv hk hl hP hD hS
        unfold f_Rd_readDigits_59 at hv
        unfold k_Rd_readDigits_59 at hk
        refine lv_goto (tgt := 4) hx hb d_Rd_readDigits_59 (by decide) ?_
        exact ih4 _ _ _ x1 x2 σ hv hk (lv_sub hl [0, 1, 2] rfl) hP hD hS
      have B46 : ∀ (H : Heap) (locs : List Loc) (ls : Array Slot) (x1 : Int32) (x2 : Int32) (σ : St), v = f_Rd_readDigits_46 (f_Rd_readDigits_4 n4) x1 x2 σ → k_Rd_readDigits_46 (k_Rd_readDigits_4 n4) x1 x2 σ → lv_has ls 3 [(0, .ref (h 20)), (1, .int x1), (2, .int x2)] → va_P D classes (Wc ty h σ px) H → va_D A (Wc ty h σ px) → va_S A s.heap H locs → W p l e (headSpec w_Rd_readDigits rm_Rd_readDigits).room s m args below meth c H locs 0 0 (MQ below (va_Qi (fun r (u : St) => (r, u) = v) (fun u t => va_P D classes (Wc ty h u px) t.heap) A) args s 0 0 A) (F0 m 46 ls []) := by
        intro H locs ls x1 x2 σ hv hk hl hP hD hS
        unfold f_Rd_readDigits_46 at hv
        unfold k_Rd_readDigits_46 at hk
        refine lv_iinc (k := 2) (v := x2 + 1) (lv' := [(2, .int (x2 + 1)), (0, .ref (h 20)), (1, .int x1)]) hx hb d_Rd_readDigits_46 hl rfl (by first | rfl | simp [lit1, litm1]) (by decide) rfl (fun ls hl => ?_)
        refine lv_aload_n hx hb d_Rd_readDigits_49 rfl (lv_at hl 1 rfl) ?_
        refine lv_dup hx hb d_Rd_readDigits_50 rfl ?_
        refine va_get (v := .int (σ.1 20 3)) (C := R_Rd) (T := T_Rd) (N := 4) hx hb hg in_Rd hown hK hP 20 rfl rfl 3 (by decide) (hg _ m_136) (fun _ h9 => h9) rfl d_Rd_readDigits_51 ?_
        refine lv_iconst (v := 1) hx hb d_Rd_readDigits_54 (by decide) ?_
        refine lv_iadd hx hb d_Rd_readDigits_55 ?_
        refine va_put (v := .int ((σ.1 20 3) + 1)) (ty := .int) (C := R_Rd) (T := T_Rd) (N := 4) hx hb hg in_Rd ty_Rd ok_Rd nm_Rd hown hK hP hD hS 20 rfl rfl 3 (by decide) (hg _ m_136) (fun _ h9 => h9) rfl (by decide +kernel) rfl rfl (Nat.le_of_ble_eq_true rfl) d_Rd_readDigits_56 (fun H locs hP hD hS => ?_)
        have hP : va_P D classes (Wc ty h (sF σ 20 3 ((σ.1 20 3) + 1)) px) H := hP
        have hD : va_D A (Wc ty h (sF σ 20 3 ((σ.1 20 3) + 1)) px) := hD
        exact B59 _ _ _ x1 (x2 + 1) (sF σ 20 3 ((σ.1 20 3) + 1)) hv hk (lv_sub hl [1, 2, 0] rfl) hP hD hS
      intro H locs ls x1 x2 σ hv hk hl hP hD hS
      rw [f_Rd_readDigits_4] at hv
      rw [k_Rd_readDigits_4] at hk
      refine lv_iload_n hx hb d_Rd_readDigits_4 rfl (lv_at hl 2 rfl) ?_
      refine lv_iconst (v := 5) hx hb d_Rd_readDigits_5 (by decide) ?_
      refine lv_icmp_gt (tgt := 62) hx hb d_Rd_readDigits_6 (by decide) (fun hc => ?_) (fun hc => ?_)
      · have hv := hv.trans (if_pos hc)
        have hk := hk.1 hc
        exact B62 _ _ _ x1 x2 σ hv hk (lv_sub hl [1, 2] rfl) hP hD hS
      · have hv := hv.trans (if_neg hc)
        have hk := hk.2 hc
        refine lv_aload_n hx hb d_Rd_readDigits_9 rfl (lv_at hl 0 rfl) ?_
        refine va_get (v := .ref (h 18)) (C := R_Rd) (T := T_Rd) (N := 4) hx hb hg in_Rd hown hK hP 20 rfl rfl 0 (by decide) (hg _ m_133) (fun _ h9 => h9) rfl d_Rd_readDigits_10 ?_
        refine lv_aload_n hx hb d_Rd_readDigits_13 rfl (lv_at hl 0 rfl) ?_
        refine va_get (v := .int (σ.1 20 3)) (C := R_Rd) (T := T_Rd) (N := 4) hx hb hg in_Rd hown hK hP 20 rfl rfl 3 (by decide) (hg _ m_136) (fun _ h9 => h9) rfl d_Rd_readDigits_14 ?_
        obtain ⟨hk0, hk⟩ := hk
        refine zz_callV (va_runV (As := [.int (σ.1 20 3)]) (rest := []) ⟨hx, hb, hml, hown, hg⟩ (c_Dr_letter l D ty h px σ (σ.1 20 3) hk0) ⟨callB_of 1 hg (gw_C m_583) rfl rfl rfl (hg _ m_4) (hg _ m_580) hd_Dr_letter ⟨Nat.le_of_ble_eq_true rfl, Nat.le_of_ble_eq_true rfl⟩, hg _ m_581, hg _ m_582⟩ (zz_preV hN hK hP 18 rfl rfl) rfl rfl hl.1 rfl (lv_room (Nat.le_of_ble_eq_true rfl)) d_Rd_readDigits_17 ⟨Nat.le_of_ble_eq_true rfl, Nat.le_of_ble_eq_true rfl⟩) ?_
        obtain ⟨hk0, hk⟩ := hk
        refine zz_callV (va_runS (As := [.int (f_Dr_letter (σ.1 20 3) σ)]) (rest := []) ⟨hx, hb, hml, hown, hg⟩ (c_Rd_isDigit l D ty h px σ (f_Dr_letter (σ.1 20 3) σ) hk0) ⟨callB_of 1 hg (gw_C m_752) rfl rfl rfl (hg _ m_5) (hg _ m_750) hd_Rd_isDigit ⟨Nat.le_of_ble_eq_true rfl, Nat.le_of_ble_eq_true rfl⟩, hg _ m_751⟩ (zz_preS hN hK hP) rfl rfl hl.1 rfl (lv_room (Nat.le_of_ble_eq_true rfl)) d_Rd_readDigits_20 ⟨Nat.le_of_ble_eq_true rfl, Nat.le_of_ble_eq_true rfl⟩) ?_
        refine lv_if_eq (tgt := 62) hx hb d_Rd_readDigits_23 (by decide) (fun hc => ?_) (fun hc => ?_)
        · have hv := hv.trans (if_pos hc)
          have hk := hk.1 hc
          exact B62 _ _ _ x1 x2 σ hv hk (lv_sub hl [1, 2] rfl) hP hD hS
        · have hv := hv.trans (if_neg hc)
          have hk := hk.2 hc
          refine lv_bipush (v := 10) hx hb d_Rd_readDigits_26 (by decide) ?_
          refine lv_iload_n hx hb d_Rd_readDigits_28 rfl (lv_at hl 1 rfl) ?_
          refine lv_imul hx hb d_Rd_readDigits_29 ?_
          refine lv_aload_n hx hb d_Rd_readDigits_30 rfl (lv_at hl 0 rfl) ?_
          refine va_get (v := .ref (h 18)) (C := R_Rd) (T := T_Rd) (N := 4) hx hb hg in_Rd hown hK hP 20 rfl rfl 0 (by decide) (hg _ m_133) (fun _ h9 => h9) rfl d_Rd_readDigits_31 ?_
          refine lv_aload_n hx hb d_Rd_readDigits_34 rfl (lv_at hl 0 rfl) ?_
          refine va_get (v := .int (σ.1 20 3)) (C := R_Rd) (T := T_Rd) (N := 4) hx hb hg in_Rd hown hK hP 20 rfl rfl 3 (by decide) (hg _ m_136) (fun _ h9 => h9) rfl d_Rd_readDigits_35 ?_
          obtain ⟨hk0, hk⟩ := hk
          refine zz_callV (va_runV (As := [.int (σ.1 20 3)]) (rest := [.int (10 * x1)]) ⟨hx, hb, hml, hown, hg⟩ (c_Dr_letter l D ty h px σ (σ.1 20 3) hk0) ⟨callB_of 1 hg (gw_C m_583) rfl rfl rfl (hg _ m_4) (hg _ m_580) hd_Dr_letter ⟨Nat.le_of_ble_eq_true rfl, Nat.le_of_ble_eq_true rfl⟩, hg _ m_581, hg _ m_582⟩ (zz_preV hN hK hP 18 rfl rfl) rfl rfl hl.1 rfl (lv_room (Nat.le_of_ble_eq_true rfl)) d_Rd_readDigits_38 ⟨Nat.le_of_ble_eq_true rfl, Nat.le_of_ble_eq_true rfl⟩) ?_
          refine lv_bipush (v := 48) hx hb d_Rd_readDigits_41 (by decide) ?_
          refine lv_isub hx hb d_Rd_readDigits_43 ?_
          refine lv_iadd hx hb d_Rd_readDigits_44 ?_
          refine lv_istore_n (lv' := [(1, .int ((10 * x1) + ((f_Dr_letter (σ.1 20 3) σ) - 48))), (0, .ref (h 20)), (2, .int x2)]) hx hb d_Rd_readDigits_45 rfl hl (by decide) rfl (fun ls hl => ?_)
          exact B46 _ _ _ ((10 * x1) + ((f_Dr_letter (σ.1 20 3) σ) - 48)) x2 σ hv hk (lv_sub hl [1, 0, 2] rfl) hP hD hS
  unfold f_Rd_readDigits at hv
  unfold k_Rd_readDigits at hk
  refine lv_iconst (v := 0) hx hb d_Rd_readDigits_0 (by decide) ?_
  refine lv_istore_n (lv' := [(1, .int 0), (0, .ref (h 20))]) hx hb d_Rd_readDigits_1 rfl hl (by decide) rfl (fun ls hl => ?_)
  refine lv_iconst (v := 0) hx hb d_Rd_readDigits_2 (by decide) ?_
  refine lv_istore_n (lv' := [(2, .int 0), (1, .int 0), (0, .ref (h 20))]) hx hb d_Rd_readDigits_3 rfl hl (by decide) rfl (fun ls hl => ?_)
  exact B4 1000 _ _ _ 0 0 σ hv hk (lv_sub hl [2, 1, 0] rfl) hP hD hS

-- ClauseLedger$Reader.readConstant()I
abbrev b_Rd_readConstant : ByteArray := prog_5_method_12_code
def y_Rd_readConstant : MethodName := ⟨"ClauseLedger$Reader", "readConstant", "()I"⟩
theorem hd_Rd_readConstant : y_Rd_readConstant.cls ≠ "java/lang/invoke/MethodHandle" ∧ y_Rd_readConstant.cls ≠ "java/lang/invoke/VarHandle" ∧ (parseMethodDescriptor y_Rd_readConstant.desc).map (fun d => d.parameters.length) = some 0 := by decide +kernel
theorem d_Rd_readConstant_0 : decode b_Rd_readConstant 0 = .ok (.aload_n 0, 1) := by decide +kernel
theorem d_Rd_readConstant_1 : decode b_Rd_readConstant 1 = .ok (.bipush 45, 2) := by decide +kernel
theorem d_Rd_readConstant_3 : decode b_Rd_readConstant 3 = .ok (.invokevirtual 85, 3) := by decide +kernel
theorem d_Rd_readConstant_6 : decode b_Rd_readConstant 6 = .ok (.istore_n 1, 1) := by decide +kernel
theorem d_Rd_readConstant_7 : decode b_Rd_readConstant 7 = .ok (.aload_n 0, 1) := by decide +kernel
theorem d_Rd_readConstant_8 : decode b_Rd_readConstant 8 = .ok (.invokevirtual 118, 3) := by decide +kernel
theorem d_Rd_readConstant_11 : decode b_Rd_readConstant 11 = .ok (.istore_n 2, 1) := by decide +kernel
theorem d_Rd_readConstant_12 : decode b_Rd_readConstant 12 = .ok (.aload_n 0, 1) := by decide +kernel
theorem d_Rd_readConstant_13 : decode b_Rd_readConstant 13 = .ok (.bipush 47, 2) := by decide +kernel
theorem d_Rd_readConstant_15 : decode b_Rd_readConstant 15 = .ok (.invokevirtual 85, 3) := by decide +kernel
theorem d_Rd_readConstant_18 : decode b_Rd_readConstant 18 = .ok (.ifCond .eq 10, 3) := by decide +kernel
theorem d_Rd_readConstant_21 : decode b_Rd_readConstant 21 = .ok (.aload_n 0, 1) := by decide +kernel
theorem d_Rd_readConstant_22 : decode b_Rd_readConstant 22 = .ok (.invokevirtual 118, 3) := by decide +kernel
theorem d_Rd_readConstant_25 : decode b_Rd_readConstant 25 = .ok (.goto 4, 3) := by decide +kernel
theorem d_Rd_readConstant_28 : decode b_Rd_readConstant 28 = .ok (.iconst 1, 1) := by decide +kernel
theorem d_Rd_readConstant_29 : decode b_Rd_readConstant 29 = .ok (.istore_n 3, 1) := by decide +kernel
theorem d_Rd_readConstant_30 : decode b_Rd_readConstant 30 = .ok (.iload_n 2, 1) := by decide +kernel
theorem d_Rd_readConstant_31 : decode b_Rd_readConstant 31 = .ok (.iconst (-1), 1) := by decide +kernel
theorem d_Rd_readConstant_32 : decode b_Rd_readConstant 32 = .ok (.if_icmp .eq 12, 3) := by decide +kernel
theorem d_Rd_readConstant_35 : decode b_Rd_readConstant 35 = .ok (.iload_n 3, 1) := by decide +kernel
theorem d_Rd_readConstant_36 : decode b_Rd_readConstant 36 = .ok (.iconst (-1), 1) := by decide +kernel
theorem d_Rd_readConstant_37 : decode b_Rd_readConstant 37 = .ok (.if_icmp .eq 7, 3) := by decide +kernel
theorem d_Rd_readConstant_40 : decode b_Rd_readConstant 40 = .ok (.iload_n 3, 1) := by decide +kernel
theorem d_Rd_readConstant_41 : decode b_Rd_readConstant 41 = .ok (.ifCond .ne 5, 3) := by decide +kernel
theorem d_Rd_readConstant_44 : decode b_Rd_readConstant 44 = .ok (.iconst (-1), 1) := by decide +kernel
theorem d_Rd_readConstant_45 : decode b_Rd_readConstant 45 = .ok (.ireturn, 1) := by decide +kernel
theorem d_Rd_readConstant_46 : decode b_Rd_readConstant 46 = .ok (.iload_n 2, 1) := by decide +kernel
theorem d_Rd_readConstant_47 : decode b_Rd_readConstant 47 = .ok (.i2l, 1) := by decide +kernel
theorem d_Rd_readConstant_48 : decode b_Rd_readConstant 48 = .ok (.iload_n 3, 1) := by decide +kernel
theorem d_Rd_readConstant_49 : decode b_Rd_readConstant 49 = .ok (.i2l, 1) := by decide +kernel
theorem d_Rd_readConstant_50 : decode b_Rd_readConstant 50 = .ok (.invokestatic 121, 3) := by decide +kernel
theorem d_Rd_readConstant_53 : decode b_Rd_readConstant 53 = .ok (.l2i, 1) := by decide +kernel
theorem d_Rd_readConstant_54 : decode b_Rd_readConstant 54 = .ok (.istore 4, 2) := by decide +kernel
theorem d_Rd_readConstant_56 : decode b_Rd_readConstant 56 = .ok (.iload 4, 2) := by decide +kernel
theorem d_Rd_readConstant_58 : decode b_Rd_readConstant 58 = .ok (.ifCond .ne 5, 3) := by decide +kernel
theorem d_Rd_readConstant_61 : decode b_Rd_readConstant 61 = .ok (.iconst (-1), 1) := by decide +kernel
theorem d_Rd_readConstant_62 : decode b_Rd_readConstant 62 = .ok (.ireturn, 1) := by decide +kernel
theorem d_Rd_readConstant_63 : decode b_Rd_readConstant 63 = .ok (.aload_n 0, 1) := by decide +kernel
theorem d_Rd_readConstant_64 : decode b_Rd_readConstant 64 = .ok (.getfield 23, 3) := by decide +kernel
theorem d_Rd_readConstant_67 : decode b_Rd_readConstant 67 = .ok (.iload_n 1, 1) := by decide +kernel
theorem d_Rd_readConstant_68 : decode b_Rd_readConstant 68 = .ok (.ifCond .eq 8, 3) := by decide +kernel
theorem d_Rd_readConstant_71 : decode b_Rd_readConstant 71 = .ok (.iload_n 2, 1) := by decide +kernel
theorem d_Rd_readConstant_72 : decode b_Rd_readConstant 72 = .ok (.ineg, 1) := by decide +kernel
theorem d_Rd_readConstant_73 : decode b_Rd_readConstant 73 = .ok (.goto 4, 3) := by decide +kernel
theorem d_Rd_readConstant_76 : decode b_Rd_readConstant 76 = .ok (.iload_n 2, 1) := by decide +kernel
theorem d_Rd_readConstant_77 : decode b_Rd_readConstant 77 = .ok (.iload 4, 2) := by decide +kernel
theorem d_Rd_readConstant_79 : decode b_Rd_readConstant 79 = .ok (.idiv, 1) := by decide +kernel
theorem d_Rd_readConstant_80 : decode b_Rd_readConstant 80 = .ok (.iload_n 3, 1) := by decide +kernel
theorem d_Rd_readConstant_81 : decode b_Rd_readConstant 81 = .ok (.iload 4, 2) := by decide +kernel
theorem d_Rd_readConstant_83 : decode b_Rd_readConstant 83 = .ok (.idiv, 1) := by decide +kernel
theorem d_Rd_readConstant_84 : decode b_Rd_readConstant 84 = .ok (.invokevirtual 125, 3) := by decide +kernel
theorem d_Rd_readConstant_87 : decode b_Rd_readConstant 87 = .ok (.ireturn, 1) := by decide +kernel
def f_Rd_readConstant_44 (σ : St) : Int32 × St := ((-1), σ)
def k_Rd_readConstant_44 (σ : St) : Prop := True
def f_Rd_readConstant_87 (s0 : Int32) (σ : St) : Int32 × St := (s0, σ)
def k_Rd_readConstant_87 (s0 : Int32) (σ : St) : Prop := True
def f_Rd_readConstant_77 (x3 : Int32) (x4 : Int32) (s0 : Int32) (σ : St) : Int32 × St := f_Rd_readConstant_87 ((f_Te_makeConstant (s0 / x4) (x3 / x4) σ).1) ((f_Te_makeConstant (s0 / x4) (x3 / x4) σ).2)
def k_Rd_readConstant_77 (x3 : Int32) (x4 : Int32) (s0 : Int32) (σ : St) : Prop := (¬ (x4 : Int32) = 0) ∧ ((¬ (x4 : Int32) = 0) ∧ ((k_Te_makeConstant (s0 / x4) (x3 / x4) σ) ∧ (k_Rd_readConstant_87 ((f_Te_makeConstant (s0 / x4) (x3 / x4) σ).1) ((f_Te_makeConstant (s0 / x4) (x3 / x4) σ).2))))
def f_Rd_readConstant_56 (x1 : Int32) (x2 : Int32) (x3 : Int32) (x4 : Int32) (σ : St) : Int32 × St := if x4 = 0 then ((-1), σ) else (if x1 = 0 then (f_Rd_readConstant_77 x3 x4 x2 σ) else (f_Rd_readConstant_77 x3 x4 (-x2) σ))
def k_Rd_readConstant_56 (x1 : Int32) (x2 : Int32) (x3 : Int32) (x4 : Int32) (σ : St) : Prop := (x4 = 0 → True) ∧ (¬ x4 = 0 → ((x1 = 0 → (k_Rd_readConstant_77 x3 x4 x2 σ)) ∧ (¬ x1 = 0 → (k_Rd_readConstant_77 x3 x4 (-x2) σ))))
def f_Rd_readConstant_29 (x1 : Int32) (x2 : Int32) (s0 : Int32) (σ : St) : Int32 × St := if x2 = (-1) then (f_Rd_readConstant_44 σ) else (if s0 = (-1) then (f_Rd_readConstant_44 σ) else (if s0 = 0 then (f_Rd_readConstant_44 σ) else (f_Rd_readConstant_56 x1 x2 s0 ((f_CL_gcd x2.toInt64 s0.toInt64 σ).toInt32) σ)))
def k_Rd_readConstant_29 (x1 : Int32) (x2 : Int32) (s0 : Int32) (σ : St) : Prop := (x2 = (-1) → (k_Rd_readConstant_44 σ)) ∧ (¬ x2 = (-1) → ((s0 = (-1) → (k_Rd_readConstant_44 σ)) ∧ (¬ s0 = (-1) → ((s0 = 0 → (k_Rd_readConstant_44 σ)) ∧ (¬ s0 = 0 → ((k_CL_gcd x2.toInt64 s0.toInt64 σ) ∧ (k_Rd_readConstant_56 x1 x2 s0 ((f_CL_gcd x2.toInt64 s0.toInt64 σ).toInt32) σ)))))))
def f_Rd_readConstant_25 (x1 : Int32) (x2 : Int32) (s0 : Int32) (σ : St) : Int32 × St := f_Rd_readConstant_29 x1 x2 s0 σ
def k_Rd_readConstant_25 (x1 : Int32) (x2 : Int32) (s0 : Int32) (σ : St) : Prop := k_Rd_readConstant_29 x1 x2 s0 σ
def f_Rd_readConstant_18 (x1 : Int32) (x2 : Int32) (s0 : Int32) (σ : St) : Int32 × St := if s0 = 0 then (f_Rd_readConstant_29 x1 x2 1 σ) else (f_Rd_readConstant_25 x1 x2 ((f_Rd_readDigits σ).1) ((f_Rd_readDigits σ).2))
def k_Rd_readConstant_18 (x1 : Int32) (x2 : Int32) (s0 : Int32) (σ : St) : Prop := (s0 = 0 → (k_Rd_readConstant_29 x1 x2 1 σ)) ∧ (¬ s0 = 0 → ((k_Rd_readDigits σ) ∧ (k_Rd_readConstant_25 x1 x2 ((f_Rd_readDigits σ).1) ((f_Rd_readDigits σ).2))))
def f_Rd_readConstant_12 (x1 : Int32) (x2 : Int32) (σ : St) : Int32 × St := f_Rd_readConstant_18 x1 x2 ((f_Rd_take 47 σ).1) ((f_Rd_take 47 σ).2)
def k_Rd_readConstant_12 (x1 : Int32) (x2 : Int32) (σ : St) : Prop := (k_Rd_take 47 σ) ∧ (k_Rd_readConstant_18 x1 x2 ((f_Rd_take 47 σ).1) ((f_Rd_take 47 σ).2))
def f_Rd_readConstant_11 (x1 : Int32) (s0 : Int32) (σ : St) : Int32 × St := f_Rd_readConstant_12 x1 s0 σ
def k_Rd_readConstant_11 (x1 : Int32) (s0 : Int32) (σ : St) : Prop := k_Rd_readConstant_12 x1 s0 σ
def f_Rd_readConstant_6 (s0 : Int32) (σ : St) : Int32 × St := f_Rd_readConstant_11 s0 ((f_Rd_readDigits σ).1) ((f_Rd_readDigits σ).2)
def k_Rd_readConstant_6 (s0 : Int32) (σ : St) : Prop := (k_Rd_readDigits σ) ∧ (k_Rd_readConstant_11 s0 ((f_Rd_readDigits σ).1) ((f_Rd_readDigits σ).2))
def f_Rd_readConstant (σ : St) : Int32 × St := f_Rd_readConstant_6 ((f_Rd_take 45 σ).1) ((f_Rd_take 45 σ).2)
def k_Rd_readConstant (σ : St) : Prop := (k_Rd_take 45 σ) ∧ (k_Rd_readConstant_6 ((f_Rd_take 45 σ).1) ((f_Rd_take 45 σ).2))
abbrev w_Rd_readConstant : List Cond := Cond.code y_Rd_readConstant b_Rd_readConstant 5 (some .int) :: gw
abbrev rm_Rd_readConstant : Room := { frames := 3, cells := 0, slots := 0, locals := 73 }
set_option maxHeartbeats 4000000 in
set_option maxRecDepth 100000 in
theorem c_Rd_readConstant (l : Launch) (D : va_G) (ty : Nat → ClassId) (h : Nat → Nat) (px : va_W) (σ : St) (sz : Nat) (hk : k_Rd_readConstant σ) : Met l y_Rd_readConstant w_Rd_readConstant rm_Rd_readConstant (va_Pc [.ref (h 20)] (fun U => U.heap.size = sz ∧ va_P D classes (Wc ty h σ px) U.heap ∧ va_K D classes (Ta ty) U ∧ NW U ∧ va_D (fun _ => True) (Wc ty h σ px))) (va_Qi (fun r (u : St) => (r, u) = f_Rd_readConstant σ) (fun u t => va_P D classes (Wc ty h u px) t.heap) (va_A (Wc ty h σ px) sz)) 0 0 (va_A (Wc ty h σ px) sz) := by
  refine Met.ofW (cc := b_Rd_readConstant) (maxL := 5) (ret := (some .int)) (by decide) rfl ?_
  intro p e s m args below meth c s₁ B hml hv
  obtain ⟨ha, hsz, hP, hK, hN, hD0⟩ := hv
  have hx := B.exec
  have hb := B.bytes
  have hr := B.returns
  have hg : ∀ w ∈ gw, w.before args s = true := fun w h9 => atoms_spec (ws := w_Rd_readConstant) B.pre w (List.mem_cons_of_mem _ h9)
  have hown : s.vm.findClass "ClauseLedger$Reader" = some m.cls := findClass_of_methodNamed B.named
  have hlocks := B.notSynchronized
  subst hsz
  have hD := hD0.self (sz := s.heap.size)
  generalize hAe : va_A (Wc ty h σ px) s.heap.size = A at hD ⊢
  have hA : ∀ q : Nat, s.heap.size ≤ q → A q := fun q h9 => by rw [← hAe]; exact Or.inr h9
  have hS : va_S A s.heap s.heap [] := va_S.rf
  have he : entryFrame m args 5 = entryFrame m ([.ref (h 20)] : List Value).toArray 5 := by rw [ha]
  rw [he, lg_entry_eq]
  have hl := lv_entry ([.ref (h 20)]) (n := 5) (Nat.le_of_ble_eq_true rfl)
  generalize (lg_sl ([.ref (h 20)]) ++ List.replicate (5 - (lg_sl ([.ref (h 20)])).length) Slot.unset).toArray = ls at hl ⊢
  have hl : lv_has ls 5 [(0, .ref (h 20))] := hl
  generalize hv : f_Rd_readConstant σ = v
  replace hv := hv.symm
  have B44 : ∀ (H : Heap) (locs : List Loc) (ls : Array Slot) (σ : St), v = f_Rd_readConstant_44 σ → k_Rd_readConstant_44 σ → lv_has ls 5 [] → va_P D classes (Wc ty h σ px) H → va_D A (Wc ty h σ px) → va_S A s.heap H locs → W p l e (headSpec w_Rd_readConstant rm_Rd_readConstant).room s m args below meth c H locs 0 0 (MQ below (va_Qi (fun r (u : St) => (r, u) = v) (fun u t => va_P D classes (Wc ty h u px) t.heap) A) args s 0 0 A) (F0 m 44 ls []) := by
    intro H locs ls σ hv hk hl hP hD hS
    unfold f_Rd_readConstant_44 at hv
    unfold k_Rd_readConstant_44 at hk
    refine lv_iconst (v := -1) hx hb d_Rd_readConstant_44 (by decide) ?_
    exact W.iret hx hb hr (fun t ht hW => ⟨⟨_, _, rfl, hv.symm, by dsimp only; rw [ht]; exact hP⟩, hS.F ht⟩) hS.2.2 d_Rd_readConstant_45
  have B87 : ∀ (H : Heap) (locs : List Loc) (ls : Array Slot) (s0 : Int32) (σ : St), v = f_Rd_readConstant_87 s0 σ → k_Rd_readConstant_87 s0 σ → lv_has ls 5 [] → va_P D classes (Wc ty h σ px) H → va_D A (Wc ty h σ px) → va_S A s.heap H locs → W p l e (headSpec w_Rd_readConstant rm_Rd_readConstant).room s m args below meth c H locs 0 0 (MQ below (va_Qi (fun r (u : St) => (r, u) = v) (fun u t => va_P D classes (Wc ty h u px) t.heap) A) args s 0 0 A) (F0 m 87 ls [.int s0]) := by
    intro H locs ls s0 σ hv hk hl hP hD hS
    unfold f_Rd_readConstant_87 at hv
    unfold k_Rd_readConstant_87 at hk
    exact W.iret hx hb hr (fun t ht hW => ⟨⟨_, _, rfl, hv.symm, by dsimp only; rw [ht]; exact hP⟩, hS.F ht⟩) hS.2.2 d_Rd_readConstant_87
  have B77 : ∀ (H : Heap) (locs : List Loc) (ls : Array Slot) (x3 : Int32) (x4 : Int32) (s0 : Int32) (σ : St), v = f_Rd_readConstant_77 x3 x4 s0 σ → k_Rd_readConstant_77 x3 x4 s0 σ → lv_has ls 5 [(3, .int x3), (4, .int x4)] → va_P D classes (Wc ty h σ px) H → va_D A (Wc ty h σ px) → va_S A s.heap H locs → W p l e (headSpec w_Rd_readConstant rm_Rd_readConstant).room s m args below meth c H locs 0 0 (MQ below (va_Qi (fun r (u : St) => (r, u) = v) (fun u t => va_P D classes (Wc ty h u px) t.heap) A) args s 0 0 A) (F0 m 77 ls [.int s0, .ref (h 6)]) := by
    intro H locs ls x3 x4 s0 σ hv hk hl hP hD hS
    unfold f_Rd_readConstant_77 at hv
    unfold k_Rd_readConstant_77 at hk
    refine lv_iload hx hb d_Rd_readConstant_77 (lv_at hl 1 rfl) ?_
    obtain ⟨hk0, hk⟩ := hk
    refine lv_idiv hx hb d_Rd_readConstant_79 hk0 ?_
    refine lv_iload_n hx hb d_Rd_readConstant_80 rfl (lv_at hl 0 rfl) ?_
    refine lv_iload hx hb d_Rd_readConstant_81 (lv_at hl 1 rfl) ?_
    obtain ⟨hk0, hk⟩ := hk
    refine lv_idiv hx hb d_Rd_readConstant_83 hk0 ?_
    obtain ⟨hk0, hk⟩ := hk
    refine va_calli (va_runV (As := [.int (s0 / x4), .int (x3 / x4)]) (rest := []) ⟨hx, hb, hml, hown, hg⟩ (c_Te_makeConstant l D ty h px σ H.size (s0 / x4) (x3 / x4) hk0) ⟨callB_of 2 hg (gw_C m_759) rfl rfl rfl (hg _ m_3) (hg _ m_756) hd_Te_makeConstant ⟨Nat.le_of_ble_eq_true rfl, Nat.le_of_ble_eq_true rfl⟩, hg _ m_757, hg _ m_758⟩ (zz_preVW hN hK hP hD 6 rfl rfl) rfl rfl hl.1 rfl (lv_room (Nat.le_of_ble_eq_true rfl)) d_Rd_readConstant_84 ⟨Nat.le_of_ble_eq_true rfl, Nat.le_of_ble_eq_true rfl⟩) hS (fun q _ h => zz_free hD hS hA q h) (zz_free hD hS hA) (fun r84 u84 t H locs ht hvm hp hP1 hz hk1 hS => ?_)
    rw [ht] at hP1
    rw [← hp] at hv hk
    have hD : va_D A (Wc ty h u84 px) := zz_D hD rfl
    have hP := hP1
    exact B87 _ _ _ r84 u84 hv hk (lv_sub hl [] rfl) hP hD hS
  have B56 : ∀ (H : Heap) (locs : List Loc) (ls : Array Slot) (x1 : Int32) (x2 : Int32) (x3 : Int32) (x4 : Int32) (σ : St), v = f_Rd_readConstant_56 x1 x2 x3 x4 σ → k_Rd_readConstant_56 x1 x2 x3 x4 σ → lv_has ls 5 [(0, .ref (h 20)), (1, .int x1), (2, .int x2), (3, .int x3), (4, .int x4)] → va_P D classes (Wc ty h σ px) H → va_D A (Wc ty h σ px) → va_S A s.heap H locs → W p l e (headSpec w_Rd_readConstant rm_Rd_readConstant).room s m args below meth c H locs 0 0 (MQ below (va_Qi (fun r (u : St) => (r, u) = v) (fun u t => va_P D classes (Wc ty h u px) t.heap) A) args s 0 0 A) (F0 m 56 ls []) := by
    intro H locs ls x1 x2 x3 x4 σ hv hk hl hP hD hS
    unfold f_Rd_readConstant_56 at hv
    unfold k_Rd_readConstant_56 at hk
    refine lv_iload hx hb d_Rd_readConstant_56 (lv_at hl 4 rfl) ?_
    refine lv_if_ne (tgt := 63) hx hb d_Rd_readConstant_58 (by decide) (fun hc => ?_) (fun hc => ?_)
    · have hv := hv.trans (if_neg hc)
      have hk := hk.2 hc
      refine lv_aload_n hx hb d_Rd_readConstant_63 rfl (lv_at hl 0 rfl) ?_
      refine va_get (v := .ref (h 6)) (C := R_Rd) (T := T_Rd) (N := 4) hx hb hg in_Rd hown hK hP 20 rfl rfl 2 (by decide) (hg _ m_135) (fun _ h9 => h9) rfl d_Rd_readConstant_64 ?_
      refine lv_iload_n hx hb d_Rd_readConstant_67 rfl (lv_at hl 1 rfl) ?_
      refine lv_if_eq (tgt := 76) hx hb d_Rd_readConstant_68 (by decide) (fun hc => ?_) (fun hc => ?_)
      · have hv := hv.trans (if_pos hc)
        have hk := hk.1 hc
        refine lv_iload_n hx hb d_Rd_readConstant_76 rfl (lv_at hl 2 rfl) ?_
        exact B77 _ _ _ x3 x4 x2 σ hv hk (lv_sub hl [3, 4] rfl) hP hD hS
      · have hv := hv.trans (if_neg hc)
        have hk := hk.2 hc
        refine lv_iload_n hx hb d_Rd_readConstant_71 rfl (lv_at hl 2 rfl) ?_
        refine lv_ineg hx hb d_Rd_readConstant_72 ?_
        refine lv_goto (tgt := 77) hx hb d_Rd_readConstant_73 (by decide) ?_
        exact B77 _ _ _ x3 x4 (-x2) σ hv hk (lv_sub hl [3, 4] rfl) hP hD hS
    · have hv := hv.trans (if_pos hc)
      have hk := hk.1 hc
      refine lv_iconst (v := -1) hx hb d_Rd_readConstant_61 (by decide) ?_
      exact W.iret hx hb hr (fun t ht hW => ⟨⟨_, _, rfl, hv.symm, by dsimp only; rw [ht]; exact hP⟩, hS.F ht⟩) hS.2.2 d_Rd_readConstant_62
  have B29 : ∀ (H : Heap) (locs : List Loc) (ls : Array Slot) (x1 : Int32) (x2 : Int32) (s0 : Int32) (σ : St), v = f_Rd_readConstant_29 x1 x2 s0 σ → k_Rd_readConstant_29 x1 x2 s0 σ → lv_has ls 5 [(0, .ref (h 20)), (1, .int x1), (2, .int x2)] → va_P D classes (Wc ty h σ px) H → va_D A (Wc ty h σ px) → va_S A s.heap H locs → W p l e (headSpec w_Rd_readConstant rm_Rd_readConstant).room s m args below meth c H locs 0 0 (MQ below (va_Qi (fun r (u : St) => (r, u) = v) (fun u t => va_P D classes (Wc ty h u px) t.heap) A) args s 0 0 A) (F0 m 29 ls [.int s0]) := by
    intro H locs ls x1 x2 s0 σ hv hk hl hP hD hS
    unfold f_Rd_readConstant_29 at hv
    unfold k_Rd_readConstant_29 at hk
    refine lv_istore_n (lv' := [(3, .int s0), (0, .ref (h 20)), (1, .int x1), (2, .int x2)]) hx hb d_Rd_readConstant_29 rfl hl (by decide) rfl (fun ls hl => ?_)
    refine lv_iload_n hx hb d_Rd_readConstant_30 rfl (lv_at hl 3 rfl) ?_
    refine lv_iconst (v := -1) hx hb d_Rd_readConstant_31 (by decide) ?_
    refine lv_icmp_eq (tgt := 44) hx hb d_Rd_readConstant_32 (by decide) (fun hc => ?_) (fun hc => ?_)
    · have hv := hv.trans (if_pos hc)
      have hk := hk.1 hc
      exact B44 _ _ _  σ hv hk (lv_sub hl [] rfl) hP hD hS
    · have hv := hv.trans (if_neg hc)
      have hk := hk.2 hc
      refine lv_iload_n hx hb d_Rd_readConstant_35 rfl (lv_at hl 0 rfl) ?_
      refine lv_iconst (v := -1) hx hb d_Rd_readConstant_36 (by decide) ?_
      refine lv_icmp_eq (tgt := 44) hx hb d_Rd_readConstant_37 (by decide) (fun hc => ?_) (fun hc => ?_)
      · have hv := hv.trans (if_pos hc)
        have hk := hk.1 hc
        exact B44 _ _ _  σ hv hk (lv_sub hl [] rfl) hP hD hS
      · have hv := hv.trans (if_neg hc)
        have hk := hk.2 hc
        refine lv_iload_n hx hb d_Rd_readConstant_40 rfl (lv_at hl 0 rfl) ?_
        refine lv_if_ne (tgt := 46) hx hb d_Rd_readConstant_41 (by decide) (fun hc => ?_) (fun hc => ?_)
        · have hv := hv.trans (if_neg hc)
          have hk := hk.2 hc
          refine lv_iload_n hx hb d_Rd_readConstant_46 rfl (lv_at hl 3 rfl) ?_
          refine lv_i2l hx hb d_Rd_readConstant_47 rfl ?_
          refine lv_iload_n hx hb d_Rd_readConstant_48 rfl (lv_at hl 0 rfl) ?_
          refine lv_i2l hx hb d_Rd_readConstant_49 rfl ?_
          obtain ⟨hk0, hk⟩ := hk
          refine zz_callV (va_runSN (As := [.long x2.toInt64, .long s0.toInt64]) (rest := []) ⟨hx, hb, hml, hown, hg⟩ (c_CL_gcd l D ty h px σ x2.toInt64 s0.toInt64 hk0) ⟨va_cnB 2 hg (gw_C m_755) rfl rfl rfl (hN _ nw_753) (hg _ m_1) hd_CL_gcd ⟨Nat.le_of_ble_eq_true rfl, Nat.le_of_ble_eq_true rfl⟩, hg _ m_754, trivial⟩ (zz_preS hN hK hP) rfl rfl hl.1 rfl (lv_room (Nat.le_of_ble_eq_true rfl)) d_Rd_readConstant_50 ⟨Nat.le_of_ble_eq_true rfl, Nat.le_of_ble_eq_true rfl⟩) ?_
          refine lv_l2i hx hb d_Rd_readConstant_53 rfl ?_
          refine lv_istore (lv' := [(4, .int ((f_CL_gcd x2.toInt64 s0.toInt64 σ).toInt32)), (3, .int s0), (0, .ref (h 20)), (1, .int x1), (2, .int x2)]) hx hb d_Rd_readConstant_54 hl (by decide) rfl (fun ls hl => ?_)
          exact B56 _ _ _ x1 x2 s0 ((f_CL_gcd x2.toInt64 s0.toInt64 σ).toInt32) σ hv hk (lv_sub hl [2, 3, 4, 1, 0] rfl) hP hD hS
        · have hv := hv.trans (if_pos hc)
          have hk := hk.1 hc
          exact B44 _ _ _  σ hv hk (lv_sub hl [] rfl) hP hD hS
  have B25 : ∀ (H : Heap) (locs : List Loc) (ls : Array Slot) (x1 : Int32) (x2 : Int32) (s0 : Int32) (σ : St), v = f_Rd_readConstant_25 x1 x2 s0 σ → k_Rd_readConstant_25 x1 x2 s0 σ → lv_has ls 5 [(0, .ref (h 20)), (1, .int x1), (2, .int x2)] → va_P D classes (Wc ty h σ px) H → va_D A (Wc ty h σ px) → va_S A s.heap H locs → W p l e (headSpec w_Rd_readConstant rm_Rd_readConstant).room s m args below meth c H locs 0 0 (MQ below (va_Qi (fun r (u : St) => (r, u) = v) (fun u t => va_P D classes (Wc ty h u px) t.heap) A) args s 0 0 A) (F0 m 25 ls [.int s0]) := by
    intro H locs ls x1 x2 s0 σ hv hk hl hP hD hS
    unfold f_Rd_readConstant_25 at hv
    unfold k_Rd_readConstant_25 at hk
    refine lv_goto (tgt := 29) hx hb d_Rd_readConstant_25 (by decide) ?_
    exact B29 _ _ _ x1 x2 s0 σ hv hk (lv_sub hl [0, 1, 2] rfl) hP hD hS
  have B18 : ∀ (H : Heap) (locs : List Loc) (ls : Array Slot) (x1 : Int32) (x2 : Int32) (s0 : Int32) (σ : St), v = f_Rd_readConstant_18 x1 x2 s0 σ → k_Rd_readConstant_18 x1 x2 s0 σ → lv_has ls 5 [(0, .ref (h 20)), (1, .int x1), (2, .int x2)] → va_P D classes (Wc ty h σ px) H → va_D A (Wc ty h σ px) → va_S A s.heap H locs → W p l e (headSpec w_Rd_readConstant rm_Rd_readConstant).room s m args below meth c H locs 0 0 (MQ below (va_Qi (fun r (u : St) => (r, u) = v) (fun u t => va_P D classes (Wc ty h u px) t.heap) A) args s 0 0 A) (F0 m 18 ls [.int s0]) := by
    intro H locs ls x1 x2 s0 σ hv hk hl hP hD hS
    unfold f_Rd_readConstant_18 at hv
    unfold k_Rd_readConstant_18 at hk
    refine lv_if_eq (tgt := 28) hx hb d_Rd_readConstant_18 (by decide) (fun hc => ?_) (fun hc => ?_)
    · have hv := hv.trans (if_pos hc)
      have hk := hk.1 hc
      refine lv_iconst (v := 1) hx hb d_Rd_readConstant_28 (by decide) ?_
      exact B29 _ _ _ x1 x2 1 σ hv hk (lv_sub hl [0, 1, 2] rfl) hP hD hS
    · have hv := hv.trans (if_neg hc)
      have hk := hk.2 hc
      refine lv_aload_n hx hb d_Rd_readConstant_21 rfl (lv_at hl 0 rfl) ?_
      obtain ⟨hk0, hk⟩ := hk
      refine va_calli (va_runV (As := []) (rest := []) ⟨hx, hb, hml, hown, hg⟩ (c_Rd_readDigits l D ty h px σ H.size  hk0) ⟨callB_of 0 hg (gw_C m_749) rfl rfl rfl (hg _ m_5) (hg _ m_746) hd_Rd_readDigits ⟨Nat.le_of_ble_eq_true rfl, Nat.le_of_ble_eq_true rfl⟩, hg _ m_748, hg _ ms_23⟩ (zz_preVW hN hK hP hD 20 rfl rfl) rfl rfl hl.1 rfl (lv_room (Nat.le_of_ble_eq_true rfl)) d_Rd_readConstant_22 ⟨Nat.le_of_ble_eq_true rfl, Nat.le_of_ble_eq_true rfl⟩) hS (fun q _ h => zz_free hD hS hA q h) (zz_free hD hS hA) (fun r22 u22 t H locs ht hvm hp hP1 hz hk1 hS => ?_)
      rw [ht] at hP1
      rw [← hp] at hv hk
      have hD : va_D A (Wc ty h u22 px) := zz_D hD rfl
      have hP := hP1
      exact B25 _ _ _ x1 x2 r22 u22 hv hk (lv_sub hl [0, 1, 2] rfl) hP hD hS
  have B12 : ∀ (H : Heap) (locs : List Loc) (ls : Array Slot) (x1 : Int32) (x2 : Int32) (σ : St), v = f_Rd_readConstant_12 x1 x2 σ → k_Rd_readConstant_12 x1 x2 σ → lv_has ls 5 [(0, .ref (h 20)), (1, .int x1), (2, .int x2)] → va_P D classes (Wc ty h σ px) H → va_D A (Wc ty h σ px) → va_S A s.heap H locs → W p l e (headSpec w_Rd_readConstant rm_Rd_readConstant).room s m args below meth c H locs 0 0 (MQ below (va_Qi (fun r (u : St) => (r, u) = v) (fun u t => va_P D classes (Wc ty h u px) t.heap) A) args s 0 0 A) (F0 m 12 ls []) := by
    intro H locs ls x1 x2 σ hv hk hl hP hD hS
    unfold f_Rd_readConstant_12 at hv
    unfold k_Rd_readConstant_12 at hk
    refine lv_aload_n hx hb d_Rd_readConstant_12 rfl (lv_at hl 0 rfl) ?_
    refine lv_bipush (v := 47) hx hb d_Rd_readConstant_13 (by decide) ?_
    obtain ⟨hk0, hk⟩ := hk
    refine va_calli (va_runV (As := [.int 47]) (rest := []) ⟨hx, hb, hml, hown, hg⟩ (c_Rd_take l D ty h px σ H.size 47 hk0) ⟨callB_of 1 hg (gw_C m_611) rfl rfl rfl (hg _ m_5) (hg _ m_608) hd_Rd_take ⟨Nat.le_of_ble_eq_true rfl, Nat.le_of_ble_eq_true rfl⟩, hg _ m_610, hg _ ms_13⟩ (zz_preVW hN hK hP hD 20 rfl rfl) rfl rfl hl.1 rfl (lv_room (Nat.le_of_ble_eq_true rfl)) d_Rd_readConstant_15 ⟨Nat.le_of_ble_eq_true rfl, Nat.le_of_ble_eq_true rfl⟩) hS (fun q _ h => zz_free hD hS hA q h) (zz_free hD hS hA) (fun r15 u15 t H locs ht hvm hp hP1 hz hk1 hS => ?_)
    rw [ht] at hP1
    rw [← hp] at hv hk
    have hD : va_D A (Wc ty h u15 px) := zz_D hD rfl
    have hP := hP1
    exact B18 _ _ _ x1 x2 r15 u15 hv hk (lv_sub hl [0, 1, 2] rfl) hP hD hS
  have B11 : ∀ (H : Heap) (locs : List Loc) (ls : Array Slot) (x1 : Int32) (s0 : Int32) (σ : St), v = f_Rd_readConstant_11 x1 s0 σ → k_Rd_readConstant_11 x1 s0 σ → lv_has ls 5 [(0, .ref (h 20)), (1, .int x1)] → va_P D classes (Wc ty h σ px) H → va_D A (Wc ty h σ px) → va_S A s.heap H locs → W p l e (headSpec w_Rd_readConstant rm_Rd_readConstant).room s m args below meth c H locs 0 0 (MQ below (va_Qi (fun r (u : St) => (r, u) = v) (fun u t => va_P D classes (Wc ty h u px) t.heap) A) args s 0 0 A) (F0 m 11 ls [.int s0]) := by
    intro H locs ls x1 s0 σ hv hk hl hP hD hS
    unfold f_Rd_readConstant_11 at hv
    unfold k_Rd_readConstant_11 at hk
    refine lv_istore_n (lv' := [(2, .int s0), (0, .ref (h 20)), (1, .int x1)]) hx hb d_Rd_readConstant_11 rfl hl (by decide) rfl (fun ls hl => ?_)
    exact B12 _ _ _ x1 s0 σ hv hk (lv_sub hl [1, 2, 0] rfl) hP hD hS
  have B6 : ∀ (H : Heap) (locs : List Loc) (ls : Array Slot) (s0 : Int32) (σ : St), v = f_Rd_readConstant_6 s0 σ → k_Rd_readConstant_6 s0 σ → lv_has ls 5 [(0, .ref (h 20))] → va_P D classes (Wc ty h σ px) H → va_D A (Wc ty h σ px) → va_S A s.heap H locs → W p l e (headSpec w_Rd_readConstant rm_Rd_readConstant).room s m args below meth c H locs 0 0 (MQ below (va_Qi (fun r (u : St) => (r, u) = v) (fun u t => va_P D classes (Wc ty h u px) t.heap) A) args s 0 0 A) (F0 m 6 ls [.int s0]) := by
    intro H locs ls s0 σ hv hk hl hP hD hS
    unfold f_Rd_readConstant_6 at hv
    unfold k_Rd_readConstant_6 at hk
    refine lv_istore_n (lv' := [(1, .int s0), (0, .ref (h 20))]) hx hb d_Rd_readConstant_6 rfl hl (by decide) rfl (fun ls hl => ?_)
    refine lv_aload_n hx hb d_Rd_readConstant_7 rfl (lv_at hl 1 rfl) ?_
    obtain ⟨hk0, hk⟩ := hk
    refine va_calli (va_runV (As := []) (rest := []) ⟨hx, hb, hml, hown, hg⟩ (c_Rd_readDigits l D ty h px σ H.size  hk0) ⟨callB_of 0 hg (gw_C m_749) rfl rfl rfl (hg _ m_5) (hg _ m_746) hd_Rd_readDigits ⟨Nat.le_of_ble_eq_true rfl, Nat.le_of_ble_eq_true rfl⟩, hg _ m_748, hg _ ms_23⟩ (zz_preVW hN hK hP hD 20 rfl rfl) rfl rfl hl.1 rfl (lv_room (Nat.le_of_ble_eq_true rfl)) d_Rd_readConstant_8 ⟨Nat.le_of_ble_eq_true rfl, Nat.le_of_ble_eq_true rfl⟩) hS (fun q _ h => zz_free hD hS hA q h) (zz_free hD hS hA) (fun r8 u8 t H locs ht hvm hp hP1 hz hk1 hS => ?_)
    rw [ht] at hP1
    rw [← hp] at hv hk
    have hD : va_D A (Wc ty h u8 px) := zz_D hD rfl
    have hP := hP1
    exact B11 _ _ _ s0 r8 u8 hv hk (lv_sub hl [1, 0] rfl) hP hD hS
  unfold f_Rd_readConstant at hv
  unfold k_Rd_readConstant at hk
  refine lv_aload_n hx hb d_Rd_readConstant_0 rfl (lv_at hl 0 rfl) ?_
  refine lv_bipush (v := 45) hx hb d_Rd_readConstant_1 (by decide) ?_
  obtain ⟨hk0, hk⟩ := hk
  refine va_calli (va_runV (As := [.int 45]) (rest := []) ⟨hx, hb, hml, hown, hg⟩ (c_Rd_take l D ty h px σ s.heap.size 45 hk0) ⟨callB_of 1 hg (gw_C m_611) rfl rfl rfl (hg _ m_5) (hg _ m_608) hd_Rd_take ⟨Nat.le_of_ble_eq_true rfl, Nat.le_of_ble_eq_true rfl⟩, hg _ m_610, hg _ ms_13⟩ (zz_preVW hN hK hP hD 20 rfl rfl) rfl rfl hl.1 rfl (lv_room (Nat.le_of_ble_eq_true rfl)) d_Rd_readConstant_3 ⟨Nat.le_of_ble_eq_true rfl, Nat.le_of_ble_eq_true rfl⟩) hS (fun q _ h => zz_free hD hS hA q h) (zz_free hD hS hA) (fun r3 u3 t H locs ht hvm hp hP1 hz hk1 hS => ?_)
  rw [ht] at hP1
  rw [← hp] at hv hk
  have hD : va_D A (Wc ty h u3 px) := zz_D hD rfl
  have hP := hP1
  exact B6 _ _ _ r3 u3 hv hk (lv_sub hl [0] rfl) hP hD hS

-- ClauseLedger$Writer.digit(II)C
abbrev b_Wr_digit : ByteArray := prog_12_method_11_code
def y_Wr_digit : MethodName := ⟨"ClauseLedger$Writer", "digit", "(II)C"⟩
theorem hd_Wr_digit : y_Wr_digit.cls ≠ "java/lang/invoke/MethodHandle" ∧ y_Wr_digit.cls ≠ "java/lang/invoke/VarHandle" ∧ (parseMethodDescriptor y_Wr_digit.desc).map (fun d => d.parameters.length) = some 2 := by decide +kernel
theorem d_Wr_digit_0 : decode b_Wr_digit 0 = .ok (.iload_n 0, 1) := by decide +kernel
theorem d_Wr_digit_1 : decode b_Wr_digit 1 = .ok (.istore_n 2, 1) := by decide +kernel
theorem d_Wr_digit_2 : decode b_Wr_digit 2 = .ok (.iconst 0, 1) := by decide +kernel
theorem d_Wr_digit_3 : decode b_Wr_digit 3 = .ok (.istore_n 3, 1) := by decide +kernel
theorem d_Wr_digit_4 : decode b_Wr_digit 4 = .ok (.iload_n 3, 1) := by decide +kernel
theorem d_Wr_digit_5 : decode b_Wr_digit 5 = .ok (.iload_n 1, 1) := by decide +kernel
theorem d_Wr_digit_6 : decode b_Wr_digit 6 = .ok (.if_icmp .ge 14, 3) := by decide +kernel
theorem d_Wr_digit_9 : decode b_Wr_digit 9 = .ok (.iload_n 2, 1) := by decide +kernel
theorem d_Wr_digit_10 : decode b_Wr_digit 10 = .ok (.bipush 10, 2) := by decide +kernel
theorem d_Wr_digit_12 : decode b_Wr_digit 12 = .ok (.idiv, 1) := by decide +kernel
theorem d_Wr_digit_13 : decode b_Wr_digit 13 = .ok (.istore_n 2, 1) := by decide +kernel
theorem d_Wr_digit_14 : decode b_Wr_digit 14 = .ok (.iinc 3 1, 3) := by decide +kernel
theorem d_Wr_digit_17 : decode b_Wr_digit 17 = .ok (.goto (-13), 3) := by decide +kernel
theorem d_Wr_digit_20 : decode b_Wr_digit 20 = .ok (.bipush 48, 2) := by decide +kernel
theorem d_Wr_digit_22 : decode b_Wr_digit 22 = .ok (.iload_n 2, 1) := by decide +kernel
theorem d_Wr_digit_23 : decode b_Wr_digit 23 = .ok (.bipush 10, 2) := by decide +kernel
theorem d_Wr_digit_25 : decode b_Wr_digit 25 = .ok (.irem, 1) := by decide +kernel
theorem d_Wr_digit_26 : decode b_Wr_digit 26 = .ok (.iadd, 1) := by decide +kernel
theorem d_Wr_digit_27 : decode b_Wr_digit 27 = .ok (.i2c, 1) := by decide +kernel
theorem d_Wr_digit_28 : decode b_Wr_digit 28 = .ok (.ireturn, 1) := by decide +kernel
def f_Wr_digit_14 (F4 : (Int32 → Int32 → Int32 → St → Int32)) (x1 : Int32) (x2 : Int32) (x3 : Int32) (σ : St) : Int32 := F4 x1 x2 (x3 + 1) σ
def k_Wr_digit_14 (K4 : (Int32 → Int32 → Int32 → St → Prop)) (x1 : Int32) (x2 : Int32) (x3 : Int32) (σ : St) : Prop := K4 x1 x2 (x3 + 1) σ
def f_Wr_digit_4 : Nat → Int32 → Int32 → Int32 → St → Int32
  | 0, _, _, _, σ => 0
  | n + 1, x1, x2, x3, σ => if x1 ≤ x3 then (((48 + (x2 - x2 / 10 * 10)).toUInt32 % 65536).toInt32) else (f_Wr_digit_14 (f_Wr_digit_4 n) x1 (x2 / 10) x3 σ)
def k_Wr_digit_4 : Nat → Int32 → Int32 → Int32 → St → Prop
  | 0, _, _, _, _ => False
  | n + 1, x1, x2, x3, σ => (x1 ≤ x3 → ((¬ (10 : Int32) = 0) ∧ ((narrow .char (.int (((48 + (x2 - x2 / 10 * 10)).toUInt32 % 65536).toInt32)) = .int (((48 + (x2 - x2 / 10 * 10)).toUInt32 % 65536).toInt32)) ∧ True))) ∧ (¬ x1 ≤ x3 → ((¬ (10 : Int32) = 0) ∧ (k_Wr_digit_14 (k_Wr_digit_4 n) x1 (x2 / 10) x3 σ)))
def f_Wr_digit (a0 : Int32) (a1 : Int32) (σ : St) : Int32 := f_Wr_digit_4 1000 a1 a0 0 σ
def k_Wr_digit (a0 : Int32) (a1 : Int32) (σ : St) : Prop := k_Wr_digit_4 1000 a1 a0 0 σ
abbrev w_Wr_digit : List Cond := Cond.code y_Wr_digit b_Wr_digit 4 (some .char) :: gw
abbrev rm_Wr_digit : Room := { frames := 0, cells := 0, slots := 0, locals := 0 }
set_option maxHeartbeats 4000000 in
set_option maxRecDepth 100000 in
theorem c_Wr_digit (l : Launch) (D : va_G) (ty : Nat → ClassId) (h : Nat → Nat) (px : va_W) (σ : St) (a0 : Int32) (a1 : Int32) (hk : k_Wr_digit a0 a1 σ) : Met l y_Wr_digit w_Wr_digit rm_Wr_digit (va_Pc [.int a0, .int a1] (fun U => va_P D classes (Wc ty h σ px) U.heap ∧ va_K D classes (Ta ty) U ∧ NW U)) (k2_QcV (.int (f_Wr_digit a0 a1 σ))) 0 0 (fun _ => False) := by
  refine Met.ofW (cc := b_Wr_digit) (maxL := 4) (ret := (some .char)) (by decide) rfl ?_
  intro p e s m args below meth c s₁ B hml hv
  obtain ⟨ha, hP, hK, hN⟩ := hv
  have hx := B.exec
  have hb := B.bytes
  have hr := B.returns
  have hg : ∀ w ∈ gw, w.before args s = true := fun w h9 => atoms_spec (ws := w_Wr_digit) B.pre w (List.mem_cons_of_mem _ h9)
  have hown : s.vm.findClass "ClauseLedger$Writer" = some m.cls := findClass_of_methodNamed B.named
  have hlocks := B.notSynchronized
  have he : entryFrame m args 4 = entryFrame m ([.int a0, .int a1] : List Value).toArray 4 := by rw [ha]
  rw [he, lg_entry_eq]
  have hl := lv_entry ([.int a0, .int a1]) (n := 4) (Nat.le_of_ble_eq_true rfl)
  generalize (lg_sl ([.int a0, .int a1]) ++ List.replicate (4 - (lg_sl ([.int a0, .int a1])).length) Slot.unset).toArray = ls at hl ⊢
  have hl : lv_has ls 4 [(0, .int a0), (1, .int a1)] := hl
  generalize hv : f_Wr_digit a0 a1 σ = v
  replace hv := hv.symm
  have B4 : ∀ (n4 : Nat) (ls : Array Slot) (x1 : Int32) (x2 : Int32) (x3 : Int32), v = f_Wr_digit_4 n4 x1 x2 x3 σ → k_Wr_digit_4 n4 x1 x2 x3 σ → lv_has ls 4 [(1, .int x1), (2, .int x2), (3, .int x3)] → W p l e (headSpec w_Wr_digit rm_Wr_digit).room s m args below meth c s.heap [] 0 0 (MQ below (k2_QcV (.int v)) args s 0 0 (fun _ => False)) (F0 m 4 ls []) := by
    intro n4
    induction n4 with
    | zero => intro ls x1 x2 x3 hv hk hl; exact hk.elim
    | succ n4 ih4 =>
      have B14 : ∀ (ls : Array Slot) (x1 : Int32) (x2 : Int32) (x3 : Int32), v = f_Wr_digit_14 (f_Wr_digit_4 n4) x1 x2 x3 σ → k_Wr_digit_14 (k_Wr_digit_4 n4) x1 x2 x3 σ → lv_has ls 4 [(1, .int x1), (2, .int x2), (3, .int x3)] → W p l e (headSpec w_Wr_digit rm_Wr_digit).room s m args below meth c s.heap [] 0 0 (MQ below (k2_QcV (.int v)) args s 0 0 (fun _ => False)) (F0 m 14 ls []) := by
        intro ls x1 x2 x3 hv hk hl
        unfold f_Wr_digit_14 at hv
        unfold k_Wr_digit_14 at hk
        refine lv_iinc (k := 2) (v := x3 + 1) (lv' := [(3, .int (x3 + 1)), (1, .int x1), (2, .int x2)]) hx hb d_Wr_digit_14 hl rfl (by first | rfl | simp [lit1, litm1]) (by decide) rfl (fun ls hl => ?_)
        refine lv_goto (tgt := 4) hx hb d_Wr_digit_17 (by decide) ?_
        exact ih4 _ x1 x2 (x3 + 1) hv hk (lv_sub hl [1, 2, 0] rfl)
      intro ls x1 x2 x3 hv hk hl
      rw [f_Wr_digit_4] at hv
      rw [k_Wr_digit_4] at hk
      refine lv_iload_n hx hb d_Wr_digit_4 rfl (lv_at hl 2 rfl) ?_
      refine lv_iload_n hx hb d_Wr_digit_5 rfl (lv_at hl 0 rfl) ?_
      refine lv_icmp_ge (tgt := 20) hx hb d_Wr_digit_6 (by decide) (fun hc => ?_) (fun hc => ?_)
      · have hv := hv.trans (if_pos hc)
        have hk := hk.1 hc
        refine lv_bipush (v := 48) hx hb d_Wr_digit_20 (by decide) ?_
        refine lv_iload_n hx hb d_Wr_digit_22 rfl (lv_at hl 1 rfl) ?_
        refine lv_bipush (v := 10) hx hb d_Wr_digit_23 (by decide) ?_
        obtain ⟨hk0, hk⟩ := hk
        refine lv_irem hx hb d_Wr_digit_25 hk0 ?_
        refine lv_iadd hx hb d_Wr_digit_26 ?_
        refine lv_i2c hx hb d_Wr_digit_27 rfl ?_
        obtain ⟨hk0, hk⟩ := hk
        exact W.zret hx hb hr hk0 (fun t ht hW => ⟨by rw [hv], ht⟩) (fun q h => nomatch h) d_Wr_digit_28
      · have hv := hv.trans (if_neg hc)
        have hk := hk.2 hc
        refine lv_iload_n hx hb d_Wr_digit_9 rfl (lv_at hl 1 rfl) ?_
        refine lv_bipush (v := 10) hx hb d_Wr_digit_10 (by decide) ?_
        obtain ⟨hk0, hk⟩ := hk
        refine lv_idiv hx hb d_Wr_digit_12 hk0 ?_
        refine lv_istore_n (lv' := [(2, .int (x2 / 10)), (1, .int x1), (3, .int x3)]) hx hb d_Wr_digit_13 rfl hl (by decide) rfl (fun ls hl => ?_)
        exact B14 _ x1 (x2 / 10) x3 hv hk (lv_sub hl [1, 0, 2] rfl)
  unfold f_Wr_digit at hv
  unfold k_Wr_digit at hk
  refine lv_iload_n hx hb d_Wr_digit_0 rfl (lv_at hl 0 rfl) ?_
  refine lv_istore_n (lv' := [(2, .int a0), (0, .int a0), (1, .int a1)]) hx hb d_Wr_digit_1 rfl hl (by decide) rfl (fun ls hl => ?_)
  refine lv_iconst (v := 0) hx hb d_Wr_digit_2 (by decide) ?_
  refine lv_istore_n (lv' := [(3, .int 0), (2, .int a0), (0, .int a0), (1, .int a1)]) hx hb d_Wr_digit_3 rfl hl (by decide) rfl (fun ls hl => ?_)
  exact B4 1000 _ a1 a0 0 hv hk (lv_sub hl [3, 1, 0] rfl)

-- ClauseLedger$Writer.letterOfConstant(III)C
abbrev b_Wr_letterOfConstant : ByteArray := prog_12_method_9_code
def y_Wr_letterOfConstant : MethodName := ⟨"ClauseLedger$Writer", "letterOfConstant", "(III)C"⟩
theorem hd_Wr_letterOfConstant : y_Wr_letterOfConstant.cls ≠ "java/lang/invoke/MethodHandle" ∧ y_Wr_letterOfConstant.cls ≠ "java/lang/invoke/VarHandle" ∧ (parseMethodDescriptor y_Wr_letterOfConstant.desc).map (fun d => d.parameters.length) = some 3 := by decide +kernel
theorem d_Wr_letterOfConstant_0 : decode b_Wr_letterOfConstant 0 = .ok (.iload_n 0, 1) := by decide +kernel
theorem d_Wr_letterOfConstant_1 : decode b_Wr_letterOfConstant 1 = .ok (.ifCond .ge 7, 3) := by decide +kernel
theorem d_Wr_letterOfConstant_4 : decode b_Wr_letterOfConstant 4 = .ok (.iconst 1, 1) := by decide +kernel
theorem d_Wr_letterOfConstant_5 : decode b_Wr_letterOfConstant 5 = .ok (.goto 4, 3) := by decide +kernel
theorem d_Wr_letterOfConstant_8 : decode b_Wr_letterOfConstant 8 = .ok (.iconst 0, 1) := by decide +kernel
theorem d_Wr_letterOfConstant_9 : decode b_Wr_letterOfConstant 9 = .ok (.istore_n 3, 1) := by decide +kernel
theorem d_Wr_letterOfConstant_10 : decode b_Wr_letterOfConstant 10 = .ok (.iload_n 2, 1) := by decide +kernel
theorem d_Wr_letterOfConstant_11 : decode b_Wr_letterOfConstant 11 = .ok (.iload_n 3, 1) := by decide +kernel
theorem d_Wr_letterOfConstant_12 : decode b_Wr_letterOfConstant 12 = .ok (.if_icmp .ge 6, 3) := by decide +kernel
theorem d_Wr_letterOfConstant_15 : decode b_Wr_letterOfConstant 15 = .ok (.bipush 45, 2) := by decide +kernel
theorem d_Wr_letterOfConstant_17 : decode b_Wr_letterOfConstant 17 = .ok (.ireturn, 1) := by decide +kernel
theorem d_Wr_letterOfConstant_18 : decode b_Wr_letterOfConstant 18 = .ok (.iload_n 0, 1) := by decide +kernel
theorem d_Wr_letterOfConstant_19 : decode b_Wr_letterOfConstant 19 = .ok (.invokestatic 19, 3) := by decide +kernel
theorem d_Wr_letterOfConstant_22 : decode b_Wr_letterOfConstant 22 = .ok (.invokestatic 24, 3) := by decide +kernel
theorem d_Wr_letterOfConstant_25 : decode b_Wr_letterOfConstant 25 = .ok (.istore 4, 2) := by decide +kernel
theorem d_Wr_letterOfConstant_27 : decode b_Wr_letterOfConstant 27 = .ok (.iload_n 2, 1) := by decide +kernel
theorem d_Wr_letterOfConstant_28 : decode b_Wr_letterOfConstant 28 = .ok (.iload_n 3, 1) := by decide +kernel
theorem d_Wr_letterOfConstant_29 : decode b_Wr_letterOfConstant 29 = .ok (.isub, 1) := by decide +kernel
theorem d_Wr_letterOfConstant_30 : decode b_Wr_letterOfConstant 30 = .ok (.istore 5, 2) := by decide +kernel
theorem d_Wr_letterOfConstant_32 : decode b_Wr_letterOfConstant 32 = .ok (.iload 5, 2) := by decide +kernel
theorem d_Wr_letterOfConstant_34 : decode b_Wr_letterOfConstant 34 = .ok (.iload 4, 2) := by decide +kernel
theorem d_Wr_letterOfConstant_36 : decode b_Wr_letterOfConstant 36 = .ok (.if_icmp .ge 18, 3) := by decide +kernel
theorem d_Wr_letterOfConstant_39 : decode b_Wr_letterOfConstant 39 = .ok (.iload_n 0, 1) := by decide +kernel
theorem d_Wr_letterOfConstant_40 : decode b_Wr_letterOfConstant 40 = .ok (.invokestatic 19, 3) := by decide +kernel
theorem d_Wr_letterOfConstant_43 : decode b_Wr_letterOfConstant 43 = .ok (.iload 4, 2) := by decide +kernel
theorem d_Wr_letterOfConstant_45 : decode b_Wr_letterOfConstant 45 = .ok (.iconst 1, 1) := by decide +kernel
theorem d_Wr_letterOfConstant_46 : decode b_Wr_letterOfConstant 46 = .ok (.isub, 1) := by decide +kernel
theorem d_Wr_letterOfConstant_47 : decode b_Wr_letterOfConstant 47 = .ok (.iload 5, 2) := by decide +kernel
theorem d_Wr_letterOfConstant_49 : decode b_Wr_letterOfConstant 49 = .ok (.isub, 1) := by decide +kernel
theorem d_Wr_letterOfConstant_50 : decode b_Wr_letterOfConstant 50 = .ok (.invokestatic 76, 3) := by decide +kernel
theorem d_Wr_letterOfConstant_53 : decode b_Wr_letterOfConstant 53 = .ok (.ireturn, 1) := by decide +kernel
theorem d_Wr_letterOfConstant_54 : decode b_Wr_letterOfConstant 54 = .ok (.iload 5, 2) := by decide +kernel
theorem d_Wr_letterOfConstant_56 : decode b_Wr_letterOfConstant 56 = .ok (.iload 4, 2) := by decide +kernel
theorem d_Wr_letterOfConstant_58 : decode b_Wr_letterOfConstant 58 = .ok (.if_icmp .ne 6, 3) := by decide +kernel
theorem d_Wr_letterOfConstant_61 : decode b_Wr_letterOfConstant 61 = .ok (.bipush 47, 2) := by decide +kernel
theorem d_Wr_letterOfConstant_63 : decode b_Wr_letterOfConstant 63 = .ok (.ireturn, 1) := by decide +kernel
theorem d_Wr_letterOfConstant_64 : decode b_Wr_letterOfConstant 64 = .ok (.iload_n 1, 1) := by decide +kernel
theorem d_Wr_letterOfConstant_65 : decode b_Wr_letterOfConstant 65 = .ok (.iload_n 1, 1) := by decide +kernel
theorem d_Wr_letterOfConstant_66 : decode b_Wr_letterOfConstant 66 = .ok (.invokestatic 24, 3) := by decide +kernel
theorem d_Wr_letterOfConstant_69 : decode b_Wr_letterOfConstant 69 = .ok (.iconst 1, 1) := by decide +kernel
theorem d_Wr_letterOfConstant_70 : decode b_Wr_letterOfConstant 70 = .ok (.isub, 1) := by decide +kernel
theorem d_Wr_letterOfConstant_71 : decode b_Wr_letterOfConstant 71 = .ok (.iload 5, 2) := by decide +kernel
theorem d_Wr_letterOfConstant_73 : decode b_Wr_letterOfConstant 73 = .ok (.iload 4, 2) := by decide +kernel
theorem d_Wr_letterOfConstant_75 : decode b_Wr_letterOfConstant 75 = .ok (.isub, 1) := by decide +kernel
theorem d_Wr_letterOfConstant_76 : decode b_Wr_letterOfConstant 76 = .ok (.iconst 1, 1) := by decide +kernel
theorem d_Wr_letterOfConstant_77 : decode b_Wr_letterOfConstant 77 = .ok (.isub, 1) := by decide +kernel
theorem d_Wr_letterOfConstant_78 : decode b_Wr_letterOfConstant 78 = .ok (.isub, 1) := by decide +kernel
theorem d_Wr_letterOfConstant_79 : decode b_Wr_letterOfConstant 79 = .ok (.invokestatic 76, 3) := by decide +kernel
theorem d_Wr_letterOfConstant_82 : decode b_Wr_letterOfConstant 82 = .ok (.ireturn, 1) := by decide +kernel
def f_Wr_letterOfConstant_32 (x0 : Int32) (x1 : Int32) (x4 : Int32) (x5 : Int32) (σ : St) : Int32 := if x4 ≤ x5 then (if x5 = x4 then 47 else (f_Wr_digit x1 (((f_Wr_digitsOf x1 σ) - 1) - ((x5 - x4) - 1)) σ)) else (f_Wr_digit (if 0 ≤ x0 then x0 else 0 - x0) ((x4 - 1) - x5) σ)
def k_Wr_letterOfConstant_32 (x0 : Int32) (x1 : Int32) (x4 : Int32) (x5 : Int32) (σ : St) : Prop := (x4 ≤ x5 → ((x5 = x4 → ((narrow .char (.int 47) = .int 47) ∧ True)) ∧ (¬ x5 = x4 → ((k_Wr_digitsOf x1 σ) ∧ ((k_Wr_digit x1 (((f_Wr_digitsOf x1 σ) - 1) - ((x5 - x4) - 1)) σ) ∧ ((narrow .char (.int (f_Wr_digit x1 (((f_Wr_digitsOf x1 σ) - 1) - ((x5 - x4) - 1)) σ)) = .int (f_Wr_digit x1 (((f_Wr_digitsOf x1 σ) - 1) - ((x5 - x4) - 1)) σ)) ∧ True)))))) ∧ (¬ x4 ≤ x5 → ((k_Wr_digit (if 0 ≤ x0 then x0 else 0 - x0) ((x4 - 1) - x5) σ) ∧ ((narrow .char (.int (f_Wr_digit (if 0 ≤ x0 then x0 else 0 - x0) ((x4 - 1) - x5) σ)) = .int (f_Wr_digit (if 0 ≤ x0 then x0 else 0 - x0) ((x4 - 1) - x5) σ)) ∧ True)))
def f_Wr_letterOfConstant_27 (x0 : Int32) (x1 : Int32) (x2 : Int32) (x3 : Int32) (x4 : Int32) (σ : St) : Int32 := f_Wr_letterOfConstant_32 x0 x1 x4 (x2 - x3) σ
def k_Wr_letterOfConstant_27 (x0 : Int32) (x1 : Int32) (x2 : Int32) (x3 : Int32) (x4 : Int32) (σ : St) : Prop := k_Wr_letterOfConstant_32 x0 x1 x4 (x2 - x3) σ
def f_Wr_letterOfConstant_9 (x0 : Int32) (x1 : Int32) (x2 : Int32) (s0 : Int32) (σ : St) : Int32 := if s0 ≤ x2 then (f_Wr_letterOfConstant_27 x0 x1 x2 s0 (f_Wr_digitsOf (if 0 ≤ x0 then x0 else 0 - x0) σ) σ) else 45
def k_Wr_letterOfConstant_9 (x0 : Int32) (x1 : Int32) (x2 : Int32) (s0 : Int32) (σ : St) : Prop := (s0 ≤ x2 → ((k_Wr_digitsOf (if 0 ≤ x0 then x0 else 0 - x0) σ) ∧ (k_Wr_letterOfConstant_27 x0 x1 x2 s0 (f_Wr_digitsOf (if 0 ≤ x0 then x0 else 0 - x0) σ) σ))) ∧ (¬ s0 ≤ x2 → ((narrow .char (.int 45) = .int 45) ∧ True))
def f_Wr_letterOfConstant (a0 : Int32) (a1 : Int32) (a2 : Int32) (σ : St) : Int32 := if 0 ≤ a0 then (f_Wr_letterOfConstant_9 a0 a1 a2 0 σ) else (f_Wr_letterOfConstant_9 a0 a1 a2 1 σ)
def k_Wr_letterOfConstant (a0 : Int32) (a1 : Int32) (a2 : Int32) (σ : St) : Prop := (0 ≤ a0 → (k_Wr_letterOfConstant_9 a0 a1 a2 0 σ)) ∧ (¬ 0 ≤ a0 → (k_Wr_letterOfConstant_9 a0 a1 a2 1 σ))
abbrev w_Wr_letterOfConstant : List Cond := Cond.code y_Wr_letterOfConstant b_Wr_letterOfConstant 6 (some .char) :: gw
abbrev rm_Wr_letterOfConstant : Room := { frames := 1, cells := 0, slots := 0, locals := 23 }
set_option maxHeartbeats 4000000 in
set_option maxRecDepth 100000 in
theorem c_Wr_letterOfConstant (l : Launch) (D : va_G) (ty : Nat → ClassId) (h : Nat → Nat) (px : va_W) (σ : St) (a0 : Int32) (a1 : Int32) (a2 : Int32) (hk : k_Wr_letterOfConstant a0 a1 a2 σ) : Met l y_Wr_letterOfConstant w_Wr_letterOfConstant rm_Wr_letterOfConstant (va_Pc [.int a0, .int a1, .int a2] (fun U => va_P D classes (Wc ty h σ px) U.heap ∧ va_K D classes (Ta ty) U ∧ NW U)) (k2_QcV (.int (f_Wr_letterOfConstant a0 a1 a2 σ))) 0 0 (fun _ => False) := by
  refine Met.ofW (cc := b_Wr_letterOfConstant) (maxL := 6) (ret := (some .char)) (by decide) rfl ?_
  intro p e s m args below meth c s₁ B hml hv
  obtain ⟨ha, hP, hK, hN⟩ := hv
  have hx := B.exec
  have hb := B.bytes
  have hr := B.returns
  have hg : ∀ w ∈ gw, w.before args s = true := fun w h9 => atoms_spec (ws := w_Wr_letterOfConstant) B.pre w (List.mem_cons_of_mem _ h9)
  have hown : s.vm.findClass "ClauseLedger$Writer" = some m.cls := findClass_of_methodNamed B.named
  have hlocks := B.notSynchronized
  have he : entryFrame m args 6 = entryFrame m ([.int a0, .int a1, .int a2] : List Value).toArray 6 := by rw [ha]
  rw [he, lg_entry_eq]
  have hl := lv_entry ([.int a0, .int a1, .int a2]) (n := 6) (Nat.le_of_ble_eq_true rfl)
  generalize (lg_sl ([.int a0, .int a1, .int a2]) ++ List.replicate (6 - (lg_sl ([.int a0, .int a1, .int a2])).length) Slot.unset).toArray = ls at hl ⊢
  have hl : lv_has ls 6 [(0, .int a0), (1, .int a1), (2, .int a2)] := hl
  generalize hv : f_Wr_letterOfConstant a0 a1 a2 σ = v
  replace hv := hv.symm
  have B32 : ∀ (ls : Array Slot) (x0 : Int32) (x1 : Int32) (x4 : Int32) (x5 : Int32), v = f_Wr_letterOfConstant_32 x0 x1 x4 x5 σ → k_Wr_letterOfConstant_32 x0 x1 x4 x5 σ → lv_has ls 6 [(0, .int x0), (1, .int x1), (4, .int x4), (5, .int x5)] → W p l e (headSpec w_Wr_letterOfConstant rm_Wr_letterOfConstant).room s m args below meth c s.heap [] 0 0 (MQ below (k2_QcV (.int v)) args s 0 0 (fun _ => False)) (F0 m 32 ls []) := by
    intro ls x0 x1 x4 x5 hv hk hl
    unfold f_Wr_letterOfConstant_32 at hv
    unfold k_Wr_letterOfConstant_32 at hk
    refine lv_iload hx hb d_Wr_letterOfConstant_32 (lv_at hl 3 rfl) ?_
    refine lv_iload hx hb d_Wr_letterOfConstant_34 (lv_at hl 2 rfl) ?_
    refine lv_icmp_ge (tgt := 54) hx hb d_Wr_letterOfConstant_36 (by decide) (fun hc => ?_) (fun hc => ?_)
    · have hv := hv.trans (if_pos hc)
      have hk := hk.1 hc
      refine lv_iload hx hb d_Wr_letterOfConstant_54 (lv_at hl 3 rfl) ?_
      refine lv_iload hx hb d_Wr_letterOfConstant_56 (lv_at hl 2 rfl) ?_
      refine lv_icmp_ne (tgt := 64) hx hb d_Wr_letterOfConstant_58 (by decide) (fun hc => ?_) (fun hc => ?_)
      · have hv := hv.trans (if_neg hc)
        have hk := hk.2 hc
        refine lv_iload_n hx hb d_Wr_letterOfConstant_64 rfl (lv_at hl 1 rfl) ?_
        refine lv_iload_n hx hb d_Wr_letterOfConstant_65 rfl (lv_at hl 1 rfl) ?_
        obtain ⟨hk0, hk⟩ := hk
        refine zz_callV (va_runS (As := [.int x1]) (rest := [.int x1]) ⟨hx, hb, hml, hown, hg⟩ (c_Wr_digitsOf l D ty h px σ x1 hk0) ⟨callB_of 1 hg (gw_C m_553) rfl rfl rfl (hg _ m_6) (hg _ m_551) hd_Wr_digitsOf ⟨Nat.le_of_ble_eq_true rfl, Nat.le_of_ble_eq_true rfl⟩, hg _ m_552⟩ (zz_preS hN hK hP) rfl rfl hl.1 rfl (lv_room (Nat.le_of_ble_eq_true rfl)) d_Wr_letterOfConstant_66 ⟨Nat.le_of_ble_eq_true rfl, Nat.le_of_ble_eq_true rfl⟩) ?_
        refine lv_iconst (v := 1) hx hb d_Wr_letterOfConstant_69 (by decide) ?_
        refine lv_isub hx hb d_Wr_letterOfConstant_70 ?_
        refine lv_iload hx hb d_Wr_letterOfConstant_71 (lv_at hl 3 rfl) ?_
        refine lv_iload hx hb d_Wr_letterOfConstant_73 (lv_at hl 2 rfl) ?_
        refine lv_isub hx hb d_Wr_letterOfConstant_75 ?_
        refine lv_iconst (v := 1) hx hb d_Wr_letterOfConstant_76 (by decide) ?_
        refine lv_isub hx hb d_Wr_letterOfConstant_77 ?_
        refine lv_isub hx hb d_Wr_letterOfConstant_78 ?_
        obtain ⟨hk0, hk⟩ := hk
        refine zz_callV (va_runS (As := [.int x1, .int (((f_Wr_digitsOf x1 σ) - 1) - ((x5 - x4) - 1))]) (rest := []) ⟨hx, hb, hml, hown, hg⟩ (c_Wr_digit l D ty h px σ x1 (((f_Wr_digitsOf x1 σ) - 1) - ((x5 - x4) - 1)) hk0) ⟨callB_of 2 hg (gw_C m_556) rfl rfl rfl (hg _ m_6) (hg _ m_554) hd_Wr_digit ⟨Nat.le_of_ble_eq_true rfl, Nat.le_of_ble_eq_true rfl⟩, hg _ m_555⟩ (zz_preS hN hK hP) rfl rfl hl.1 rfl (lv_room (Nat.le_of_ble_eq_true rfl)) d_Wr_letterOfConstant_79 ⟨Nat.le_of_ble_eq_true rfl, Nat.le_of_ble_eq_true rfl⟩) ?_
        obtain ⟨hk0, hk⟩ := hk
        exact W.zret hx hb hr hk0 (fun t ht hW => ⟨by rw [hv], ht⟩) (fun q h => nomatch h) d_Wr_letterOfConstant_82
      · have hv := hv.trans (if_pos hc)
        have hk := hk.1 hc
        refine lv_bipush (v := 47) hx hb d_Wr_letterOfConstant_61 (by decide) ?_
        obtain ⟨hk0, hk⟩ := hk
        exact W.zret hx hb hr hk0 (fun t ht hW => ⟨by rw [hv], ht⟩) (fun q h => nomatch h) d_Wr_letterOfConstant_63
    · have hv := hv.trans (if_neg hc)
      have hk := hk.2 hc
      refine lv_iload_n hx hb d_Wr_letterOfConstant_39 rfl (lv_at hl 0 rfl) ?_
      refine va_mabs hx hb (hml.trans hl.1.symm) hown (hg _ m_548) (hg _ m_549) (hg _ m_14) (hg _ m_550) (Nat.le_of_ble_eq_true rfl) (Nat.le_of_ble_eq_true rfl) (Nat.le_of_ble_eq_true rfl) (Nat.le_of_ble_eq_true rfl) d_Wr_letterOfConstant_40 ?_
      refine lv_iload hx hb d_Wr_letterOfConstant_43 (lv_at hl 2 rfl) ?_
      refine lv_iconst (v := 1) hx hb d_Wr_letterOfConstant_45 (by decide) ?_
      refine lv_isub hx hb d_Wr_letterOfConstant_46 ?_
      refine lv_iload hx hb d_Wr_letterOfConstant_47 (lv_at hl 3 rfl) ?_
      refine lv_isub hx hb d_Wr_letterOfConstant_49 ?_
      obtain ⟨hk0, hk⟩ := hk
      refine zz_callV (va_runS (As := [.int (if 0 ≤ x0 then x0 else 0 - x0), .int ((x4 - 1) - x5)]) (rest := []) ⟨hx, hb, hml, hown, hg⟩ (c_Wr_digit l D ty h px σ (if 0 ≤ x0 then x0 else 0 - x0) ((x4 - 1) - x5) hk0) ⟨callB_of 2 hg (gw_C m_556) rfl rfl rfl (hg _ m_6) (hg _ m_554) hd_Wr_digit ⟨Nat.le_of_ble_eq_true rfl, Nat.le_of_ble_eq_true rfl⟩, hg _ m_555⟩ (zz_preS hN hK hP) rfl rfl hl.1 rfl (lv_room (Nat.le_of_ble_eq_true rfl)) d_Wr_letterOfConstant_50 ⟨Nat.le_of_ble_eq_true rfl, Nat.le_of_ble_eq_true rfl⟩) ?_
      obtain ⟨hk0, hk⟩ := hk
      exact W.zret hx hb hr hk0 (fun t ht hW => ⟨by rw [hv], ht⟩) (fun q h => nomatch h) d_Wr_letterOfConstant_53
  have B27 : ∀ (ls : Array Slot) (x0 : Int32) (x1 : Int32) (x2 : Int32) (x3 : Int32) (x4 : Int32), v = f_Wr_letterOfConstant_27 x0 x1 x2 x3 x4 σ → k_Wr_letterOfConstant_27 x0 x1 x2 x3 x4 σ → lv_has ls 6 [(0, .int x0), (1, .int x1), (2, .int x2), (3, .int x3), (4, .int x4)] → W p l e (headSpec w_Wr_letterOfConstant rm_Wr_letterOfConstant).room s m args below meth c s.heap [] 0 0 (MQ below (k2_QcV (.int v)) args s 0 0 (fun _ => False)) (F0 m 27 ls []) := by
    intro ls x0 x1 x2 x3 x4 hv hk hl
    unfold f_Wr_letterOfConstant_27 at hv
    unfold k_Wr_letterOfConstant_27 at hk
    refine lv_iload_n hx hb d_Wr_letterOfConstant_27 rfl (lv_at hl 2 rfl) ?_
    refine lv_iload_n hx hb d_Wr_letterOfConstant_28 rfl (lv_at hl 3 rfl) ?_
    refine lv_isub hx hb d_Wr_letterOfConstant_29 ?_
    refine lv_istore (lv' := [(5, .int (x2 - x3)), (0, .int x0), (1, .int x1), (2, .int x2), (3, .int x3), (4, .int x4)]) hx hb d_Wr_letterOfConstant_30 hl (by decide) rfl (fun ls hl => ?_)
    exact B32 _ x0 x1 x4 (x2 - x3) hv hk (lv_sub hl [1, 2, 5, 0] rfl)
  have B9 : ∀ (ls : Array Slot) (x0 : Int32) (x1 : Int32) (x2 : Int32) (s0 : Int32), v = f_Wr_letterOfConstant_9 x0 x1 x2 s0 σ → k_Wr_letterOfConstant_9 x0 x1 x2 s0 σ → lv_has ls 6 [(0, .int x0), (1, .int x1), (2, .int x2)] → W p l e (headSpec w_Wr_letterOfConstant rm_Wr_letterOfConstant).room s m args below meth c s.heap [] 0 0 (MQ below (k2_QcV (.int v)) args s 0 0 (fun _ => False)) (F0 m 9 ls [.int s0]) := by
    intro ls x0 x1 x2 s0 hv hk hl
    unfold f_Wr_letterOfConstant_9 at hv
    unfold k_Wr_letterOfConstant_9 at hk
    refine lv_istore_n (lv' := [(3, .int s0), (0, .int x0), (1, .int x1), (2, .int x2)]) hx hb d_Wr_letterOfConstant_9 rfl hl (by decide) rfl (fun ls hl => ?_)
    refine lv_iload_n hx hb d_Wr_letterOfConstant_10 rfl (lv_at hl 3 rfl) ?_
    refine lv_iload_n hx hb d_Wr_letterOfConstant_11 rfl (lv_at hl 0 rfl) ?_
    refine lv_icmp_ge (tgt := 18) hx hb d_Wr_letterOfConstant_12 (by decide) (fun hc => ?_) (fun hc => ?_)
    · have hv := hv.trans (if_pos hc)
      have hk := hk.1 hc
      refine lv_iload_n hx hb d_Wr_letterOfConstant_18 rfl (lv_at hl 1 rfl) ?_
      refine va_mabs hx hb (hml.trans hl.1.symm) hown (hg _ m_548) (hg _ m_549) (hg _ m_14) (hg _ m_550) (Nat.le_of_ble_eq_true rfl) (Nat.le_of_ble_eq_true rfl) (Nat.le_of_ble_eq_true rfl) (Nat.le_of_ble_eq_true rfl) d_Wr_letterOfConstant_19 ?_
      obtain ⟨hk0, hk⟩ := hk
      refine zz_callV (va_runS (As := [.int (if 0 ≤ x0 then x0 else 0 - x0)]) (rest := []) ⟨hx, hb, hml, hown, hg⟩ (c_Wr_digitsOf l D ty h px σ (if 0 ≤ x0 then x0 else 0 - x0) hk0) ⟨callB_of 1 hg (gw_C m_553) rfl rfl rfl (hg _ m_6) (hg _ m_551) hd_Wr_digitsOf ⟨Nat.le_of_ble_eq_true rfl, Nat.le_of_ble_eq_true rfl⟩, hg _ m_552⟩ (zz_preS hN hK hP) rfl rfl hl.1 rfl (lv_room (Nat.le_of_ble_eq_true rfl)) d_Wr_letterOfConstant_22 ⟨Nat.le_of_ble_eq_true rfl, Nat.le_of_ble_eq_true rfl⟩) ?_
      refine lv_istore (lv' := [(4, .int (f_Wr_digitsOf (if 0 ≤ x0 then x0 else 0 - x0) σ)), (3, .int s0), (0, .int x0), (1, .int x1), (2, .int x2)]) hx hb d_Wr_letterOfConstant_25 hl (by decide) rfl (fun ls hl => ?_)
      exact B27 _ x0 x1 x2 s0 (f_Wr_digitsOf (if 0 ≤ x0 then x0 else 0 - x0) σ) hv hk (lv_sub hl [2, 3, 4, 1, 0] rfl)
    · have hv := hv.trans (if_neg hc)
      have hk := hk.2 hc
      refine lv_bipush (v := 45) hx hb d_Wr_letterOfConstant_15 (by decide) ?_
      obtain ⟨hk0, hk⟩ := hk
      exact W.zret hx hb hr hk0 (fun t ht hW => ⟨by rw [hv], ht⟩) (fun q h => nomatch h) d_Wr_letterOfConstant_17
  unfold f_Wr_letterOfConstant at hv
  unfold k_Wr_letterOfConstant at hk
  refine lv_iload_n hx hb d_Wr_letterOfConstant_0 rfl (lv_at hl 0 rfl) ?_
  refine lv_if_ge (tgt := 8) hx hb d_Wr_letterOfConstant_1 (by decide) (fun hc => ?_) (fun hc => ?_)
  · have hv := hv.trans (if_pos hc)
    have hk := hk.1 hc
    refine lv_iconst (v := 0) hx hb d_Wr_letterOfConstant_8 (by decide) ?_
    exact B9 _ a0 a1 a2 0 hv hk (lv_sub hl [0, 1, 2] rfl)
  · have hv := hv.trans (if_neg hc)
    have hk := hk.2 hc
    refine lv_iconst (v := 1) hx hb d_Wr_letterOfConstant_4 (by decide) ?_
    refine lv_goto (tgt := 9) hx hb d_Wr_letterOfConstant_5 (by decide) ?_
    exact B9 _ a0 a1 a2 1 hv hk (lv_sub hl [0, 1, 2] rfl)

