-- ClauseLedgerModel.term()I
abbrev b_Mo_term : ByteArray := prog_14_method_30_code
def y_Mo_term : MethodName := ⟨"ClauseLedgerModel", "term", "()I"⟩
theorem hd_Mo_term : y_Mo_term.cls ≠ "java/lang/invoke/MethodHandle" ∧ y_Mo_term.cls ≠ "java/lang/invoke/VarHandle" ∧ (parseMethodDescriptor y_Mo_term.desc).map (fun d => d.parameters.length) = some 0 := by decide +kernel
theorem d_Mo_term_0 : decode b_Mo_term 0 = .ok (.aload_n 0, 1) := by decide +kernel
theorem d_Mo_term_1 : decode b_Mo_term 1 = .ok (.invokevirtual 201, 3) := by decide +kernel
theorem d_Mo_term_4 : decode b_Mo_term 4 = .ok (.ifCond .eq 5, 3) := by decide +kernel
theorem d_Mo_term_7 : decode b_Mo_term 7 = .ok (.iconst (-1), 1) := by decide +kernel
theorem d_Mo_term_8 : decode b_Mo_term 8 = .ok (.ireturn, 1) := by decide +kernel
theorem d_Mo_term_9 : decode b_Mo_term 9 = .ok (.aload_n 0, 1) := by decide +kernel
theorem d_Mo_term_10 : decode b_Mo_term 10 = .ok (.iconst 0, 1) := by decide +kernel
theorem d_Mo_term_11 : decode b_Mo_term 11 = .ok (.putfield 149, 3) := by decide +kernel
theorem d_Mo_term_14 : decode b_Mo_term 14 = .ok (.aload_n 0, 1) := by decide +kernel
theorem d_Mo_term_15 : decode b_Mo_term 15 = .ok (.iconst 0, 1) := by decide +kernel
theorem d_Mo_term_16 : decode b_Mo_term 16 = .ok (.putfield 163, 3) := by decide +kernel
theorem d_Mo_term_19 : decode b_Mo_term 19 = .ok (.aload_n 0, 1) := by decide +kernel
theorem d_Mo_term_20 : decode b_Mo_term 20 = .ok (.iconst 0, 1) := by decide +kernel
theorem d_Mo_term_21 : decode b_Mo_term 21 = .ok (.putfield 173, 3) := by decide +kernel
theorem d_Mo_term_24 : decode b_Mo_term 24 = .ok (.aload_n 0, 1) := by decide +kernel
theorem d_Mo_term_25 : decode b_Mo_term 25 = .ok (.invokevirtual 204, 3) := by decide +kernel
theorem d_Mo_term_28 : decode b_Mo_term 28 = .ok (.istore_n 1, 1) := by decide +kernel
theorem d_Mo_term_29 : decode b_Mo_term 29 = .ok (.aload_n 0, 1) := by decide +kernel
theorem d_Mo_term_30 : decode b_Mo_term 30 = .ok (.iconst 0, 1) := by decide +kernel
theorem d_Mo_term_31 : decode b_Mo_term 31 = .ok (.putfield 146, 3) := by decide +kernel
theorem d_Mo_term_34 : decode b_Mo_term 34 = .ok (.sipush 1074, 3) := by decide +kernel
theorem d_Mo_term_37 : decode b_Mo_term 37 = .ok (.istore_n 2, 1) := by decide +kernel
theorem d_Mo_term_38 : decode b_Mo_term 38 = .ok (.aload_n 0, 1) := by decide +kernel
theorem d_Mo_term_39 : decode b_Mo_term 39 = .ok (.getfield 163, 3) := by decide +kernel
theorem d_Mo_term_42 : decode b_Mo_term 42 = .ok (.ifCond .eq 10, 3) := by decide +kernel
theorem d_Mo_term_45 : decode b_Mo_term 45 = .ok (.aload_n 0, 1) := by decide +kernel
theorem d_Mo_term_46 : decode b_Mo_term 46 = .ok (.iconst 2, 1) := by decide +kernel
theorem d_Mo_term_47 : decode b_Mo_term 47 = .ok (.iload_n 2, 1) := by decide +kernel
theorem d_Mo_term_48 : decode b_Mo_term 48 = .ok (.invokevirtual 133, 3) := by decide +kernel
theorem d_Mo_term_51 : decode b_Mo_term 51 = .ok (.ireturn, 1) := by decide +kernel
theorem d_Mo_term_52 : decode b_Mo_term 52 = .ok (.aload_n 0, 1) := by decide +kernel
theorem d_Mo_term_53 : decode b_Mo_term 53 = .ok (.invokevirtual 129, 3) := by decide +kernel
theorem d_Mo_term_56 : decode b_Mo_term 56 = .ok (.ifCond .eq 10, 3) := by decide +kernel
theorem d_Mo_term_59 : decode b_Mo_term 59 = .ok (.aload_n 0, 1) := by decide +kernel
theorem d_Mo_term_60 : decode b_Mo_term 60 = .ok (.iconst 3, 1) := by decide +kernel
theorem d_Mo_term_61 : decode b_Mo_term 61 = .ok (.iload_n 2, 1) := by decide +kernel
theorem d_Mo_term_62 : decode b_Mo_term 62 = .ok (.invokevirtual 133, 3) := by decide +kernel
theorem d_Mo_term_65 : decode b_Mo_term 65 = .ok (.ireturn, 1) := by decide +kernel
theorem d_Mo_term_66 : decode b_Mo_term 66 = .ok (.aload_n 0, 1) := by decide +kernel
theorem d_Mo_term_67 : decode b_Mo_term 67 = .ok (.getfield 109, 3) := by decide +kernel
theorem d_Mo_term_70 : decode b_Mo_term 70 = .ok (.bipush 100, 2) := by decide +kernel
theorem d_Mo_term_72 : decode b_Mo_term 72 = .ok (.if_icmp .le 10, 3) := by decide +kernel
theorem d_Mo_term_75 : decode b_Mo_term 75 = .ok (.aload_n 0, 1) := by decide +kernel
theorem d_Mo_term_76 : decode b_Mo_term 76 = .ok (.iconst 4, 1) := by decide +kernel
theorem d_Mo_term_77 : decode b_Mo_term 77 = .ok (.iload_n 2, 1) := by decide +kernel
theorem d_Mo_term_78 : decode b_Mo_term 78 = .ok (.invokevirtual 133, 3) := by decide +kernel
theorem d_Mo_term_81 : decode b_Mo_term 81 = .ok (.ireturn, 1) := by decide +kernel
theorem d_Mo_term_82 : decode b_Mo_term 82 = .ok (.iload_n 1, 1) := by decide +kernel
theorem d_Mo_term_83 : decode b_Mo_term 83 = .ok (.ireturn, 1) := by decide +kernel
def f_Mo_term_51 (s0 : Int32) (σ : St) : Int32 × St := (s0, σ)
def k_Mo_term_51 (s0 : Int32) (σ : St) : Prop := True
def f_Mo_term_65 (s0 : Int32) (σ : St) : Int32 × St := (s0, σ)
def k_Mo_term_65 (s0 : Int32) (σ : St) : Prop := True
def f_Mo_term_81 (s0 : Int32) (σ : St) : Int32 × St := (s0, σ)
def k_Mo_term_81 (s0 : Int32) (σ : St) : Prop := True
def f_Mo_term_34 (x1 : Int32) (σ : St) : Int32 × St := if (σ.1 0 33) = 0 then (if (f_Mo_tooDeep σ) = 0 then (if (σ.1 0 8) ≤ 100 then (x1, σ) else (f_Mo_term_81 ((f_Mo_fails 4 1074 σ).1) ((f_Mo_fails 4 1074 σ).2))) else (f_Mo_term_65 ((f_Mo_fails 3 1074 σ).1) ((f_Mo_fails 3 1074 σ).2))) else (f_Mo_term_51 ((f_Mo_fails 2 1074 σ).1) ((f_Mo_fails 2 1074 σ).2))
def k_Mo_term_34 (x1 : Int32) (σ : St) : Prop := ((σ.1 0 33) = 0 → ((k_Mo_tooDeep σ) ∧ (((f_Mo_tooDeep σ) = 0 → (((σ.1 0 8) ≤ 100 → True) ∧ (¬ (σ.1 0 8) ≤ 100 → ((k_Mo_fails 4 1074 σ) ∧ (k_Mo_term_81 ((f_Mo_fails 4 1074 σ).1) ((f_Mo_fails 4 1074 σ).2)))))) ∧ (¬ (f_Mo_tooDeep σ) = 0 → ((k_Mo_fails 3 1074 σ) ∧ (k_Mo_term_65 ((f_Mo_fails 3 1074 σ).1) ((f_Mo_fails 3 1074 σ).2))))))) ∧ (¬ (σ.1 0 33) = 0 → ((k_Mo_fails 2 1074 σ) ∧ (k_Mo_term_51 ((f_Mo_fails 2 1074 σ).1) ((f_Mo_fails 2 1074 σ).2))))
def f_Mo_term_28 (s0 : Int32) (σ : St) : Int32 × St := f_Mo_term_34 s0 (sF σ 0 30 0)
def k_Mo_term_28 (s0 : Int32) (σ : St) : Prop := k_Mo_term_34 s0 (sF σ 0 30 0)
def f_Mo_term_24 (σ : St) : Int32 × St := f_Mo_term_28 ((f_Mo_readAll σ).1) ((f_Mo_readAll σ).2)
def k_Mo_term_24 (σ : St) : Prop := (k_Mo_readAll σ) ∧ (k_Mo_term_28 ((f_Mo_readAll σ).1) ((f_Mo_readAll σ).2))
def f_Mo_term_19 (σ : St) : Int32 × St := f_Mo_term_24 (sF σ 0 34 0)
def k_Mo_term_19 (σ : St) : Prop := k_Mo_term_24 (sF σ 0 34 0)
def f_Mo_term_14 (σ : St) : Int32 × St := f_Mo_term_19 (sF σ 0 33 0)
def k_Mo_term_14 (σ : St) : Prop := k_Mo_term_19 (sF σ 0 33 0)
def f_Mo_term_4 (s0 : Int32) (σ : St) : Int32 × St := if s0 = 0 then (f_Mo_term_14 (sF σ 0 32 0)) else ((-1), σ)
def k_Mo_term_4 (s0 : Int32) (σ : St) : Prop := (s0 = 0 → (k_Mo_term_14 (sF σ 0 32 0))) ∧ (¬ s0 = 0 → True)
def f_Mo_term (σ : St) : Int32 × St := f_Mo_term_4 ((f_Mo_begin σ).1) ((f_Mo_begin σ).2)
def k_Mo_term (σ : St) : Prop := (k_Mo_begin σ) ∧ (k_Mo_term_4 ((f_Mo_begin σ).1) ((f_Mo_begin σ).2))
abbrev w_Mo_term : List Cond := Cond.code y_Mo_term b_Mo_term 3 (some .int) :: gw
abbrev rm_Mo_term : Room := { frames := 5, cells := 0, slots := 0, locals := 110 }
set_option maxHeartbeats 4000000 in
set_option maxRecDepth 100000 in
theorem c_Mo_term (l : Launch) (D : va_G) (ty : Nat → ClassId) (h : Nat → Nat) (px : va_W) (sa : Nat → Nat) (σ : St) (sz : Nat) (hk : k_Mo_term σ) : Met l y_Mo_term w_Mo_term rm_Mo_term (va_Pc [.ref (h 0)] (fun U => U.heap.size = sz ∧ va_P D classes (Wm ty h σ px) U.heap ∧ va_K D classes (Ta ty) U ∧ NW U ∧ MK sa (va_A (Wm ty h σ px) sz) U U.heap ∧ va_D (fun _ => True) (Wm ty h σ px))) (va_Qi (fun r (u : St) => (r, u) = f_Mo_term σ) (fun u t => va_P D classes (Wm ty h u px) t.heap) (va_A (Wm ty h σ px) sz)) 0 0 (va_A (Wm ty h σ px) sz) := by
  refine Met.ofW (cc := b_Mo_term) (maxL := 3) (ret := (some .int)) (by decide) rfl ?_
  intro p e s m args below meth c s₁ B hml hv
  obtain ⟨ha, hsz, hP, hK, hN, hM, hD0⟩ := hv
  have hx := B.exec
  have hb := B.bytes
  have hr := B.returns
  have hg : ∀ w ∈ gw, w.before args s = true := fun w h9 => atoms_spec (ws := w_Mo_term) B.pre w (List.mem_cons_of_mem _ h9)
  have hown : s.vm.findClass "ClauseLedgerModel" = some m.cls := findClass_of_methodNamed B.named
  have hlocks := B.notSynchronized
  subst hsz
  have hD := hD0.self (sz := s.heap.size)
  generalize hAe : va_A (Wm ty h σ px) s.heap.size = A at hD hM ⊢
  have hA : ∀ q : Nat, s.heap.size ≤ q → A q := fun q h9 => by rw [← hAe]; exact Or.inr h9
  have hS : va_S A s.heap s.heap [] := va_S.rf
  have he : entryFrame m args 3 = entryFrame m ([.ref (h 0)] : List Value).toArray 3 := by rw [ha]
  rw [he, lg_entry_eq]
  have hl := lv_entry ([.ref (h 0)]) (n := 3) (Nat.le_of_ble_eq_true rfl)
  generalize (lg_sl ([.ref (h 0)]) ++ List.replicate (3 - (lg_sl ([.ref (h 0)])).length) Slot.unset).toArray = ls at hl ⊢
  have hl : lv_has ls 3 [(0, .ref (h 0))] := hl
  generalize hv : f_Mo_term σ = v
  replace hv := hv.symm
  have B51 : ∀ (H : Heap) (locs : List Loc) (ls : Array Slot) (s0 : Int32) (σ : St), v = f_Mo_term_51 s0 σ → k_Mo_term_51 s0 σ → lv_has ls 3 [] → va_P D classes (Wm ty h σ px) H → va_D A (Wm ty h σ px) → va_S A s.heap H locs → W p l e (headSpec w_Mo_term rm_Mo_term).room s m args below meth c H locs 0 0 (MQ below (va_Qi (fun r (u : St) => (r, u) = v) (fun u t => va_P D classes (Wm ty h u px) t.heap) A) args s 0 0 A) (F0 m 51 ls [.int s0]) := by
    intro H locs ls s0 σ hv hk hl hP hD hS
    unfold f_Mo_term_51 at hv
    unfold k_Mo_term_51 at hk
    exact W.iret hx hb hr (fun t ht hW => ⟨⟨_, _, rfl, hv.symm, by dsimp only; rw [ht]; exact hP⟩, hS.F ht⟩) hS.2.2 d_Mo_term_51
  have B65 : ∀ (H : Heap) (locs : List Loc) (ls : Array Slot) (s0 : Int32) (σ : St), v = f_Mo_term_65 s0 σ → k_Mo_term_65 s0 σ → lv_has ls 3 [] → va_P D classes (Wm ty h σ px) H → va_D A (Wm ty h σ px) → va_S A s.heap H locs → W p l e (headSpec w_Mo_term rm_Mo_term).room s m args below meth c H locs 0 0 (MQ below (va_Qi (fun r (u : St) => (r, u) = v) (fun u t => va_P D classes (Wm ty h u px) t.heap) A) args s 0 0 A) (F0 m 65 ls [.int s0]) := by
    intro H locs ls s0 σ hv hk hl hP hD hS
    unfold f_Mo_term_65 at hv
    unfold k_Mo_term_65 at hk
    exact W.iret hx hb hr (fun t ht hW => ⟨⟨_, _, rfl, hv.symm, by dsimp only; rw [ht]; exact hP⟩, hS.F ht⟩) hS.2.2 d_Mo_term_65
  have B81 : ∀ (H : Heap) (locs : List Loc) (ls : Array Slot) (s0 : Int32) (σ : St), v = f_Mo_term_81 s0 σ → k_Mo_term_81 s0 σ → lv_has ls 3 [] → va_P D classes (Wm ty h σ px) H → va_D A (Wm ty h σ px) → va_S A s.heap H locs → W p l e (headSpec w_Mo_term rm_Mo_term).room s m args below meth c H locs 0 0 (MQ below (va_Qi (fun r (u : St) => (r, u) = v) (fun u t => va_P D classes (Wm ty h u px) t.heap) A) args s 0 0 A) (F0 m 81 ls [.int s0]) := by
    intro H locs ls s0 σ hv hk hl hP hD hS
    unfold f_Mo_term_81 at hv
    unfold k_Mo_term_81 at hk
    exact W.iret hx hb hr (fun t ht hW => ⟨⟨_, _, rfl, hv.symm, by dsimp only; rw [ht]; exact hP⟩, hS.F ht⟩) hS.2.2 d_Mo_term_81
  have B34 : ∀ (H : Heap) (locs : List Loc) (ls : Array Slot) (x1 : Int32) (σ : St), v = f_Mo_term_34 x1 σ → k_Mo_term_34 x1 σ → lv_has ls 3 [(0, .ref (h 0)), (1, .int x1)] → va_P D classes (Wm ty h σ px) H → va_D A (Wm ty h σ px) → va_S A s.heap H locs → W p l e (headSpec w_Mo_term rm_Mo_term).room s m args below meth c H locs 0 0 (MQ below (va_Qi (fun r (u : St) => (r, u) = v) (fun u t => va_P D classes (Wm ty h u px) t.heap) A) args s 0 0 A) (F0 m 34 ls []) := by
    intro H locs ls x1 σ hv hk hl hP hD hS
    unfold f_Mo_term_34 at hv
    unfold k_Mo_term_34 at hk
    refine lv_sipush (v := 1074) hx hb d_Mo_term_34 (by decide) ?_
    refine lv_istore_n (lv' := [(2, .int 1074), (0, .ref (h 0)), (1, .int x1)]) hx hb d_Mo_term_37 rfl hl (by decide) rfl (fun ls hl => ?_)
    refine lv_aload_n hx hb d_Mo_term_38 rfl (lv_at hl 1 rfl) ?_
    refine va_get (v := .int (σ.1 0 33)) (C := R_Mo) (T := T_Mo) (N := 51) hx hb hg in_Mo hown hK hP 0 rfl rfl 33 (by decide) (hg _ m_1292) (fun _ h9 => h9) rfl d_Mo_term_39 ?_
    refine lv_if_eq (tgt := 52) hx hb d_Mo_term_42 (by decide) (fun hc => ?_) (fun hc => ?_)
    · have hv := hv.trans (if_pos hc)
      have hk := hk.1 hc
      refine lv_aload_n hx hb d_Mo_term_52 rfl (lv_at hl 1 rfl) ?_
      obtain ⟨hk0, hk⟩ := hk
      refine zz_callV (va_runV (As := []) (rest := []) ⟨hx, hb, hml, hown, hg⟩ (c_Mo_tooDeep l D ty h px sa σ  hk0) ⟨callB_of 0 hg (gw_C m_1511) rfl rfl rfl (hg _ m_13) (hg _ m_1508) hd_Mo_tooDeep ⟨Nat.le_of_ble_eq_true rfl, Nat.le_of_ble_eq_true rfl⟩, hg _ m_1510, hg _ ms_63⟩ (zz_preV (hM.at hS) hN hK hP 0 rfl rfl) rfl rfl hl.1 rfl (lv_room (Nat.le_of_ble_eq_true rfl)) d_Mo_term_53 ⟨Nat.le_of_ble_eq_true rfl, Nat.le_of_ble_eq_true rfl⟩) ?_
      refine lv_if_eq (tgt := 66) hx hb d_Mo_term_56 (by decide) (fun hc => ?_) (fun hc => ?_)
      · have hv := hv.trans (if_pos hc)
        have hk := hk.1 hc
        refine lv_aload_n hx hb d_Mo_term_66 rfl (lv_at hl 1 rfl) ?_
        refine va_get (v := .int (σ.1 0 8)) (C := R_Mo) (T := T_Mo) (N := 51) hx hb hg in_Mo hown hK hP 0 rfl rfl 8 (by decide) (hg _ m_1267) (fun _ h9 => h9) rfl d_Mo_term_67 ?_
        refine lv_bipush (v := 100) hx hb d_Mo_term_70 (by decide) ?_
        refine lv_icmp_le (tgt := 82) hx hb d_Mo_term_72 (by decide) (fun hc => ?_) (fun hc => ?_)
        · have hv := hv.trans (if_pos hc)
          have hk := hk.1 hc
          refine lv_iload_n hx hb d_Mo_term_82 rfl (lv_at hl 2 rfl) ?_
          exact W.iret hx hb hr (fun t ht hW => ⟨⟨_, _, rfl, hv.symm, by dsimp only; rw [ht]; exact hP⟩, hS.F ht⟩) hS.2.2 d_Mo_term_83
        · have hv := hv.trans (if_neg hc)
          have hk := hk.2 hc
          refine lv_aload_n hx hb d_Mo_term_75 rfl (lv_at hl 1 rfl) ?_
          refine lv_iconst (v := 4) hx hb d_Mo_term_76 (by decide) ?_
          refine lv_iload_n hx hb d_Mo_term_77 rfl (lv_at hl 0 rfl) ?_
          obtain ⟨hk0, hk⟩ := hk
          refine va_calli (va_runV (As := [.int 4, .int 1074]) (rest := []) ⟨hx, hb, hml, hown, hg⟩ (c_Mo_fails l D ty h px sa σ H.size 4 1074 hk0) ⟨callB_of 2 hg (gw_C m_1507) rfl rfl rfl (hg _ m_13) (hg _ m_1504) hd_Mo_fails ⟨Nat.le_of_ble_eq_true rfl, Nat.le_of_ble_eq_true rfl⟩, hg _ m_1506, hg _ ms_62⟩ (zz_preVW hM hS hA hN hK hP hD 0 rfl rfl) rfl rfl hl.1 rfl (lv_room (Nat.le_of_ble_eq_true rfl)) d_Mo_term_78 ⟨Nat.le_of_ble_eq_true rfl, Nat.le_of_ble_eq_true rfl⟩) hS (fun q _ h => zz_free hD hS hA q h) (zz_free hD hS hA) (fun r78 u78 t H locs ht hvm hp hP1 hz hk1 hS => ?_)
          rw [ht] at hP1
          rw [← hp] at hv hk
          have hD : va_D A (Wm ty h u78 px) := zz_D hD rfl
          have hP := hP1
          exact B81 _ _ _ r78 u78 hv hk (lv_sub hl [] rfl) hP hD hS
      · have hv := hv.trans (if_neg hc)
        have hk := hk.2 hc
        refine lv_aload_n hx hb d_Mo_term_59 rfl (lv_at hl 1 rfl) ?_
        refine lv_iconst (v := 3) hx hb d_Mo_term_60 (by decide) ?_
        refine lv_iload_n hx hb d_Mo_term_61 rfl (lv_at hl 0 rfl) ?_
        obtain ⟨hk0, hk⟩ := hk
        refine va_calli (va_runV (As := [.int 3, .int 1074]) (rest := []) ⟨hx, hb, hml, hown, hg⟩ (c_Mo_fails l D ty h px sa σ H.size 3 1074 hk0) ⟨callB_of 2 hg (gw_C m_1507) rfl rfl rfl (hg _ m_13) (hg _ m_1504) hd_Mo_fails ⟨Nat.le_of_ble_eq_true rfl, Nat.le_of_ble_eq_true rfl⟩, hg _ m_1506, hg _ ms_62⟩ (zz_preVW hM hS hA hN hK hP hD 0 rfl rfl) rfl rfl hl.1 rfl (lv_room (Nat.le_of_ble_eq_true rfl)) d_Mo_term_62 ⟨Nat.le_of_ble_eq_true rfl, Nat.le_of_ble_eq_true rfl⟩) hS (fun q _ h => zz_free hD hS hA q h) (zz_free hD hS hA) (fun r62 u62 t H locs ht hvm hp hP1 hz hk1 hS => ?_)
        rw [ht] at hP1
        rw [← hp] at hv hk
        have hD : va_D A (Wm ty h u62 px) := zz_D hD rfl
        have hP := hP1
        exact B65 _ _ _ r62 u62 hv hk (lv_sub hl [] rfl) hP hD hS
    · have hv := hv.trans (if_neg hc)
      have hk := hk.2 hc
      refine lv_aload_n hx hb d_Mo_term_45 rfl (lv_at hl 1 rfl) ?_
      refine lv_iconst (v := 2) hx hb d_Mo_term_46 (by decide) ?_
      refine lv_iload_n hx hb d_Mo_term_47 rfl (lv_at hl 0 rfl) ?_
      obtain ⟨hk0, hk⟩ := hk
      refine va_calli (va_runV (As := [.int 2, .int 1074]) (rest := []) ⟨hx, hb, hml, hown, hg⟩ (c_Mo_fails l D ty h px sa σ H.size 2 1074 hk0) ⟨callB_of 2 hg (gw_C m_1507) rfl rfl rfl (hg _ m_13) (hg _ m_1504) hd_Mo_fails ⟨Nat.le_of_ble_eq_true rfl, Nat.le_of_ble_eq_true rfl⟩, hg _ m_1506, hg _ ms_62⟩ (zz_preVW hM hS hA hN hK hP hD 0 rfl rfl) rfl rfl hl.1 rfl (lv_room (Nat.le_of_ble_eq_true rfl)) d_Mo_term_48 ⟨Nat.le_of_ble_eq_true rfl, Nat.le_of_ble_eq_true rfl⟩) hS (fun q _ h => zz_free hD hS hA q h) (zz_free hD hS hA) (fun r48 u48 t H locs ht hvm hp hP1 hz hk1 hS => ?_)
      rw [ht] at hP1
      rw [← hp] at hv hk
      have hD : va_D A (Wm ty h u48 px) := zz_D hD rfl
      have hP := hP1
      exact B51 _ _ _ r48 u48 hv hk (lv_sub hl [] rfl) hP hD hS
  have B28 : ∀ (H : Heap) (locs : List Loc) (ls : Array Slot) (s0 : Int32) (σ : St), v = f_Mo_term_28 s0 σ → k_Mo_term_28 s0 σ → lv_has ls 3 [(0, .ref (h 0))] → va_P D classes (Wm ty h σ px) H → va_D A (Wm ty h σ px) → va_S A s.heap H locs → W p l e (headSpec w_Mo_term rm_Mo_term).room s m args below meth c H locs 0 0 (MQ below (va_Qi (fun r (u : St) => (r, u) = v) (fun u t => va_P D classes (Wm ty h u px) t.heap) A) args s 0 0 A) (F0 m 28 ls [.int s0]) := by
    intro H locs ls s0 σ hv hk hl hP hD hS
    unfold f_Mo_term_28 at hv
    unfold k_Mo_term_28 at hk
    refine lv_istore_n (lv' := [(1, .int s0), (0, .ref (h 0))]) hx hb d_Mo_term_28 rfl hl (by decide) rfl (fun ls hl => ?_)
    refine lv_aload_n hx hb d_Mo_term_29 rfl (lv_at hl 1 rfl) ?_
    refine lv_iconst (v := 0) hx hb d_Mo_term_30 (by decide) ?_
    refine va_put (v := .int 0) (ty := .int) (C := R_Mo) (T := T_Mo) (N := 51) hx hb hg in_Mo ty_Mo ok_Mo nm_Mo hown hK hP hD hS 0 rfl rfl 30 (by decide) (hg _ m_1289) (fun _ h9 => h9) rfl (by decide +kernel) rfl rfl (Nat.le_of_ble_eq_true rfl) d_Mo_term_31 (fun H locs hP hD hS => ?_)
    have hP : va_P D classes (Wm ty h (sF σ 0 30 0) px) H := hP
    have hD : va_D A (Wm ty h (sF σ 0 30 0) px) := hD
    exact B34 _ _ _ s0 (sF σ 0 30 0) hv hk (lv_sub hl [1, 0] rfl) hP hD hS
  have B24 : ∀ (H : Heap) (locs : List Loc) (ls : Array Slot) (σ : St), v = f_Mo_term_24 σ → k_Mo_term_24 σ → lv_has ls 3 [(0, .ref (h 0))] → va_P D classes (Wm ty h σ px) H → va_D A (Wm ty h σ px) → va_S A s.heap H locs → W p l e (headSpec w_Mo_term rm_Mo_term).room s m args below meth c H locs 0 0 (MQ below (va_Qi (fun r (u : St) => (r, u) = v) (fun u t => va_P D classes (Wm ty h u px) t.heap) A) args s 0 0 A) (F0 m 24 ls []) := by
    intro H locs ls σ hv hk hl hP hD hS
    unfold f_Mo_term_24 at hv
    unfold k_Mo_term_24 at hk
    refine lv_aload_n hx hb d_Mo_term_24 rfl (lv_at hl 0 rfl) ?_
    obtain ⟨hk0, hk⟩ := hk
    refine va_calli (va_runV (As := []) (rest := []) ⟨hx, hb, hml, hown, hg⟩ (c_Mo_readAll l D ty h px sa σ H.size  hk0) ⟨callB_of 0 hg (gw_C m_1447) rfl rfl rfl (hg _ m_13) (hg _ m_1444) hd_Mo_readAll ⟨Nat.le_of_ble_eq_true rfl, Nat.le_of_ble_eq_true rfl⟩, hg _ m_1446, hg _ ms_50⟩ (zz_preVW hM hS hA hN hK hP hD 0 rfl rfl) rfl rfl hl.1 rfl (lv_room (Nat.le_of_ble_eq_true rfl)) d_Mo_term_25 ⟨Nat.le_of_ble_eq_true rfl, Nat.le_of_ble_eq_true rfl⟩) hS (fun q _ h => zz_free hD hS hA q h) (zz_free hD hS hA) (fun r25 u25 t H locs ht hvm hp hP1 hz hk1 hS => ?_)
    rw [ht] at hP1
    rw [← hp] at hv hk
    have hD : va_D A (Wm ty h u25 px) := zz_D hD rfl
    have hP := hP1
    exact B28 _ _ _ r25 u25 hv hk (lv_sub hl [0] rfl) hP hD hS
  have B19 : ∀ (H : Heap) (locs : List Loc) (ls : Array Slot) (σ : St), v = f_Mo_term_19 σ → k_Mo_term_19 σ → lv_has ls 3 [(0, .ref (h 0))] → va_P D classes (Wm ty h σ px) H → va_D A (Wm ty h σ px) → va_S A s.heap H locs → W p l e (headSpec w_Mo_term rm_Mo_term).room s m args below meth c H locs 0 0 (MQ below (va_Qi (fun r (u : St) => (r, u) = v) (fun u t => va_P D classes (Wm ty h u px) t.heap) A) args s 0 0 A) (F0 m 19 ls []) := by
    intro H locs ls σ hv hk hl hP hD hS
    unfold f_Mo_term_19 at hv
    unfold k_Mo_term_19 at hk
    refine lv_aload_n hx hb d_Mo_term_19 rfl (lv_at hl 0 rfl) ?_
    refine lv_iconst (v := 0) hx hb d_Mo_term_20 (by decide) ?_
    refine va_put (v := .int 0) (ty := .int) (C := R_Mo) (T := T_Mo) (N := 51) hx hb hg in_Mo ty_Mo ok_Mo nm_Mo hown hK hP hD hS 0 rfl rfl 34 (by decide) (hg _ m_1293) (fun _ h9 => h9) rfl (by decide +kernel) rfl rfl (Nat.le_of_ble_eq_true rfl) d_Mo_term_21 (fun H locs hP hD hS => ?_)
    have hP : va_P D classes (Wm ty h (sF σ 0 34 0) px) H := hP
    have hD : va_D A (Wm ty h (sF σ 0 34 0) px) := hD
    exact B24 _ _ _  (sF σ 0 34 0) hv hk (lv_sub hl [0] rfl) hP hD hS
  have B14 : ∀ (H : Heap) (locs : List Loc) (ls : Array Slot) (σ : St), v = f_Mo_term_14 σ → k_Mo_term_14 σ → lv_has ls 3 [(0, .ref (h 0))] → va_P D classes (Wm ty h σ px) H → va_D A (Wm ty h σ px) → va_S A s.heap H locs → W p l e (headSpec w_Mo_term rm_Mo_term).room s m args below meth c H locs 0 0 (MQ below (va_Qi (fun r (u : St) => (r, u) = v) (fun u t => va_P D classes (Wm ty h u px) t.heap) A) args s 0 0 A) (F0 m 14 ls []) := by
    intro H locs ls σ hv hk hl hP hD hS
    unfold f_Mo_term_14 at hv
    unfold k_Mo_term_14 at hk
    refine lv_aload_n hx hb d_Mo_term_14 rfl (lv_at hl 0 rfl) ?_
    refine lv_iconst (v := 0) hx hb d_Mo_term_15 (by decide) ?_
    refine va_put (v := .int 0) (ty := .boolean) (C := R_Mo) (T := T_Mo) (N := 51) hx hb hg in_Mo ty_Mo ok_Mo nm_Mo hown hK hP hD hS 0 rfl rfl 33 (by decide) (hg _ m_1292) (fun _ h9 => h9) rfl (by decide +kernel) rfl rfl (Nat.le_of_ble_eq_true rfl) d_Mo_term_16 (fun H locs hP hD hS => ?_)
    have hP : va_P D classes (Wm ty h (sF σ 0 33 0) px) H := hP
    have hD : va_D A (Wm ty h (sF σ 0 33 0) px) := hD
    exact B19 _ _ _  (sF σ 0 33 0) hv hk (lv_sub hl [0] rfl) hP hD hS
  have B4 : ∀ (H : Heap) (locs : List Loc) (ls : Array Slot) (s0 : Int32) (σ : St), v = f_Mo_term_4 s0 σ → k_Mo_term_4 s0 σ → lv_has ls 3 [(0, .ref (h 0))] → va_P D classes (Wm ty h σ px) H → va_D A (Wm ty h σ px) → va_S A s.heap H locs → W p l e (headSpec w_Mo_term rm_Mo_term).room s m args below meth c H locs 0 0 (MQ below (va_Qi (fun r (u : St) => (r, u) = v) (fun u t => va_P D classes (Wm ty h u px) t.heap) A) args s 0 0 A) (F0 m 4 ls [.int s0]) := by
    intro H locs ls s0 σ hv hk hl hP hD hS
    unfold f_Mo_term_4 at hv
    unfold k_Mo_term_4 at hk
    refine lv_if_eq (tgt := 9) hx hb d_Mo_term_4 (by decide) (fun hc => ?_) (fun hc => ?_)
    · have hv := hv.trans (if_pos hc)
      have hk := hk.1 hc
      refine lv_aload_n hx hb d_Mo_term_9 rfl (lv_at hl 0 rfl) ?_
      refine lv_iconst (v := 0) hx hb d_Mo_term_10 (by decide) ?_
      refine va_put (v := .int 0) (ty := .int) (C := R_Mo) (T := T_Mo) (N := 51) hx hb hg in_Mo ty_Mo ok_Mo nm_Mo hown hK hP hD hS 0 rfl rfl 32 (by decide) (hg _ m_1291) (fun _ h9 => h9) rfl (by decide +kernel) rfl rfl (Nat.le_of_ble_eq_true rfl) d_Mo_term_11 (fun H locs hP hD hS => ?_)
      have hP : va_P D classes (Wm ty h (sF σ 0 32 0) px) H := hP
      have hD : va_D A (Wm ty h (sF σ 0 32 0) px) := hD
      exact B14 _ _ _  (sF σ 0 32 0) hv hk (lv_sub hl [0] rfl) hP hD hS
    · have hv := hv.trans (if_neg hc)
      have hk := hk.2 hc
      refine lv_iconst (v := -1) hx hb d_Mo_term_7 (by decide) ?_
      exact W.iret hx hb hr (fun t ht hW => ⟨⟨_, _, rfl, hv.symm, by dsimp only; rw [ht]; exact hP⟩, hS.F ht⟩) hS.2.2 d_Mo_term_8
  unfold f_Mo_term at hv
  unfold k_Mo_term at hk
  refine lv_aload_n hx hb d_Mo_term_0 rfl (lv_at hl 0 rfl) ?_
  obtain ⟨hk0, hk⟩ := hk
  refine va_calli (va_runV (As := []) (rest := []) ⟨hx, hb, hml, hown, hg⟩ (c_Mo_begin l D ty h px sa σ s.heap.size  hk0) ⟨callB_of 0 hg (gw_C m_1443) rfl rfl rfl (hg _ m_13) (hg _ m_1440) hd_Mo_begin ⟨Nat.le_of_ble_eq_true rfl, Nat.le_of_ble_eq_true rfl⟩, hg _ m_1442, hg _ ms_49⟩ (zz_preVW hM hS hA hN hK hP hD 0 rfl rfl) rfl rfl hl.1 rfl (lv_room (Nat.le_of_ble_eq_true rfl)) d_Mo_term_1 ⟨Nat.le_of_ble_eq_true rfl, Nat.le_of_ble_eq_true rfl⟩) hS (fun q _ h => zz_free hD hS hA q h) (zz_free hD hS hA) (fun r1 u1 t H locs ht hvm hp hP1 hz hk1 hS => ?_)
  rw [ht] at hP1
  rw [← hp] at hv hk
  have hD : va_D A (Wm ty h u1 px) := zz_D hD rfl
  have hP := hP1
  exact B4 _ _ _ r1 u1 hv hk (lv_sub hl [0] rfl) hP hD hS

-- ClauseLedgerModel.stands(I)Z
abbrev b_Mo_stands : ByteArray := prog_14_method_31_code
def y_Mo_stands : MethodName := ⟨"ClauseLedgerModel", "stands", "(I)Z"⟩
theorem hd_Mo_stands : y_Mo_stands.cls ≠ "java/lang/invoke/MethodHandle" ∧ y_Mo_stands.cls ≠ "java/lang/invoke/VarHandle" ∧ (parseMethodDescriptor y_Mo_stands.desc).map (fun d => d.parameters.length) = some 1 := by decide +kernel
theorem d_Mo_stands_0 : decode b_Mo_stands 0 = .ok (.iload_n 1, 1) := by decide +kernel
theorem d_Mo_stands_1 : decode b_Mo_stands 1 = .ok (.ifCond .lt 11, 3) := by decide +kernel
theorem d_Mo_stands_4 : decode b_Mo_stands 4 = .ok (.iload_n 1, 1) := by decide +kernel
theorem d_Mo_stands_5 : decode b_Mo_stands 5 = .ok (.aload_n 0, 1) := by decide +kernel
theorem d_Mo_stands_6 : decode b_Mo_stands 6 = .ok (.getfield 137, 3) := by decide +kernel
theorem d_Mo_stands_9 : decode b_Mo_stands 9 = .ok (.if_icmp .lt 5, 3) := by decide +kernel
theorem d_Mo_stands_12 : decode b_Mo_stands 12 = .ok (.iconst 0, 1) := by decide +kernel
theorem d_Mo_stands_13 : decode b_Mo_stands 13 = .ok (.ireturn, 1) := by decide +kernel
theorem d_Mo_stands_14 : decode b_Mo_stands 14 = .ok (.iconst 1, 1) := by decide +kernel
theorem d_Mo_stands_15 : decode b_Mo_stands 15 = .ok (.istore_n 2, 1) := by decide +kernel
theorem d_Mo_stands_16 : decode b_Mo_stands 16 = .ok (.aload_n 0, 1) := by decide +kernel
theorem d_Mo_stands_17 : decode b_Mo_stands 17 = .ok (.getfield 59, 3) := by decide +kernel
theorem d_Mo_stands_20 : decode b_Mo_stands 20 = .ok (.iload_n 1, 1) := by decide +kernel
theorem d_Mo_stands_21 : decode b_Mo_stands 21 = .ok (.iaload, 1) := by decide +kernel
theorem d_Mo_stands_22 : decode b_Mo_stands 22 = .ok (.istore_n 3, 1) := by decide +kernel
theorem d_Mo_stands_23 : decode b_Mo_stands 23 = .ok (.iconst 0, 1) := by decide +kernel
theorem d_Mo_stands_24 : decode b_Mo_stands 24 = .ok (.istore 4, 2) := by decide +kernel
theorem d_Mo_stands_26 : decode b_Mo_stands 26 = .ok (.iload 4, 2) := by decide +kernel
theorem d_Mo_stands_28 : decode b_Mo_stands 28 = .ok (.bipush 21, 2) := by decide +kernel
theorem d_Mo_stands_30 : decode b_Mo_stands 30 = .ok (.if_icmp .ge 39, 3) := by decide +kernel
theorem d_Mo_stands_33 : decode b_Mo_stands 33 = .ok (.iload_n 3, 1) := by decide +kernel
theorem d_Mo_stands_34 : decode b_Mo_stands 34 = .ok (.ifCond .le 35, 3) := by decide +kernel
theorem d_Mo_stands_37 : decode b_Mo_stands 37 = .ok (.iload_n 2, 1) := by decide +kernel
theorem d_Mo_stands_38 : decode b_Mo_stands 38 = .ok (.ifCond .eq 16, 3) := by decide +kernel
theorem d_Mo_stands_41 : decode b_Mo_stands 41 = .ok (.aload_n 0, 1) := by decide +kernel
theorem d_Mo_stands_42 : decode b_Mo_stands 42 = .ok (.getfield 69, 3) := by decide +kernel
theorem d_Mo_stands_45 : decode b_Mo_stands 45 = .ok (.iload_n 3, 1) := by decide +kernel
theorem d_Mo_stands_46 : decode b_Mo_stands 46 = .ok (.baload, 1) := by decide +kernel
theorem d_Mo_stands_47 : decode b_Mo_stands 47 = .ok (.ifCond .ne 7, 3) := by decide +kernel
theorem d_Mo_stands_50 : decode b_Mo_stands 50 = .ok (.iconst 1, 1) := by decide +kernel
theorem d_Mo_stands_51 : decode b_Mo_stands 51 = .ok (.goto 4, 3) := by decide +kernel
theorem d_Mo_stands_54 : decode b_Mo_stands 54 = .ok (.iconst 0, 1) := by decide +kernel
theorem d_Mo_stands_55 : decode b_Mo_stands 55 = .ok (.istore_n 2, 1) := by decide +kernel
theorem d_Mo_stands_56 : decode b_Mo_stands 56 = .ok (.aload_n 0, 1) := by decide +kernel
theorem d_Mo_stands_57 : decode b_Mo_stands 57 = .ok (.getfield 66, 3) := by decide +kernel
theorem d_Mo_stands_60 : decode b_Mo_stands 60 = .ok (.iload_n 3, 1) := by decide +kernel
theorem d_Mo_stands_61 : decode b_Mo_stands 61 = .ok (.iaload, 1) := by decide +kernel
theorem d_Mo_stands_62 : decode b_Mo_stands 62 = .ok (.istore_n 3, 1) := by decide +kernel
theorem d_Mo_stands_63 : decode b_Mo_stands 63 = .ok (.iinc 4 1, 3) := by decide +kernel
theorem d_Mo_stands_66 : decode b_Mo_stands 66 = .ok (.goto (-40), 3) := by decide +kernel
theorem d_Mo_stands_69 : decode b_Mo_stands 69 = .ok (.iload_n 2, 1) := by decide +kernel
theorem d_Mo_stands_70 : decode b_Mo_stands 70 = .ok (.ireturn, 1) := by decide +kernel
def f_Mo_stands_12 (σ : St) : Int32 := 0
def k_Mo_stands_12 (σ : St) : Prop := True
def f_Mo_stands_63 (F26 : (Int32 → Int32 → Int32 → St → Int32)) (x2 : Int32) (x3 : Int32) (x4 : Int32) (σ : St) : Int32 := F26 x2 x3 (x4 + 1) σ
def k_Mo_stands_63 (K26 : (Int32 → Int32 → Int32 → St → Prop)) (x2 : Int32) (x3 : Int32) (x4 : Int32) (σ : St) : Prop := K26 x2 x3 (x4 + 1) σ
def f_Mo_stands_55 (F26 : (Int32 → Int32 → Int32 → St → Int32)) (x3 : Int32) (x4 : Int32) (s0 : Int32) (σ : St) : Int32 := f_Mo_stands_63 F26 s0 (σ.1 18 x3.toNatClampNeg) x4 σ
def k_Mo_stands_55 (K26 : (Int32 → Int32 → Int32 → St → Prop)) (x3 : Int32) (x4 : Int32) (s0 : Int32) (σ : St) : Prop := vp_in x3 21 ∧ (k_Mo_stands_63 K26 s0 (σ.1 18 x3.toNatClampNeg) x4 σ)
def f_Mo_stands_54 (F26 : (Int32 → Int32 → Int32 → St → Int32)) (x3 : Int32) (x4 : Int32) (σ : St) : Int32 := f_Mo_stands_55 F26 x3 x4 0 σ
def k_Mo_stands_54 (K26 : (Int32 → Int32 → Int32 → St → Prop)) (x3 : Int32) (x4 : Int32) (σ : St) : Prop := k_Mo_stands_55 K26 x3 x4 0 σ
def f_Mo_stands_69 (x2 : Int32) (σ : St) : Int32 := x2
def k_Mo_stands_69 (x2 : Int32) (σ : St) : Prop := (narrow .boolean (.int x2) = .int x2) ∧ True
def f_Mo_stands_26 : Nat → Int32 → Int32 → Int32 → St → Int32
  | 0, _, _, _, σ => 0
  | n + 1, x2, x3, x4, σ => if 21 ≤ x4 then (f_Mo_stands_69 x2 σ) else (if x3 ≤ 0 then (f_Mo_stands_69 x2 σ) else (if x2 = 0 then (f_Mo_stands_54 (f_Mo_stands_26 n) x3 x4 σ) else (if (σ.1 19 x3.toNatClampNeg) = 0 then (f_Mo_stands_55 (f_Mo_stands_26 n) x3 x4 1 σ) else (f_Mo_stands_54 (f_Mo_stands_26 n) x3 x4 σ))))
def k_Mo_stands_26 : Nat → Int32 → Int32 → Int32 → St → Prop
  | 0, _, _, _, _ => False
  | n + 1, x2, x3, x4, σ => (21 ≤ x4 → (k_Mo_stands_69 x2 σ)) ∧ (¬ 21 ≤ x4 → ((x3 ≤ 0 → (k_Mo_stands_69 x2 σ)) ∧ (¬ x3 ≤ 0 → ((x2 = 0 → (k_Mo_stands_54 (k_Mo_stands_26 n) x3 x4 σ)) ∧ (¬ x2 = 0 → (vp_in x3 21 ∧ (((σ.1 19 x3.toNatClampNeg) = 0 → (k_Mo_stands_55 (k_Mo_stands_26 n) x3 x4 1 σ)) ∧ (¬ (σ.1 19 x3.toNatClampNeg) = 0 → (k_Mo_stands_54 (k_Mo_stands_26 n) x3 x4 σ)))))))))
def f_Mo_stands_23 (x2 : Int32) (x3 : Int32) (σ : St) : Int32 := f_Mo_stands_26 1000 x2 x3 0 σ
def k_Mo_stands_23 (x2 : Int32) (x3 : Int32) (σ : St) : Prop := k_Mo_stands_26 1000 x2 x3 0 σ
def f_Mo_stands (a1 : Int32) (σ : St) : Int32 := if a1 < 0 then (f_Mo_stands_12 σ) else (if a1 < (σ.1 0 19) then (f_Mo_stands_23 1 (σ.1 16 a1.toNatClampNeg) σ) else (f_Mo_stands_12 σ))
def k_Mo_stands (a1 : Int32) (σ : St) : Prop := (a1 < 0 → (k_Mo_stands_12 σ)) ∧ (¬ a1 < 0 → ((a1 < (σ.1 0 19) → (vp_in a1 60 ∧ (k_Mo_stands_23 1 (σ.1 16 a1.toNatClampNeg) σ))) ∧ (¬ a1 < (σ.1 0 19) → (k_Mo_stands_12 σ))))
abbrev w_Mo_stands : List Cond := Cond.code y_Mo_stands b_Mo_stands 5 (some .boolean) :: gw
abbrev rm_Mo_stands : Room := { frames := 0, cells := 0, slots := 0, locals := 0 }
set_option maxHeartbeats 4000000 in
set_option maxRecDepth 100000 in
theorem c_Mo_stands (l : Launch) (D : va_G) (ty : Nat → ClassId) (h : Nat → Nat) (px : va_W) (sa : Nat → Nat) (σ : St) (a1 : Int32) (hk : k_Mo_stands a1 σ) : Met l y_Mo_stands w_Mo_stands rm_Mo_stands (va_Pc [.ref (h 0), .int a1] (fun U => va_P D classes (Wm ty h σ px) U.heap ∧ va_K D classes (Ta ty) U ∧ NW U ∧ MK sa (fun _ => False) U U.heap)) (k2_QcV (.int (f_Mo_stands a1 σ))) 0 0 (fun _ => False) := by
  refine Met.ofW (cc := b_Mo_stands) (maxL := 5) (ret := (some .boolean)) (by decide) rfl ?_
  intro p e s m args below meth c s₁ B hml hv
  obtain ⟨ha, hP, hK, hN, hM⟩ := hv
  have hx := B.exec
  have hb := B.bytes
  have hr := B.returns
  have hg : ∀ w ∈ gw, w.before args s = true := fun w h9 => atoms_spec (ws := w_Mo_stands) B.pre w (List.mem_cons_of_mem _ h9)
  have hown : s.vm.findClass "ClauseLedgerModel" = some m.cls := findClass_of_methodNamed B.named
  have hlocks := B.notSynchronized
  have he : entryFrame m args 5 = entryFrame m ([.ref (h 0), .int a1] : List Value).toArray 5 := by rw [ha]
  rw [he, lg_entry_eq]
  have hl := lv_entry ([.ref (h 0), .int a1]) (n := 5) (Nat.le_of_ble_eq_true rfl)
  generalize (lg_sl ([.ref (h 0), .int a1]) ++ List.replicate (5 - (lg_sl ([.ref (h 0), .int a1])).length) Slot.unset).toArray = ls at hl ⊢
  have hl : lv_has ls 5 [(0, .ref (h 0)), (1, .int a1)] := hl
  generalize hv : f_Mo_stands a1 σ = v
  replace hv := hv.symm
  have B12 : ∀ (ls : Array Slot), v = f_Mo_stands_12 σ → k_Mo_stands_12 σ → lv_has ls 5 [] → W p l e (headSpec w_Mo_stands rm_Mo_stands).room s m args below meth c s.heap [] 0 0 (MQ below (k2_QcV (.int v)) args s 0 0 (fun _ => False)) (F0 m 12 ls []) := by
    intro ls hv hk hl
    unfold f_Mo_stands_12 at hv
    unfold k_Mo_stands_12 at hk
    refine lv_iconst (v := 0) hx hb d_Mo_stands_12 (by decide) ?_
    exact W.zret hx hb hr rfl (fun t ht hW => ⟨by rw [hv], ht⟩) (fun q h => nomatch h) d_Mo_stands_13
  have B69 : ∀ (ls : Array Slot) (x2 : Int32), v = f_Mo_stands_69 x2 σ → k_Mo_stands_69 x2 σ → lv_has ls 5 [(2, .int x2)] → W p l e (headSpec w_Mo_stands rm_Mo_stands).room s m args below meth c s.heap [] 0 0 (MQ below (k2_QcV (.int v)) args s 0 0 (fun _ => False)) (F0 m 69 ls []) := by
    intro ls x2 hv hk hl
    unfold f_Mo_stands_69 at hv
    unfold k_Mo_stands_69 at hk
    refine lv_iload_n hx hb d_Mo_stands_69 rfl (lv_at hl 0 rfl) ?_
    obtain ⟨hk0, hk⟩ := hk
    exact W.zret hx hb hr hk0 (fun t ht hW => ⟨by rw [hv], ht⟩) (fun q h => nomatch h) d_Mo_stands_70
  have B26 : ∀ (n26 : Nat) (ls : Array Slot) (x2 : Int32) (x3 : Int32) (x4 : Int32), v = f_Mo_stands_26 n26 x2 x3 x4 σ → k_Mo_stands_26 n26 x2 x3 x4 σ → lv_has ls 5 [(0, .ref (h 0)), (2, .int x2), (3, .int x3), (4, .int x4)] → W p l e (headSpec w_Mo_stands rm_Mo_stands).room s m args below meth c s.heap [] 0 0 (MQ below (k2_QcV (.int v)) args s 0 0 (fun _ => False)) (F0 m 26 ls []) := by
    intro n26
    induction n26 with
    | zero => intro ls x2 x3 x4 hv hk hl; exact hk.elim
    | succ n26 ih26 =>
      have B63 : ∀ (ls : Array Slot) (x2 : Int32) (x3 : Int32) (x4 : Int32), v = f_Mo_stands_63 (f_Mo_stands_26 n26) x2 x3 x4 σ → k_Mo_stands_63 (k_Mo_stands_26 n26) x2 x3 x4 σ → lv_has ls 5 [(0, .ref (h 0)), (2, .int x2), (3, .int x3), (4, .int x4)] → W p l e (headSpec w_Mo_stands rm_Mo_stands).room s m args below meth c s.heap [] 0 0 (MQ below (k2_QcV (.int v)) args s 0 0 (fun _ => False)) (F0 m 63 ls []) := by
        intro ls x2 x3 x4 hv hk hl
        unfold f_Mo_stands_63 at hv
        unfold k_Mo_stands_63 at hk
        refine lv_iinc (k := 3) (v := x4 + 1) (lv' := [(4, .int (x4 + 1)), (0, .ref (h 0)), (2, .int x2), (3, .int x3)]) hx hb d_Mo_stands_63 hl rfl (by first | rfl | simp [lit1, litm1]) (by decide) rfl (fun ls hl => ?_)
        refine lv_goto (tgt := 26) hx hb d_Mo_stands_66 (by decide) ?_
        exact ih26 _ x2 x3 (x4 + 1) hv hk (lv_sub hl [1, 2, 3, 0] rfl)
      have B55 : ∀ (ls : Array Slot) (x3 : Int32) (x4 : Int32) (s0 : Int32), v = f_Mo_stands_55 (f_Mo_stands_26 n26) x3 x4 s0 σ → k_Mo_stands_55 (k_Mo_stands_26 n26) x3 x4 s0 σ → lv_has ls 5 [(0, .ref (h 0)), (3, .int x3), (4, .int x4)] → W p l e (headSpec w_Mo_stands rm_Mo_stands).room s m args below meth c s.heap [] 0 0 (MQ below (k2_QcV (.int v)) args s 0 0 (fun _ => False)) (F0 m 55 ls [.int s0]) := by
        intro ls x3 x4 s0 hv hk hl
        unfold f_Mo_stands_55 at hv
        unfold k_Mo_stands_55 at hk
        refine lv_istore_n (lv' := [(2, .int s0), (0, .ref (h 0)), (3, .int x3), (4, .int x4)]) hx hb d_Mo_stands_55 rfl hl (by decide) rfl (fun ls hl => ?_)
        refine lv_aload_n hx hb d_Mo_stands_56 rfl (lv_at hl 1 rfl) ?_
        refine va_get (v := .ref (h 18)) (C := R_Mo) (T := T_Mo) (N := 51) hx hb hg in_Mo hown hK hP 0 rfl rfl 26 (by decide) (hg _ m_1285) (fun _ h9 => h9) rfl d_Mo_stands_57 ?_
        refine lv_iload_n hx hb d_Mo_stands_60 rfl (lv_at hl 2 rfl) ?_
        obtain ⟨hk0, hk⟩ := hk
        refine va_iald hx hb hK hP 18 0 rfl rfl hk0 d_Mo_stands_61 ?_
        refine lv_istore_n (lv' := [(3, .int (σ.1 18 x3.toNatClampNeg)), (2, .int s0), (0, .ref (h 0)), (4, .int x4)]) hx hb d_Mo_stands_62 rfl hl (by decide) rfl (fun ls hl => ?_)
        exact B63 _ s0 (σ.1 18 x3.toNatClampNeg) x4 hv hk (lv_sub hl [2, 1, 0, 3] rfl)
      have B54 : ∀ (ls : Array Slot) (x3 : Int32) (x4 : Int32), v = f_Mo_stands_54 (f_Mo_stands_26 n26) x3 x4 σ → k_Mo_stands_54 (k_Mo_stands_26 n26) x3 x4 σ → lv_has ls 5 [(0, .ref (h 0)), (3, .int x3), (4, .int x4)] → W p l e (headSpec w_Mo_stands rm_Mo_stands).room s m args below meth c s.heap [] 0 0 (MQ below (k2_QcV (.int v)) args s 0 0 (fun _ => False)) (F0 m 54 ls []) := by
        intro ls x3 x4 hv hk hl
        unfold f_Mo_stands_54 at hv
        unfold k_Mo_stands_54 at hk
        refine lv_iconst (v := 0) hx hb d_Mo_stands_54 (by decide) ?_
        exact B55 _ x3 x4 0 hv hk (lv_sub hl [0, 1, 2] rfl)
      intro ls x2 x3 x4 hv hk hl
      rw [f_Mo_stands_26] at hv
      rw [k_Mo_stands_26] at hk
      refine lv_iload hx hb d_Mo_stands_26 (lv_at hl 3 rfl) ?_
      refine lv_bipush (v := 21) hx hb d_Mo_stands_28 (by decide) ?_
      refine lv_icmp_ge (tgt := 69) hx hb d_Mo_stands_30 (by decide) (fun hc => ?_) (fun hc => ?_)
      · have hv := hv.trans (if_pos hc)
        have hk := hk.1 hc
        exact B69 _ x2 hv hk (lv_sub hl [1] rfl)
      · have hv := hv.trans (if_neg hc)
        have hk := hk.2 hc
        refine lv_iload_n hx hb d_Mo_stands_33 rfl (lv_at hl 2 rfl) ?_
        refine lv_if_le (tgt := 69) hx hb d_Mo_stands_34 (by decide) (fun hc => ?_) (fun hc => ?_)
        · have hv := hv.trans (if_pos hc)
          have hk := hk.1 hc
          exact B69 _ x2 hv hk (lv_sub hl [1] rfl)
        · have hv := hv.trans (if_neg hc)
          have hk := hk.2 hc
          refine lv_iload_n hx hb d_Mo_stands_37 rfl (lv_at hl 1 rfl) ?_
          refine lv_if_eq (tgt := 54) hx hb d_Mo_stands_38 (by decide) (fun hc => ?_) (fun hc => ?_)
          · have hv := hv.trans (if_pos hc)
            have hk := hk.1 hc
            exact B54 _ x3 x4 hv hk (lv_sub hl [0, 2, 3] rfl)
          · have hv := hv.trans (if_neg hc)
            have hk := hk.2 hc
            refine lv_aload_n hx hb d_Mo_stands_41 rfl (lv_at hl 0 rfl) ?_
            refine va_get (v := .ref (h 19)) (C := R_Mo) (T := T_Mo) (N := 51) hx hb hg in_Mo hown hK hP 0 rfl rfl 27 (by decide) (hg _ m_1286) (fun _ h9 => h9) rfl d_Mo_stands_42 ?_
            refine lv_iload_n hx hb d_Mo_stands_45 rfl (lv_at hl 2 rfl) ?_
            obtain ⟨hk0, hk⟩ := hk
            refine va_zald hx hb hK hP 19 3 rfl rfl hk0 d_Mo_stands_46 ?_
            refine lv_if_ne (tgt := 54) hx hb d_Mo_stands_47 (by decide) (fun hc => ?_) (fun hc => ?_)
            · have hv := hv.trans (if_neg hc)
              have hk := hk.2 hc
              exact B54 _ x3 x4 hv hk (lv_sub hl [0, 2, 3] rfl)
            · have hv := hv.trans (if_pos hc)
              have hk := hk.1 hc
              refine lv_iconst (v := 1) hx hb d_Mo_stands_50 (by decide) ?_
              refine lv_goto (tgt := 55) hx hb d_Mo_stands_51 (by decide) ?_
              exact B55 _ x3 x4 1 hv hk (lv_sub hl [0, 2, 3] rfl)
  have B23 : ∀ (ls : Array Slot) (x2 : Int32) (x3 : Int32), v = f_Mo_stands_23 x2 x3 σ → k_Mo_stands_23 x2 x3 σ → lv_has ls 5 [(0, .ref (h 0)), (2, .int x2), (3, .int x3)] → W p l e (headSpec w_Mo_stands rm_Mo_stands).room s m args below meth c s.heap [] 0 0 (MQ below (k2_QcV (.int v)) args s 0 0 (fun _ => False)) (F0 m 23 ls []) := by
    intro ls x2 x3 hv hk hl
    unfold f_Mo_stands_23 at hv
    unfold k_Mo_stands_23 at hk
    refine lv_iconst (v := 0) hx hb d_Mo_stands_23 (by decide) ?_
    refine lv_istore (lv' := [(4, .int 0), (0, .ref (h 0)), (2, .int x2), (3, .int x3)]) hx hb d_Mo_stands_24 hl (by decide) rfl (fun ls hl => ?_)
    exact B26 1000 _ x2 x3 0 hv hk (lv_sub hl [1, 2, 3, 0] rfl)
  unfold f_Mo_stands at hv
  unfold k_Mo_stands at hk
  refine lv_iload_n hx hb d_Mo_stands_0 rfl (lv_at hl 1 rfl) ?_
  refine lv_if_lt (tgt := 12) hx hb d_Mo_stands_1 (by decide) (fun hc => ?_) (fun hc => ?_)
  · have hv := hv.trans (if_pos hc)
    have hk := hk.1 hc
    exact B12 _  hv hk (lv_sub hl [] rfl)
  · have hv := hv.trans (if_neg hc)
    have hk := hk.2 hc
    refine lv_iload_n hx hb d_Mo_stands_4 rfl (lv_at hl 1 rfl) ?_
    refine lv_aload_n hx hb d_Mo_stands_5 rfl (lv_at hl 0 rfl) ?_
    refine va_get (v := .int (σ.1 0 19)) (C := R_Mo) (T := T_Mo) (N := 51) hx hb hg in_Mo hown hK hP 0 rfl rfl 19 (by decide) (hg _ m_1278) (fun _ h9 => h9) rfl d_Mo_stands_6 ?_
    refine lv_icmp_lt (tgt := 14) hx hb d_Mo_stands_9 (by decide) (fun hc => ?_) (fun hc => ?_)
    · have hv := hv.trans (if_pos hc)
      have hk := hk.1 hc
      refine lv_iconst (v := 1) hx hb d_Mo_stands_14 (by decide) ?_
      refine lv_istore_n (lv' := [(2, .int 1), (0, .ref (h 0)), (1, .int a1)]) hx hb d_Mo_stands_15 rfl hl (by decide) rfl (fun ls hl => ?_)
      refine lv_aload_n hx hb d_Mo_stands_16 rfl (lv_at hl 1 rfl) ?_
      refine va_get (v := .ref (h 16)) (C := R_Mo) (T := T_Mo) (N := 51) hx hb hg in_Mo hown hK hP 0 rfl rfl 22 (by decide) (hg _ m_1281) (fun _ h9 => h9) rfl d_Mo_stands_17 ?_
      refine lv_iload_n hx hb d_Mo_stands_20 rfl (lv_at hl 2 rfl) ?_
      obtain ⟨hk0, hk⟩ := hk
      refine va_iald hx hb hK hP 16 0 rfl rfl hk0 d_Mo_stands_21 ?_
      refine lv_istore_n (lv' := [(3, .int (σ.1 16 a1.toNatClampNeg)), (2, .int 1), (0, .ref (h 0)), (1, .int a1)]) hx hb d_Mo_stands_22 rfl hl (by decide) rfl (fun ls hl => ?_)
      exact B23 _ 1 (σ.1 16 a1.toNatClampNeg) hv hk (lv_sub hl [2, 1, 0] rfl)
    · have hv := hv.trans (if_neg hc)
      have hk := hk.2 hc
      exact B12 _  hv hk (lv_sub hl [] rfl)

-- ClauseLedgerModel.has(II)Z
abbrev b_Mo_has : ByteArray := prog_14_method_32_code
def y_Mo_has : MethodName := ⟨"ClauseLedgerModel", "has", "(II)Z"⟩
theorem hd_Mo_has : y_Mo_has.cls ≠ "java/lang/invoke/MethodHandle" ∧ y_Mo_has.cls ≠ "java/lang/invoke/VarHandle" ∧ (parseMethodDescriptor y_Mo_has.desc).map (fun d => d.parameters.length) = some 2 := by decide +kernel
theorem d_Mo_has_0 : decode b_Mo_has 0 = .ok (.iconst 0, 1) := by decide +kernel
theorem d_Mo_has_1 : decode b_Mo_has 1 = .ok (.istore_n 3, 1) := by decide +kernel
theorem d_Mo_has_2 : decode b_Mo_has 2 = .ok (.iconst 0, 1) := by decide +kernel
theorem d_Mo_has_3 : decode b_Mo_has 3 = .ok (.istore 4, 2) := by decide +kernel
theorem d_Mo_has_5 : decode b_Mo_has 5 = .ok (.iload 4, 2) := by decide +kernel
theorem d_Mo_has_7 : decode b_Mo_has 7 = .ok (.aload_n 0, 1) := by decide +kernel
theorem d_Mo_has_8 : decode b_Mo_has 8 = .ok (.getfield 53, 3) := by decide +kernel
theorem d_Mo_has_11 : decode b_Mo_has 11 = .ok (.iload_n 1, 1) := by decide +kernel
theorem d_Mo_has_12 : decode b_Mo_has 12 = .ok (.iaload, 1) := by decide +kernel
theorem d_Mo_has_13 : decode b_Mo_has 13 = .ok (.if_icmp .ge 35, 3) := by decide +kernel
theorem d_Mo_has_16 : decode b_Mo_has 16 = .ok (.iload_n 3, 1) := by decide +kernel
theorem d_Mo_has_17 : decode b_Mo_has 17 = .ok (.ifCond .ne 19, 3) := by decide +kernel
theorem d_Mo_has_20 : decode b_Mo_has 20 = .ok (.aload_n 0, 1) := by decide +kernel
theorem d_Mo_has_21 : decode b_Mo_has 21 = .ok (.getfield 56, 3) := by decide +kernel
theorem d_Mo_has_24 : decode b_Mo_has 24 = .ok (.bipush 8, 2) := by decide +kernel
theorem d_Mo_has_26 : decode b_Mo_has 26 = .ok (.iload_n 1, 1) := by decide +kernel
theorem d_Mo_has_27 : decode b_Mo_has 27 = .ok (.imul, 1) := by decide +kernel
theorem d_Mo_has_28 : decode b_Mo_has 28 = .ok (.iload 4, 2) := by decide +kernel
theorem d_Mo_has_30 : decode b_Mo_has 30 = .ok (.iadd, 1) := by decide +kernel
theorem d_Mo_has_31 : decode b_Mo_has 31 = .ok (.iaload, 1) := by decide +kernel
theorem d_Mo_has_32 : decode b_Mo_has 32 = .ok (.iload_n 2, 1) := by decide +kernel
theorem d_Mo_has_33 : decode b_Mo_has 33 = .ok (.if_icmp .ne 7, 3) := by decide +kernel
theorem d_Mo_has_36 : decode b_Mo_has 36 = .ok (.iconst 1, 1) := by decide +kernel
theorem d_Mo_has_37 : decode b_Mo_has 37 = .ok (.goto 4, 3) := by decide +kernel
theorem d_Mo_has_40 : decode b_Mo_has 40 = .ok (.iconst 0, 1) := by decide +kernel
theorem d_Mo_has_41 : decode b_Mo_has 41 = .ok (.istore_n 3, 1) := by decide +kernel
theorem d_Mo_has_42 : decode b_Mo_has 42 = .ok (.iinc 4 1, 3) := by decide +kernel
theorem d_Mo_has_45 : decode b_Mo_has 45 = .ok (.goto (-40), 3) := by decide +kernel
theorem d_Mo_has_48 : decode b_Mo_has 48 = .ok (.iload_n 3, 1) := by decide +kernel
theorem d_Mo_has_49 : decode b_Mo_has 49 = .ok (.ireturn, 1) := by decide +kernel
def f_Mo_has_41 (F5 : (Int32 → Int32 → Int32 → Int32 → St → Int32)) (x1 : Int32) (x2 : Int32) (x4 : Int32) (s0 : Int32) (σ : St) : Int32 := F5 x1 x2 s0 (x4 + 1) σ
def k_Mo_has_41 (K5 : (Int32 → Int32 → Int32 → Int32 → St → Prop)) (x1 : Int32) (x2 : Int32) (x4 : Int32) (s0 : Int32) (σ : St) : Prop := K5 x1 x2 s0 (x4 + 1) σ
def f_Mo_has_36 (F5 : (Int32 → Int32 → Int32 → Int32 → St → Int32)) (x1 : Int32) (x2 : Int32) (x4 : Int32) (σ : St) : Int32 := f_Mo_has_41 F5 x1 x2 x4 1 σ
def k_Mo_has_36 (K5 : (Int32 → Int32 → Int32 → Int32 → St → Prop)) (x1 : Int32) (x2 : Int32) (x4 : Int32) (σ : St) : Prop := k_Mo_has_41 K5 x1 x2 x4 1 σ
def f_Mo_has_5 : Nat → Int32 → Int32 → Int32 → Int32 → St → Int32
  | 0, _, _, _, _, σ => 0
  | n + 1, x1, x2, x3, x4, σ => if (σ.1 14 x1.toNatClampNeg) ≤ x4 then x3 else (if x3 = 0 then (if (σ.1 15 ((8 * x1) + x4).toNatClampNeg) = x2 then (f_Mo_has_36 (f_Mo_has_5 n) x1 x2 x4 σ) else (f_Mo_has_41 (f_Mo_has_5 n) x1 x2 x4 0 σ)) else (f_Mo_has_36 (f_Mo_has_5 n) x1 x2 x4 σ))
def k_Mo_has_5 : Nat → Int32 → Int32 → Int32 → Int32 → St → Prop
  | 0, _, _, _, _, _ => False
  | n + 1, x1, x2, x3, x4, σ => vp_in x1 60 ∧ (((σ.1 14 x1.toNatClampNeg) ≤ x4 → ((narrow .boolean (.int x3) = .int x3) ∧ True)) ∧ (¬ (σ.1 14 x1.toNatClampNeg) ≤ x4 → ((x3 = 0 → (vp_in ((8 * x1) + x4) 480 ∧ (((σ.1 15 ((8 * x1) + x4).toNatClampNeg) = x2 → (k_Mo_has_36 (k_Mo_has_5 n) x1 x2 x4 σ)) ∧ (¬ (σ.1 15 ((8 * x1) + x4).toNatClampNeg) = x2 → (k_Mo_has_41 (k_Mo_has_5 n) x1 x2 x4 0 σ))))) ∧ (¬ x3 = 0 → (k_Mo_has_36 (k_Mo_has_5 n) x1 x2 x4 σ)))))
def f_Mo_has (a1 : Int32) (a2 : Int32) (σ : St) : Int32 := f_Mo_has_5 1000 a1 a2 0 0 σ
def k_Mo_has (a1 : Int32) (a2 : Int32) (σ : St) : Prop := k_Mo_has_5 1000 a1 a2 0 0 σ
abbrev w_Mo_has : List Cond := Cond.code y_Mo_has b_Mo_has 5 (some .boolean) :: gw
abbrev rm_Mo_has : Room := { frames := 0, cells := 0, slots := 0, locals := 0 }
set_option maxHeartbeats 4000000 in
set_option maxRecDepth 100000 in
theorem c_Mo_has (l : Launch) (D : va_G) (ty : Nat → ClassId) (h : Nat → Nat) (px : va_W) (sa : Nat → Nat) (σ : St) (a1 : Int32) (a2 : Int32) (hk : k_Mo_has a1 a2 σ) : Met l y_Mo_has w_Mo_has rm_Mo_has (va_Pc [.ref (h 0), .int a1, .int a2] (fun U => va_P D classes (Wm ty h σ px) U.heap ∧ va_K D classes (Ta ty) U ∧ NW U ∧ MK sa (fun _ => False) U U.heap)) (k2_QcV (.int (f_Mo_has a1 a2 σ))) 0 0 (fun _ => False) := by
  refine Met.ofW (cc := b_Mo_has) (maxL := 5) (ret := (some .boolean)) (by decide) rfl ?_
  intro p e s m args below meth c s₁ B hml hv
  obtain ⟨ha, hP, hK, hN, hM⟩ := hv
  have hx := B.exec
  have hb := B.bytes
  have hr := B.returns
  have hg : ∀ w ∈ gw, w.before args s = true := fun w h9 => atoms_spec (ws := w_Mo_has) B.pre w (List.mem_cons_of_mem _ h9)
  have hown : s.vm.findClass "ClauseLedgerModel" = some m.cls := findClass_of_methodNamed B.named
  have hlocks := B.notSynchronized
  have he : entryFrame m args 5 = entryFrame m ([.ref (h 0), .int a1, .int a2] : List Value).toArray 5 := by rw [ha]
  rw [he, lg_entry_eq]
  have hl := lv_entry ([.ref (h 0), .int a1, .int a2]) (n := 5) (Nat.le_of_ble_eq_true rfl)
  generalize (lg_sl ([.ref (h 0), .int a1, .int a2]) ++ List.replicate (5 - (lg_sl ([.ref (h 0), .int a1, .int a2])).length) Slot.unset).toArray = ls at hl ⊢
  have hl : lv_has ls 5 [(0, .ref (h 0)), (1, .int a1), (2, .int a2)] := hl
  generalize hv : f_Mo_has a1 a2 σ = v
  replace hv := hv.symm
  have B5 : ∀ (n5 : Nat) (ls : Array Slot) (x1 : Int32) (x2 : Int32) (x3 : Int32) (x4 : Int32), v = f_Mo_has_5 n5 x1 x2 x3 x4 σ → k_Mo_has_5 n5 x1 x2 x3 x4 σ → lv_has ls 5 [(0, .ref (h 0)), (1, .int x1), (2, .int x2), (3, .int x3), (4, .int x4)] → W p l e (headSpec w_Mo_has rm_Mo_has).room s m args below meth c s.heap [] 0 0 (MQ below (k2_QcV (.int v)) args s 0 0 (fun _ => False)) (F0 m 5 ls []) := by
    intro n5
    induction n5 with
    | zero => intro ls x1 x2 x3 x4 hv hk hl; exact hk.elim
    | succ n5 ih5 =>
      have B41 : ∀ (ls : Array Slot) (x1 : Int32) (x2 : Int32) (x4 : Int32) (s0 : Int32), v = f_Mo_has_41 (f_Mo_has_5 n5) x1 x2 x4 s0 σ → k_Mo_has_41 (k_Mo_has_5 n5) x1 x2 x4 s0 σ → lv_has ls 5 [(0, .ref (h 0)), (1, .int x1), (2, .int x2), (4, .int x4)] → W p l e (headSpec w_Mo_has rm_Mo_has).room s m args below meth c s.heap [] 0 0 (MQ below (k2_QcV (.int v)) args s 0 0 (fun _ => False)) (F0 m 41 ls [.int s0]) := by
        intro ls x1 x2 x4 s0 hv hk hl
        unfold f_Mo_has_41 at hv
        unfold k_Mo_has_41 at hk
        refine lv_istore_n (lv' := [(3, .int s0), (0, .ref (h 0)), (1, .int x1), (2, .int x2), (4, .int x4)]) hx hb d_Mo_has_41 rfl hl (by decide) rfl (fun ls hl => ?_)
        refine lv_iinc (k := 4) (v := x4 + 1) (lv' := [(4, .int (x4 + 1)), (3, .int s0), (0, .ref (h 0)), (1, .int x1), (2, .int x2)]) hx hb d_Mo_has_42 hl rfl (by first | rfl | simp [lit1, litm1]) (by decide) rfl (fun ls hl => ?_)
        refine lv_goto (tgt := 5) hx hb d_Mo_has_45 (by decide) ?_
        exact ih5 _ x1 x2 s0 (x4 + 1) hv hk (lv_sub hl [2, 3, 4, 1, 0] rfl)
      have B36 : ∀ (ls : Array Slot) (x1 : Int32) (x2 : Int32) (x4 : Int32), v = f_Mo_has_36 (f_Mo_has_5 n5) x1 x2 x4 σ → k_Mo_has_36 (k_Mo_has_5 n5) x1 x2 x4 σ → lv_has ls 5 [(0, .ref (h 0)), (1, .int x1), (2, .int x2), (4, .int x4)] → W p l e (headSpec w_Mo_has rm_Mo_has).room s m args below meth c s.heap [] 0 0 (MQ below (k2_QcV (.int v)) args s 0 0 (fun _ => False)) (F0 m 36 ls []) := by
        intro ls x1 x2 x4 hv hk hl
        unfold f_Mo_has_36 at hv
        unfold k_Mo_has_36 at hk
        refine lv_iconst (v := 1) hx hb d_Mo_has_36 (by decide) ?_
        refine lv_goto (tgt := 41) hx hb d_Mo_has_37 (by decide) ?_
        exact B41 _ x1 x2 x4 1 hv hk (lv_sub hl [0, 1, 2, 3] rfl)
      intro ls x1 x2 x3 x4 hv hk hl
      rw [f_Mo_has_5] at hv
      rw [k_Mo_has_5] at hk
      refine lv_iload hx hb d_Mo_has_5 (lv_at hl 4 rfl) ?_
      refine lv_aload_n hx hb d_Mo_has_7 rfl (lv_at hl 0 rfl) ?_
      refine va_get (v := .ref (h 14)) (C := R_Mo) (T := T_Mo) (N := 51) hx hb hg in_Mo hown hK hP 0 rfl rfl 20 (by decide) (hg _ m_1279) (fun _ h9 => h9) rfl d_Mo_has_8 ?_
      refine lv_iload_n hx hb d_Mo_has_11 rfl (lv_at hl 1 rfl) ?_
      obtain ⟨hk0, hk⟩ := hk
      refine va_iald hx hb hK hP 14 0 rfl rfl hk0 d_Mo_has_12 ?_
      refine lv_icmp_ge (tgt := 48) hx hb d_Mo_has_13 (by decide) (fun hc => ?_) (fun hc => ?_)
      · have hv := hv.trans (if_pos hc)
        have hk := hk.1 hc
        refine lv_iload_n hx hb d_Mo_has_48 rfl (lv_at hl 3 rfl) ?_
        obtain ⟨hk0, hk⟩ := hk
        exact W.zret hx hb hr hk0 (fun t ht hW => ⟨by rw [hv], ht⟩) (fun q h => nomatch h) d_Mo_has_49
      · have hv := hv.trans (if_neg hc)
        have hk := hk.2 hc
        refine lv_iload_n hx hb d_Mo_has_16 rfl (lv_at hl 3 rfl) ?_
        refine lv_if_ne (tgt := 36) hx hb d_Mo_has_17 (by decide) (fun hc => ?_) (fun hc => ?_)
        · have hv := hv.trans (if_neg hc)
          have hk := hk.2 hc
          exact B36 _ x1 x2 x4 hv hk (lv_sub hl [0, 1, 2, 4] rfl)
        · have hv := hv.trans (if_pos hc)
          have hk := hk.1 hc
          refine lv_aload_n hx hb d_Mo_has_20 rfl (lv_at hl 0 rfl) ?_
          refine va_get (v := .ref (h 15)) (C := R_Mo) (T := T_Mo) (N := 51) hx hb hg in_Mo hown hK hP 0 rfl rfl 21 (by decide) (hg _ m_1280) (fun _ h9 => h9) rfl d_Mo_has_21 ?_
          refine lv_bipush (v := 8) hx hb d_Mo_has_24 (by decide) ?_
          refine lv_iload_n hx hb d_Mo_has_26 rfl (lv_at hl 1 rfl) ?_
          refine lv_imul hx hb d_Mo_has_27 ?_
          refine lv_iload hx hb d_Mo_has_28 (lv_at hl 4 rfl) ?_
          refine lv_iadd hx hb d_Mo_has_30 ?_
          obtain ⟨hk0, hk⟩ := hk
          refine va_iald hx hb hK hP 15 0 rfl rfl hk0 d_Mo_has_31 ?_
          refine lv_iload_n hx hb d_Mo_has_32 rfl (lv_at hl 2 rfl) ?_
          refine lv_icmp_ne (tgt := 40) hx hb d_Mo_has_33 (by decide) (fun hc => ?_) (fun hc => ?_)
          · have hv := hv.trans (if_neg hc)
            have hk := hk.2 hc
            refine lv_iconst (v := 0) hx hb d_Mo_has_40 (by decide) ?_
            exact B41 _ x1 x2 x4 0 hv hk (lv_sub hl [0, 1, 2, 4] rfl)
          · have hv := hv.trans (if_pos hc)
            have hk := hk.1 hc
            exact B36 _ x1 x2 x4 hv hk (lv_sub hl [0, 1, 2, 4] rfl)
  unfold f_Mo_has at hv
  unfold k_Mo_has at hk
  refine lv_iconst (v := 0) hx hb d_Mo_has_0 (by decide) ?_
  refine lv_istore_n (lv' := [(3, .int 0), (0, .ref (h 0)), (1, .int a1), (2, .int a2)]) hx hb d_Mo_has_1 rfl hl (by decide) rfl (fun ls hl => ?_)
  refine lv_iconst (v := 0) hx hb d_Mo_has_2 (by decide) ?_
  refine lv_istore (lv' := [(4, .int 0), (3, .int 0), (0, .ref (h 0)), (1, .int a1), (2, .int a2)]) hx hb d_Mo_has_3 hl (by decide) rfl (fun ls hl => ?_)
  exact B5 1000 _ a1 a2 0 0 hv hk (lv_sub hl [2, 3, 4, 1, 0] rfl)

-- ClauseLedgerModel.assume(I)I
abbrev b_Mo_assume : ByteArray := prog_14_method_33_code
def y_Mo_assume : MethodName := ⟨"ClauseLedgerModel", "assume", "(I)I"⟩
theorem hd_Mo_assume : y_Mo_assume.cls ≠ "java/lang/invoke/MethodHandle" ∧ y_Mo_assume.cls ≠ "java/lang/invoke/VarHandle" ∧ (parseMethodDescriptor y_Mo_assume.desc).map (fun d => d.parameters.length) = some 1 := by decide +kernel
theorem d_Mo_assume_0 : decode b_Mo_assume 0 = .ok (.aload_n 0, 1) := by decide +kernel
theorem d_Mo_assume_1 : decode b_Mo_assume 1 = .ok (.invokevirtual 201, 3) := by decide +kernel
theorem d_Mo_assume_4 : decode b_Mo_assume 4 = .ok (.ifCond .eq 5, 3) := by decide +kernel
theorem d_Mo_assume_7 : decode b_Mo_assume 7 = .ok (.iconst (-1), 1) := by decide +kernel
theorem d_Mo_assume_8 : decode b_Mo_assume 8 = .ok (.ireturn, 1) := by decide +kernel
theorem d_Mo_assume_9 : decode b_Mo_assume 9 = .ok (.sipush 1057, 3) := by decide +kernel
theorem d_Mo_assume_12 : decode b_Mo_assume 12 = .ok (.istore_n 2, 1) := by decide +kernel
theorem d_Mo_assume_13 : decode b_Mo_assume 13 = .ok (.aload_n 0, 1) := by decide +kernel
theorem d_Mo_assume_14 : decode b_Mo_assume 14 = .ok (.iload_n 1, 1) := by decide +kernel
theorem d_Mo_assume_15 : decode b_Mo_assume 15 = .ok (.invokevirtual 207, 3) := by decide +kernel
theorem d_Mo_assume_18 : decode b_Mo_assume 18 = .ok (.ifCond .ne 10, 3) := by decide +kernel
theorem d_Mo_assume_21 : decode b_Mo_assume 21 = .ok (.aload_n 0, 1) := by decide +kernel
theorem d_Mo_assume_22 : decode b_Mo_assume 22 = .ok (.iconst 1, 1) := by decide +kernel
theorem d_Mo_assume_23 : decode b_Mo_assume 23 = .ok (.iload_n 2, 1) := by decide +kernel
theorem d_Mo_assume_24 : decode b_Mo_assume 24 = .ok (.invokevirtual 133, 3) := by decide +kernel
theorem d_Mo_assume_27 : decode b_Mo_assume 27 = .ok (.ireturn, 1) := by decide +kernel
theorem d_Mo_assume_28 : decode b_Mo_assume 28 = .ok (.aload_n 0, 1) := by decide +kernel
theorem d_Mo_assume_29 : decode b_Mo_assume 29 = .ok (.iload_n 1, 1) := by decide +kernel
theorem d_Mo_assume_30 : decode b_Mo_assume 30 = .ok (.invokevirtual 186, 3) := by decide +kernel
theorem d_Mo_assume_33 : decode b_Mo_assume 33 = .ok (.ifCond .ne 10, 3) := by decide +kernel
theorem d_Mo_assume_36 : decode b_Mo_assume 36 = .ok (.aload_n 0, 1) := by decide +kernel
theorem d_Mo_assume_37 : decode b_Mo_assume 37 = .ok (.iconst 2, 1) := by decide +kernel
theorem d_Mo_assume_38 : decode b_Mo_assume 38 = .ok (.iload_n 2, 1) := by decide +kernel
theorem d_Mo_assume_39 : decode b_Mo_assume 39 = .ok (.invokevirtual 133, 3) := by decide +kernel
theorem d_Mo_assume_42 : decode b_Mo_assume 42 = .ok (.ireturn, 1) := by decide +kernel
theorem d_Mo_assume_43 : decode b_Mo_assume 43 = .ok (.aload_n 0, 1) := by decide +kernel
theorem d_Mo_assume_44 : decode b_Mo_assume 44 = .ok (.iload_n 1, 1) := by decide +kernel
theorem d_Mo_assume_45 : decode b_Mo_assume 45 = .ok (.invokevirtual 210, 3) := by decide +kernel
theorem d_Mo_assume_48 : decode b_Mo_assume 48 = .ok (.aload_n 0, 1) := by decide +kernel
theorem d_Mo_assume_49 : decode b_Mo_assume 49 = .ok (.aload_n 0, 1) := by decide +kernel
theorem d_Mo_assume_50 : decode b_Mo_assume 50 = .ok (.getfield 214, 3) := by decide +kernel
theorem d_Mo_assume_53 : decode b_Mo_assume 53 = .ok (.iload_n 2, 1) := by decide +kernel
theorem d_Mo_assume_54 : decode b_Mo_assume 54 = .ok (.invokevirtual 217, 3) := by decide +kernel
theorem d_Mo_assume_57 : decode b_Mo_assume 57 = .ok (.istore_n 3, 1) := by decide +kernel
theorem d_Mo_assume_58 : decode b_Mo_assume 58 = .ok (.aload_n 0, 1) := by decide +kernel
theorem d_Mo_assume_59 : decode b_Mo_assume 59 = .ok (.getfield 103, 3) := by decide +kernel
theorem d_Mo_assume_62 : decode b_Mo_assume 62 = .ok (.ifCond .ne 10, 3) := by decide +kernel
theorem d_Mo_assume_65 : decode b_Mo_assume 65 = .ok (.aload_n 0, 1) := by decide +kernel
theorem d_Mo_assume_66 : decode b_Mo_assume 66 = .ok (.getfield 62, 3) := by decide +kernel
theorem d_Mo_assume_69 : decode b_Mo_assume 69 = .ok (.iload_n 3, 1) := by decide +kernel
theorem d_Mo_assume_70 : decode b_Mo_assume 70 = .ok (.iconst 1, 1) := by decide +kernel
theorem d_Mo_assume_71 : decode b_Mo_assume 71 = .ok (.bastore, 1) := by decide +kernel
theorem d_Mo_assume_72 : decode b_Mo_assume 72 = .ok (.iload_n 3, 1) := by decide +kernel
theorem d_Mo_assume_73 : decode b_Mo_assume 73 = .ok (.ireturn, 1) := by decide +kernel
def f_Mo_assume_27 (s0 : Int32) (σ : St) : Int32 × St := (s0, σ)
def k_Mo_assume_27 (s0 : Int32) (σ : St) : Prop := True
def f_Mo_assume_42 (s0 : Int32) (σ : St) : Int32 × St := (s0, σ)
def k_Mo_assume_42 (s0 : Int32) (σ : St) : Prop := True
def f_Mo_assume_72 (x3 : Int32) (σ : St) : Int32 × St := (x3, σ)
def k_Mo_assume_72 (x3 : Int32) (σ : St) : Prop := True
def f_Mo_assume_58 (x3 : Int32) (σ : St) : Int32 × St := if (σ.1 0 0) = 0 then (f_Mo_assume_72 x3 (sA σ 17 x3 (vp_nar .boolean 1))) else (f_Mo_assume_72 x3 σ)
def k_Mo_assume_58 (x3 : Int32) (σ : St) : Prop := ((σ.1 0 0) = 0 → (vp_in x3 60 ∧ (k_Mo_assume_72 x3 (sA σ 17 x3 (vp_nar .boolean 1))))) ∧ (¬ (σ.1 0 0) = 0 → (k_Mo_assume_72 x3 σ))
def f_Mo_assume_57 (s0 : Int32) (σ : St) : Int32 × St := f_Mo_assume_58 s0 σ
def k_Mo_assume_57 (s0 : Int32) (σ : St) : Prop := k_Mo_assume_58 s0 σ
def f_Mo_assume_48 (x2 : Int32) (σ : St) : Int32 × St := f_Mo_assume_57 ((f_Mo_enter (σ.1 0 25) x2 σ).1) ((f_Mo_enter (σ.1 0 25) x2 σ).2)
def k_Mo_assume_48 (x2 : Int32) (σ : St) : Prop := (k_Mo_enter (σ.1 0 25) x2 σ) ∧ (k_Mo_assume_57 ((f_Mo_enter (σ.1 0 25) x2 σ).1) ((f_Mo_enter (σ.1 0 25) x2 σ).2))
def f_Mo_assume_4 (x1 : Int32) (s0 : Int32) (σ : St) : Int32 × St := if s0 = 0 then (if (f_Mo_isTerm x1 σ) = 0 then (f_Mo_assume_27 ((f_Mo_fails 1 1057 σ).1) ((f_Mo_fails 1 1057 σ).2)) else (if (f_Mo_isTruth x1 σ) = 0 then (f_Mo_assume_42 ((f_Mo_fails 2 1057 σ).1) ((f_Mo_fails 2 1057 σ).2)) else (f_Mo_assume_48 1057 (f_Mo_join x1 σ)))) else ((-1), σ)
def k_Mo_assume_4 (x1 : Int32) (s0 : Int32) (σ : St) : Prop := (s0 = 0 → ((k_Mo_isTerm x1 σ) ∧ (((f_Mo_isTerm x1 σ) = 0 → ((k_Mo_fails 1 1057 σ) ∧ (k_Mo_assume_27 ((f_Mo_fails 1 1057 σ).1) ((f_Mo_fails 1 1057 σ).2)))) ∧ (¬ (f_Mo_isTerm x1 σ) = 0 → ((k_Mo_isTruth x1 σ) ∧ (((f_Mo_isTruth x1 σ) = 0 → ((k_Mo_fails 2 1057 σ) ∧ (k_Mo_assume_42 ((f_Mo_fails 2 1057 σ).1) ((f_Mo_fails 2 1057 σ).2)))) ∧ (¬ (f_Mo_isTruth x1 σ) = 0 → ((k_Mo_join x1 σ) ∧ (k_Mo_assume_48 1057 (f_Mo_join x1 σ)))))))))) ∧ (¬ s0 = 0 → True)
def f_Mo_assume (a1 : Int32) (σ : St) : Int32 × St := f_Mo_assume_4 a1 ((f_Mo_begin σ).1) ((f_Mo_begin σ).2)
def k_Mo_assume (a1 : Int32) (σ : St) : Prop := (k_Mo_begin σ) ∧ (k_Mo_assume_4 a1 ((f_Mo_begin σ).1) ((f_Mo_begin σ).2))
abbrev w_Mo_assume : List Cond := Cond.code y_Mo_assume b_Mo_assume 4 (some .int) :: gw
abbrev rm_Mo_assume : Room := { frames := 2, cells := 0, slots := 0, locals := 45 }
set_option maxHeartbeats 4000000 in
set_option maxRecDepth 100000 in
theorem c_Mo_assume (l : Launch) (D : va_G) (ty : Nat → ClassId) (h : Nat → Nat) (px : va_W) (sa : Nat → Nat) (σ : St) (sz : Nat) (a1 : Int32) (hk : k_Mo_assume a1 σ) : Met l y_Mo_assume w_Mo_assume rm_Mo_assume (va_Pc [.ref (h 0), .int a1] (fun U => U.heap.size = sz ∧ va_P D classes (Wm ty h σ px) U.heap ∧ va_K D classes (Ta ty) U ∧ NW U ∧ MK sa (va_A (Wm ty h σ px) sz) U U.heap ∧ va_D (fun _ => True) (Wm ty h σ px))) (va_Qi (fun r (u : St) => (r, u) = f_Mo_assume a1 σ) (fun u t => va_P D classes (Wm ty h u px) t.heap) (va_A (Wm ty h σ px) sz)) 0 0 (va_A (Wm ty h σ px) sz) := by
  refine Met.ofW (cc := b_Mo_assume) (maxL := 4) (ret := (some .int)) (by decide) rfl ?_
  intro p e s m args below meth c s₁ B hml hv
  obtain ⟨ha, hsz, hP, hK, hN, hM, hD0⟩ := hv
  have hx := B.exec
  have hb := B.bytes
  have hr := B.returns
  have hg : ∀ w ∈ gw, w.before args s = true := fun w h9 => atoms_spec (ws := w_Mo_assume) B.pre w (List.mem_cons_of_mem _ h9)
  have hown : s.vm.findClass "ClauseLedgerModel" = some m.cls := findClass_of_methodNamed B.named
  have hlocks := B.notSynchronized
  subst hsz
  have hD := hD0.self (sz := s.heap.size)
  generalize hAe : va_A (Wm ty h σ px) s.heap.size = A at hD hM ⊢
  have hA : ∀ q : Nat, s.heap.size ≤ q → A q := fun q h9 => by rw [← hAe]; exact Or.inr h9
  have hS : va_S A s.heap s.heap [] := va_S.rf
  have he : entryFrame m args 4 = entryFrame m ([.ref (h 0), .int a1] : List Value).toArray 4 := by rw [ha]
  rw [he, lg_entry_eq]
  have hl := lv_entry ([.ref (h 0), .int a1]) (n := 4) (Nat.le_of_ble_eq_true rfl)
  generalize (lg_sl ([.ref (h 0), .int a1]) ++ List.replicate (4 - (lg_sl ([.ref (h 0), .int a1])).length) Slot.unset).toArray = ls at hl ⊢
  have hl : lv_has ls 4 [(0, .ref (h 0)), (1, .int a1)] := hl
  generalize hv : f_Mo_assume a1 σ = v
  replace hv := hv.symm
  have B27 : ∀ (H : Heap) (locs : List Loc) (ls : Array Slot) (s0 : Int32) (σ : St), v = f_Mo_assume_27 s0 σ → k_Mo_assume_27 s0 σ → lv_has ls 4 [] → va_P D classes (Wm ty h σ px) H → va_D A (Wm ty h σ px) → va_S A s.heap H locs → W p l e (headSpec w_Mo_assume rm_Mo_assume).room s m args below meth c H locs 0 0 (MQ below (va_Qi (fun r (u : St) => (r, u) = v) (fun u t => va_P D classes (Wm ty h u px) t.heap) A) args s 0 0 A) (F0 m 27 ls [.int s0]) := by
    intro H locs ls s0 σ hv hk hl hP hD hS
    unfold f_Mo_assume_27 at hv
    unfold k_Mo_assume_27 at hk
    exact W.iret hx hb hr (fun t ht hW => ⟨⟨_, _, rfl, hv.symm, by dsimp only; rw [ht]; exact hP⟩, hS.F ht⟩) hS.2.2 d_Mo_assume_27
  have B42 : ∀ (H : Heap) (locs : List Loc) (ls : Array Slot) (s0 : Int32) (σ : St), v = f_Mo_assume_42 s0 σ → k_Mo_assume_42 s0 σ → lv_has ls 4 [] → va_P D classes (Wm ty h σ px) H → va_D A (Wm ty h σ px) → va_S A s.heap H locs → W p l e (headSpec w_Mo_assume rm_Mo_assume).room s m args below meth c H locs 0 0 (MQ below (va_Qi (fun r (u : St) => (r, u) = v) (fun u t => va_P D classes (Wm ty h u px) t.heap) A) args s 0 0 A) (F0 m 42 ls [.int s0]) := by
    intro H locs ls s0 σ hv hk hl hP hD hS
    unfold f_Mo_assume_42 at hv
    unfold k_Mo_assume_42 at hk
    exact W.iret hx hb hr (fun t ht hW => ⟨⟨_, _, rfl, hv.symm, by dsimp only; rw [ht]; exact hP⟩, hS.F ht⟩) hS.2.2 d_Mo_assume_42
  have B72 : ∀ (H : Heap) (locs : List Loc) (ls : Array Slot) (x3 : Int32) (σ : St), v = f_Mo_assume_72 x3 σ → k_Mo_assume_72 x3 σ → lv_has ls 4 [(3, .int x3)] → va_P D classes (Wm ty h σ px) H → va_D A (Wm ty h σ px) → va_S A s.heap H locs → W p l e (headSpec w_Mo_assume rm_Mo_assume).room s m args below meth c H locs 0 0 (MQ below (va_Qi (fun r (u : St) => (r, u) = v) (fun u t => va_P D classes (Wm ty h u px) t.heap) A) args s 0 0 A) (F0 m 72 ls []) := by
    intro H locs ls x3 σ hv hk hl hP hD hS
    unfold f_Mo_assume_72 at hv
    unfold k_Mo_assume_72 at hk
    refine lv_iload_n hx hb d_Mo_assume_72 rfl (lv_at hl 0 rfl) ?_
    exact W.iret hx hb hr (fun t ht hW => ⟨⟨_, _, rfl, hv.symm, by dsimp only; rw [ht]; exact hP⟩, hS.F ht⟩) hS.2.2 d_Mo_assume_73
  have B58 : ∀ (H : Heap) (locs : List Loc) (ls : Array Slot) (x3 : Int32) (σ : St), v = f_Mo_assume_58 x3 σ → k_Mo_assume_58 x3 σ → lv_has ls 4 [(0, .ref (h 0)), (3, .int x3)] → va_P D classes (Wm ty h σ px) H → va_D A (Wm ty h σ px) → va_S A s.heap H locs → W p l e (headSpec w_Mo_assume rm_Mo_assume).room s m args below meth c H locs 0 0 (MQ below (va_Qi (fun r (u : St) => (r, u) = v) (fun u t => va_P D classes (Wm ty h u px) t.heap) A) args s 0 0 A) (F0 m 58 ls []) := by
    intro H locs ls x3 σ hv hk hl hP hD hS
    unfold f_Mo_assume_58 at hv
    unfold k_Mo_assume_58 at hk
    refine lv_aload_n hx hb d_Mo_assume_58 rfl (lv_at hl 0 rfl) ?_
    refine va_get (v := .int (σ.1 0 0)) (C := R_Mo) (T := T_Mo) (N := 51) hx hb hg in_Mo hown hK hP 0 rfl rfl 0 (by decide) (hg _ m_1259) (fun _ h9 => h9) rfl d_Mo_assume_59 ?_
    refine lv_if_ne (tgt := 72) hx hb d_Mo_assume_62 (by decide) (fun hc => ?_) (fun hc => ?_)
    · have hv := hv.trans (if_neg hc)
      have hk := hk.2 hc
      exact B72 _ _ _ x3 σ hv hk (lv_sub hl [1] rfl) hP hD hS
    · have hv := hv.trans (if_pos hc)
      have hk := hk.1 hc
      refine lv_aload_n hx hb d_Mo_assume_65 rfl (lv_at hl 0 rfl) ?_
      refine va_get (v := .ref (h 17)) (C := R_Mo) (T := T_Mo) (N := 51) hx hb hg in_Mo hown hK hP 0 rfl rfl 23 (by decide) (hg _ m_1282) (fun _ h9 => h9) rfl d_Mo_assume_66 ?_
      refine lv_iload_n hx hb d_Mo_assume_69 rfl (lv_at hl 1 rfl) ?_
      refine lv_iconst (v := 1) hx hb d_Mo_assume_70 (by decide) ?_
      obtain ⟨hk0, hk⟩ := hk
      refine va_zast hx hb hK hP hD hS 17 3 rfl rfl hk0 d_Mo_assume_71 (fun H locs hP hD hS => ?_)
      have hP : va_P D classes (Wm ty h (sA σ 17 x3 (vp_nar .boolean 1)) px) H := hP
      have hD : va_D A (Wm ty h (sA σ 17 x3 (vp_nar .boolean 1)) px) := hD
      exact B72 _ _ _ x3 (sA σ 17 x3 (vp_nar .boolean 1)) hv hk (lv_sub hl [1] rfl) hP hD hS
  have B57 : ∀ (H : Heap) (locs : List Loc) (ls : Array Slot) (s0 : Int32) (σ : St), v = f_Mo_assume_57 s0 σ → k_Mo_assume_57 s0 σ → lv_has ls 4 [(0, .ref (h 0))] → va_P D classes (Wm ty h σ px) H → va_D A (Wm ty h σ px) → va_S A s.heap H locs → W p l e (headSpec w_Mo_assume rm_Mo_assume).room s m args below meth c H locs 0 0 (MQ below (va_Qi (fun r (u : St) => (r, u) = v) (fun u t => va_P D classes (Wm ty h u px) t.heap) A) args s 0 0 A) (F0 m 57 ls [.int s0]) := by
    intro H locs ls s0 σ hv hk hl hP hD hS
    unfold f_Mo_assume_57 at hv
    unfold k_Mo_assume_57 at hk
    refine lv_istore_n (lv' := [(3, .int s0), (0, .ref (h 0))]) hx hb d_Mo_assume_57 rfl hl (by decide) rfl (fun ls hl => ?_)
    exact B58 _ _ _ s0 σ hv hk (lv_sub hl [1, 0] rfl) hP hD hS
  have B48 : ∀ (H : Heap) (locs : List Loc) (ls : Array Slot) (x2 : Int32) (σ : St), v = f_Mo_assume_48 x2 σ → k_Mo_assume_48 x2 σ → lv_has ls 4 [(0, .ref (h 0)), (2, .int x2)] → va_P D classes (Wm ty h σ px) H → va_D A (Wm ty h σ px) → va_S A s.heap H locs → W p l e (headSpec w_Mo_assume rm_Mo_assume).room s m args below meth c H locs 0 0 (MQ below (va_Qi (fun r (u : St) => (r, u) = v) (fun u t => va_P D classes (Wm ty h u px) t.heap) A) args s 0 0 A) (F0 m 48 ls []) := by
    intro H locs ls x2 σ hv hk hl hP hD hS
    unfold f_Mo_assume_48 at hv
    unfold k_Mo_assume_48 at hk
    refine lv_aload_n hx hb d_Mo_assume_48 rfl (lv_at hl 0 rfl) ?_
    refine lv_aload_n hx hb d_Mo_assume_49 rfl (lv_at hl 0 rfl) ?_
    refine va_get (v := .int (σ.1 0 25)) (C := R_Mo) (T := T_Mo) (N := 51) hx hb hg in_Mo hown hK hP 0 rfl rfl 25 (by decide) (hg _ m_1284) (fun _ h9 => h9) rfl d_Mo_assume_50 ?_
    refine lv_iload_n hx hb d_Mo_assume_53 rfl (lv_at hl 1 rfl) ?_
    obtain ⟨hk0, hk⟩ := hk
    refine va_calli (va_runV (As := [.int (σ.1 0 25), .int x2]) (rest := []) ⟨hx, hb, hml, hown, hg⟩ (c_Mo_enter l D ty h px sa σ H.size (σ.1 0 25) x2 hk0) ⟨callB_of 2 hg (gw_C m_1527) rfl rfl rfl (hg _ m_13) (hg _ m_1524) hd_Mo_enter ⟨Nat.le_of_ble_eq_true rfl, Nat.le_of_ble_eq_true rfl⟩, hg _ m_1526, hg _ ms_66⟩ (zz_preVW hM hS hA hN hK hP hD 0 rfl rfl) rfl rfl hl.1 rfl (lv_room (Nat.le_of_ble_eq_true rfl)) d_Mo_assume_54 ⟨Nat.le_of_ble_eq_true rfl, Nat.le_of_ble_eq_true rfl⟩) hS (fun q _ h => zz_free hD hS hA q h) (zz_free hD hS hA) (fun r54 u54 t H locs ht hvm hp hP1 hz hk1 hS => ?_)
    rw [ht] at hP1
    rw [← hp] at hv hk
    have hD : va_D A (Wm ty h u54 px) := zz_D hD rfl
    have hP := hP1
    exact B57 _ _ _ r54 u54 hv hk (lv_sub hl [0] rfl) hP hD hS
  have B4 : ∀ (H : Heap) (locs : List Loc) (ls : Array Slot) (x1 : Int32) (s0 : Int32) (σ : St), v = f_Mo_assume_4 x1 s0 σ → k_Mo_assume_4 x1 s0 σ → lv_has ls 4 [(0, .ref (h 0)), (1, .int x1)] → va_P D classes (Wm ty h σ px) H → va_D A (Wm ty h σ px) → va_S A s.heap H locs → W p l e (headSpec w_Mo_assume rm_Mo_assume).room s m args below meth c H locs 0 0 (MQ below (va_Qi (fun r (u : St) => (r, u) = v) (fun u t => va_P D classes (Wm ty h u px) t.heap) A) args s 0 0 A) (F0 m 4 ls [.int s0]) := by
    intro H locs ls x1 s0 σ hv hk hl hP hD hS
    unfold f_Mo_assume_4 at hv
    unfold k_Mo_assume_4 at hk
    refine lv_if_eq (tgt := 9) hx hb d_Mo_assume_4 (by decide) (fun hc => ?_) (fun hc => ?_)
    · have hv := hv.trans (if_pos hc)
      have hk := hk.1 hc
      refine lv_sipush (v := 1057) hx hb d_Mo_assume_9 (by decide) ?_
      refine lv_istore_n (lv' := [(2, .int 1057), (0, .ref (h 0)), (1, .int x1)]) hx hb d_Mo_assume_12 rfl hl (by decide) rfl (fun ls hl => ?_)
      refine lv_aload_n hx hb d_Mo_assume_13 rfl (lv_at hl 1 rfl) ?_
      refine lv_iload_n hx hb d_Mo_assume_14 rfl (lv_at hl 2 rfl) ?_
      obtain ⟨hk0, hk⟩ := hk
      refine zz_callV (va_runV (As := [.int x1]) (rest := []) ⟨hx, hb, hml, hown, hg⟩ (c_Mo_isTerm l D ty h px sa σ x1 hk0) ⟨callB_of 1 hg (gw_C m_1519) rfl rfl rfl (hg _ m_13) (hg _ m_1516) hd_Mo_isTerm ⟨Nat.le_of_ble_eq_true rfl, Nat.le_of_ble_eq_true rfl⟩, hg _ m_1518, hg _ ms_64⟩ (zz_preV (hM.at hS) hN hK hP 0 rfl rfl) rfl rfl hl.1 rfl (lv_room (Nat.le_of_ble_eq_true rfl)) d_Mo_assume_15 ⟨Nat.le_of_ble_eq_true rfl, Nat.le_of_ble_eq_true rfl⟩) ?_
      refine lv_if_ne (tgt := 28) hx hb d_Mo_assume_18 (by decide) (fun hc => ?_) (fun hc => ?_)
      · have hv := hv.trans (if_neg hc)
        have hk := hk.2 hc
        refine lv_aload_n hx hb d_Mo_assume_28 rfl (lv_at hl 1 rfl) ?_
        refine lv_iload_n hx hb d_Mo_assume_29 rfl (lv_at hl 2 rfl) ?_
        obtain ⟨hk0, hk⟩ := hk
        refine zz_callV (va_runV (As := [.int x1]) (rest := []) ⟨hx, hb, hml, hown, hg⟩ (c_Mo_isTruth l D ty h px sa σ x1 hk0) ⟨callB_of 1 hg (gw_C m_1499) rfl rfl rfl (hg _ m_13) (hg _ m_1496) hd_Mo_isTruth ⟨Nat.le_of_ble_eq_true rfl, Nat.le_of_ble_eq_true rfl⟩, hg _ m_1498, hg _ ms_60⟩ (zz_preV (hM.at hS) hN hK hP 0 rfl rfl) rfl rfl hl.1 rfl (lv_room (Nat.le_of_ble_eq_true rfl)) d_Mo_assume_30 ⟨Nat.le_of_ble_eq_true rfl, Nat.le_of_ble_eq_true rfl⟩) ?_
        refine lv_if_ne (tgt := 43) hx hb d_Mo_assume_33 (by decide) (fun hc => ?_) (fun hc => ?_)
        · have hv := hv.trans (if_neg hc)
          have hk := hk.2 hc
          refine lv_aload_n hx hb d_Mo_assume_43 rfl (lv_at hl 1 rfl) ?_
          refine lv_iload_n hx hb d_Mo_assume_44 rfl (lv_at hl 2 rfl) ?_
          obtain ⟨hk0, hk⟩ := hk
          refine va_callv (va_runV (As := [.int x1]) (rest := []) ⟨hx, hb, hml, hown, hg⟩ (c_Mo_join l D ty h px sa σ H.size x1 hk0) ⟨callB_of 1 hg (gw_C m_1523) rfl rfl rfl (hg _ m_13) (hg _ m_1520) hd_Mo_join ⟨Nat.le_of_ble_eq_true rfl, Nat.le_of_ble_eq_true rfl⟩, hg _ m_1522, hg _ ms_65⟩ (zz_preVW hM hS hA hN hK hP hD 0 rfl rfl) rfl rfl hl.1 rfl (lv_room (Nat.le_of_ble_eq_true rfl)) d_Mo_assume_45 ⟨Nat.le_of_ble_eq_true rfl, Nat.le_of_ble_eq_true rfl⟩) hS (fun q _ h => zz_free hD hS hA q h) (zz_free hD hS hA) (fun u45 t H locs ht hvm hp hP1 hz hk1 hS => ?_)
          rw [ht] at hP1
          rw [← hp] at hv hk
          have hD : va_D A (Wm ty h u45 px) := zz_D hD rfl
          have hP := hP1
          exact B48 _ _ _ 1057 u45 hv hk (lv_sub hl [1, 0] rfl) hP hD hS
        · have hv := hv.trans (if_pos hc)
          have hk := hk.1 hc
          refine lv_aload_n hx hb d_Mo_assume_36 rfl (lv_at hl 1 rfl) ?_
          refine lv_iconst (v := 2) hx hb d_Mo_assume_37 (by decide) ?_
          refine lv_iload_n hx hb d_Mo_assume_38 rfl (lv_at hl 0 rfl) ?_
          obtain ⟨hk0, hk⟩ := hk
          refine va_calli (va_runV (As := [.int 2, .int 1057]) (rest := []) ⟨hx, hb, hml, hown, hg⟩ (c_Mo_fails l D ty h px sa σ H.size 2 1057 hk0) ⟨callB_of 2 hg (gw_C m_1507) rfl rfl rfl (hg _ m_13) (hg _ m_1504) hd_Mo_fails ⟨Nat.le_of_ble_eq_true rfl, Nat.le_of_ble_eq_true rfl⟩, hg _ m_1506, hg _ ms_62⟩ (zz_preVW hM hS hA hN hK hP hD 0 rfl rfl) rfl rfl hl.1 rfl (lv_room (Nat.le_of_ble_eq_true rfl)) d_Mo_assume_39 ⟨Nat.le_of_ble_eq_true rfl, Nat.le_of_ble_eq_true rfl⟩) hS (fun q _ h => zz_free hD hS hA q h) (zz_free hD hS hA) (fun r39 u39 t H locs ht hvm hp hP1 hz hk1 hS => ?_)
          rw [ht] at hP1
          rw [← hp] at hv hk
          have hD : va_D A (Wm ty h u39 px) := zz_D hD rfl
          have hP := hP1
          exact B42 _ _ _ r39 u39 hv hk (lv_sub hl [] rfl) hP hD hS
      · have hv := hv.trans (if_pos hc)
        have hk := hk.1 hc
        refine lv_aload_n hx hb d_Mo_assume_21 rfl (lv_at hl 1 rfl) ?_
        refine lv_iconst (v := 1) hx hb d_Mo_assume_22 (by decide) ?_
        refine lv_iload_n hx hb d_Mo_assume_23 rfl (lv_at hl 0 rfl) ?_
        obtain ⟨hk0, hk⟩ := hk
        refine va_calli (va_runV (As := [.int 1, .int 1057]) (rest := []) ⟨hx, hb, hml, hown, hg⟩ (c_Mo_fails l D ty h px sa σ H.size 1 1057 hk0) ⟨callB_of 2 hg (gw_C m_1507) rfl rfl rfl (hg _ m_13) (hg _ m_1504) hd_Mo_fails ⟨Nat.le_of_ble_eq_true rfl, Nat.le_of_ble_eq_true rfl⟩, hg _ m_1506, hg _ ms_62⟩ (zz_preVW hM hS hA hN hK hP hD 0 rfl rfl) rfl rfl hl.1 rfl (lv_room (Nat.le_of_ble_eq_true rfl)) d_Mo_assume_24 ⟨Nat.le_of_ble_eq_true rfl, Nat.le_of_ble_eq_true rfl⟩) hS (fun q _ h => zz_free hD hS hA q h) (zz_free hD hS hA) (fun r24 u24 t H locs ht hvm hp hP1 hz hk1 hS => ?_)
        rw [ht] at hP1
        rw [← hp] at hv hk
        have hD : va_D A (Wm ty h u24 px) := zz_D hD rfl
        have hP := hP1
        exact B27 _ _ _ r24 u24 hv hk (lv_sub hl [] rfl) hP hD hS
    · have hv := hv.trans (if_neg hc)
      have hk := hk.2 hc
      refine lv_iconst (v := -1) hx hb d_Mo_assume_7 (by decide) ?_
      exact W.iret hx hb hr (fun t ht hW => ⟨⟨_, _, rfl, hv.symm, by dsimp only; rw [ht]; exact hP⟩, hS.F ht⟩) hS.2.2 d_Mo_assume_8
  unfold f_Mo_assume at hv
  unfold k_Mo_assume at hk
  refine lv_aload_n hx hb d_Mo_assume_0 rfl (lv_at hl 0 rfl) ?_
  obtain ⟨hk0, hk⟩ := hk
  refine va_calli (va_runV (As := []) (rest := []) ⟨hx, hb, hml, hown, hg⟩ (c_Mo_begin l D ty h px sa σ s.heap.size  hk0) ⟨callB_of 0 hg (gw_C m_1443) rfl rfl rfl (hg _ m_13) (hg _ m_1440) hd_Mo_begin ⟨Nat.le_of_ble_eq_true rfl, Nat.le_of_ble_eq_true rfl⟩, hg _ m_1442, hg _ ms_49⟩ (zz_preVW hM hS hA hN hK hP hD 0 rfl rfl) rfl rfl hl.1 rfl (lv_room (Nat.le_of_ble_eq_true rfl)) d_Mo_assume_1 ⟨Nat.le_of_ble_eq_true rfl, Nat.le_of_ble_eq_true rfl⟩) hS (fun q _ h => zz_free hD hS hA q h) (zz_free hD hS hA) (fun r1 u1 t H locs ht hvm hp hP1 hz hk1 hS => ?_)
  rw [ht] at hP1
  rw [← hp] at hv hk
  have hD : va_D A (Wm ty h u1 px) := zz_D hD rfl
  have hP := hP1
  exact B4 _ _ _ a1 r1 u1 hv hk (lv_sub hl [0, 1] rfl) hP hD hS

-- ClauseLedgerModel.cut(III)I
abbrev b_Mo_cut : ByteArray := prog_14_method_34_code
def y_Mo_cut : MethodName := ⟨"ClauseLedgerModel", "cut", "(III)I"⟩
theorem hd_Mo_cut : y_Mo_cut.cls ≠ "java/lang/invoke/MethodHandle" ∧ y_Mo_cut.cls ≠ "java/lang/invoke/VarHandle" ∧ (parseMethodDescriptor y_Mo_cut.desc).map (fun d => d.parameters.length) = some 3 := by decide +kernel
theorem d_Mo_cut_0 : decode b_Mo_cut 0 = .ok (.aload_n 0, 1) := by decide +kernel
theorem d_Mo_cut_1 : decode b_Mo_cut 1 = .ok (.invokevirtual 201, 3) := by decide +kernel
theorem d_Mo_cut_4 : decode b_Mo_cut 4 = .ok (.ifCond .eq 5, 3) := by decide +kernel
theorem d_Mo_cut_7 : decode b_Mo_cut 7 = .ok (.iconst (-1), 1) := by decide +kernel
theorem d_Mo_cut_8 : decode b_Mo_cut 8 = .ok (.ireturn, 1) := by decide +kernel
theorem d_Mo_cut_9 : decode b_Mo_cut 9 = .ok (.sipush 17185, 3) := by decide +kernel
theorem d_Mo_cut_12 : decode b_Mo_cut 12 = .ok (.istore 4, 2) := by decide +kernel
theorem d_Mo_cut_14 : decode b_Mo_cut 14 = .ok (.aload_n 0, 1) := by decide +kernel
theorem d_Mo_cut_15 : decode b_Mo_cut 15 = .ok (.iload_n 1, 1) := by decide +kernel
theorem d_Mo_cut_16 : decode b_Mo_cut 16 = .ok (.invokevirtual 220, 3) := by decide +kernel
theorem d_Mo_cut_19 : decode b_Mo_cut 19 = .ok (.ifCond .eq 19, 3) := by decide +kernel
theorem d_Mo_cut_22 : decode b_Mo_cut 22 = .ok (.aload_n 0, 1) := by decide +kernel
theorem d_Mo_cut_23 : decode b_Mo_cut 23 = .ok (.iload_n 3, 1) := by decide +kernel
theorem d_Mo_cut_24 : decode b_Mo_cut 24 = .ok (.invokevirtual 220, 3) := by decide +kernel
theorem d_Mo_cut_27 : decode b_Mo_cut 27 = .ok (.ifCond .eq 11, 3) := by decide +kernel
theorem d_Mo_cut_30 : decode b_Mo_cut 30 = .ok (.aload_n 0, 1) := by decide +kernel
theorem d_Mo_cut_31 : decode b_Mo_cut 31 = .ok (.iload_n 2, 1) := by decide +kernel
theorem d_Mo_cut_32 : decode b_Mo_cut 32 = .ok (.invokevirtual 207, 3) := by decide +kernel
theorem d_Mo_cut_35 : decode b_Mo_cut 35 = .ok (.ifCond .ne 11, 3) := by decide +kernel
theorem d_Mo_cut_38 : decode b_Mo_cut 38 = .ok (.aload_n 0, 1) := by decide +kernel
theorem d_Mo_cut_39 : decode b_Mo_cut 39 = .ok (.iconst 1, 1) := by decide +kernel
theorem d_Mo_cut_40 : decode b_Mo_cut 40 = .ok (.iload 4, 2) := by decide +kernel
theorem d_Mo_cut_42 : decode b_Mo_cut 42 = .ok (.invokevirtual 133, 3) := by decide +kernel
theorem d_Mo_cut_45 : decode b_Mo_cut 45 = .ok (.ireturn, 1) := by decide +kernel
theorem d_Mo_cut_46 : decode b_Mo_cut 46 = .ok (.aload_n 0, 1) := by decide +kernel
theorem d_Mo_cut_47 : decode b_Mo_cut 47 = .ok (.iload_n 2, 1) := by decide +kernel
theorem d_Mo_cut_48 : decode b_Mo_cut 48 = .ok (.invokevirtual 186, 3) := by decide +kernel
theorem d_Mo_cut_51 : decode b_Mo_cut 51 = .ok (.ifCond .eq 11, 3) := by decide +kernel
theorem d_Mo_cut_54 : decode b_Mo_cut 54 = .ok (.aload_n 0, 1) := by decide +kernel
theorem d_Mo_cut_55 : decode b_Mo_cut 55 = .ok (.iload_n 2, 1) := by decide +kernel
theorem d_Mo_cut_56 : decode b_Mo_cut 56 = .ok (.invokevirtual 223, 3) := by decide +kernel
theorem d_Mo_cut_59 : decode b_Mo_cut 59 = .ok (.goto 4, 3) := by decide +kernel
theorem d_Mo_cut_62 : decode b_Mo_cut 62 = .ok (.iload_n 2, 1) := by decide +kernel
theorem d_Mo_cut_63 : decode b_Mo_cut 63 = .ok (.istore 5, 2) := by decide +kernel
theorem d_Mo_cut_65 : decode b_Mo_cut 65 = .ok (.aload_n 0, 1) := by decide +kernel
theorem d_Mo_cut_66 : decode b_Mo_cut 66 = .ok (.iload_n 2, 1) := by decide +kernel
theorem d_Mo_cut_67 : decode b_Mo_cut 67 = .ok (.invokevirtual 186, 3) := by decide +kernel
theorem d_Mo_cut_70 : decode b_Mo_cut 70 = .ok (.ifCond .eq 22, 3) := by decide +kernel
theorem d_Mo_cut_73 : decode b_Mo_cut 73 = .ok (.aload_n 0, 1) := by decide +kernel
theorem d_Mo_cut_74 : decode b_Mo_cut 74 = .ok (.iload_n 1, 1) := by decide +kernel
theorem d_Mo_cut_75 : decode b_Mo_cut 75 = .ok (.iload_n 2, 1) := by decide +kernel
theorem d_Mo_cut_76 : decode b_Mo_cut 76 = .ok (.invokevirtual 226, 3) := by decide +kernel
theorem d_Mo_cut_79 : decode b_Mo_cut 79 = .ok (.ifCond .eq 13, 3) := by decide +kernel
theorem d_Mo_cut_82 : decode b_Mo_cut 82 = .ok (.aload_n 0, 1) := by decide +kernel
theorem d_Mo_cut_83 : decode b_Mo_cut 83 = .ok (.iload_n 3, 1) := by decide +kernel
theorem d_Mo_cut_84 : decode b_Mo_cut 84 = .ok (.iload 5, 2) := by decide +kernel
theorem d_Mo_cut_86 : decode b_Mo_cut 86 = .ok (.invokevirtual 226, 3) := by decide +kernel
theorem d_Mo_cut_89 : decode b_Mo_cut 89 = .ok (.ifCond .ne 11, 3) := by decide +kernel
theorem d_Mo_cut_92 : decode b_Mo_cut 92 = .ok (.aload_n 0, 1) := by decide +kernel
theorem d_Mo_cut_93 : decode b_Mo_cut 93 = .ok (.iconst 2, 1) := by decide +kernel
theorem d_Mo_cut_94 : decode b_Mo_cut 94 = .ok (.iload 4, 2) := by decide +kernel
theorem d_Mo_cut_96 : decode b_Mo_cut 96 = .ok (.invokevirtual 133, 3) := by decide +kernel
theorem d_Mo_cut_99 : decode b_Mo_cut 99 = .ok (.ireturn, 1) := by decide +kernel
theorem d_Mo_cut_100 : decode b_Mo_cut 100 = .ok (.iconst 0, 1) := by decide +kernel
theorem d_Mo_cut_101 : decode b_Mo_cut 101 = .ok (.istore 6, 2) := by decide +kernel
theorem d_Mo_cut_103 : decode b_Mo_cut 103 = .ok (.iload 6, 2) := by decide +kernel
theorem d_Mo_cut_105 : decode b_Mo_cut 105 = .ok (.aload_n 0, 1) := by decide +kernel
theorem d_Mo_cut_106 : decode b_Mo_cut 106 = .ok (.getfield 53, 3) := by decide +kernel
theorem d_Mo_cut_109 : decode b_Mo_cut 109 = .ok (.iload_n 1, 1) := by decide +kernel
theorem d_Mo_cut_110 : decode b_Mo_cut 110 = .ok (.iaload, 1) := by decide +kernel
theorem d_Mo_cut_111 : decode b_Mo_cut 111 = .ok (.if_icmp .ge 41, 3) := by decide +kernel
theorem d_Mo_cut_114 : decode b_Mo_cut 114 = .ok (.aload_n 0, 1) := by decide +kernel
theorem d_Mo_cut_115 : decode b_Mo_cut 115 = .ok (.getfield 56, 3) := by decide +kernel
theorem d_Mo_cut_118 : decode b_Mo_cut 118 = .ok (.bipush 8, 2) := by decide +kernel
theorem d_Mo_cut_120 : decode b_Mo_cut 120 = .ok (.iload_n 1, 1) := by decide +kernel
theorem d_Mo_cut_121 : decode b_Mo_cut 121 = .ok (.imul, 1) := by decide +kernel
theorem d_Mo_cut_122 : decode b_Mo_cut 122 = .ok (.iload 6, 2) := by decide +kernel
theorem d_Mo_cut_124 : decode b_Mo_cut 124 = .ok (.iadd, 1) := by decide +kernel
theorem d_Mo_cut_125 : decode b_Mo_cut 125 = .ok (.iaload, 1) := by decide +kernel
theorem d_Mo_cut_126 : decode b_Mo_cut 126 = .ok (.iload_n 2, 1) := by decide +kernel
theorem d_Mo_cut_127 : decode b_Mo_cut 127 = .ok (.if_icmp .eq 19, 3) := by decide +kernel
theorem d_Mo_cut_130 : decode b_Mo_cut 130 = .ok (.aload_n 0, 1) := by decide +kernel
theorem d_Mo_cut_131 : decode b_Mo_cut 131 = .ok (.aload_n 0, 1) := by decide +kernel
theorem d_Mo_cut_132 : decode b_Mo_cut 132 = .ok (.getfield 56, 3) := by decide +kernel
theorem d_Mo_cut_135 : decode b_Mo_cut 135 = .ok (.bipush 8, 2) := by decide +kernel
theorem d_Mo_cut_137 : decode b_Mo_cut 137 = .ok (.iload_n 1, 1) := by decide +kernel
theorem d_Mo_cut_138 : decode b_Mo_cut 138 = .ok (.imul, 1) := by decide +kernel
theorem d_Mo_cut_139 : decode b_Mo_cut 139 = .ok (.iload 6, 2) := by decide +kernel
theorem d_Mo_cut_141 : decode b_Mo_cut 141 = .ok (.iadd, 1) := by decide +kernel
theorem d_Mo_cut_142 : decode b_Mo_cut 142 = .ok (.iaload, 1) := by decide +kernel
theorem d_Mo_cut_143 : decode b_Mo_cut 143 = .ok (.invokevirtual 210, 3) := by decide +kernel
theorem d_Mo_cut_146 : decode b_Mo_cut 146 = .ok (.iinc 6 1, 3) := by decide +kernel
theorem d_Mo_cut_149 : decode b_Mo_cut 149 = .ok (.goto (-46), 3) := by decide +kernel
theorem d_Mo_cut_152 : decode b_Mo_cut 152 = .ok (.iconst 0, 1) := by decide +kernel
theorem d_Mo_cut_153 : decode b_Mo_cut 153 = .ok (.istore 6, 2) := by decide +kernel
theorem d_Mo_cut_155 : decode b_Mo_cut 155 = .ok (.iload 6, 2) := by decide +kernel
theorem d_Mo_cut_157 : decode b_Mo_cut 157 = .ok (.aload_n 0, 1) := by decide +kernel
theorem d_Mo_cut_158 : decode b_Mo_cut 158 = .ok (.getfield 53, 3) := by decide +kernel
theorem d_Mo_cut_161 : decode b_Mo_cut 161 = .ok (.iload_n 3, 1) := by decide +kernel
theorem d_Mo_cut_162 : decode b_Mo_cut 162 = .ok (.iaload, 1) := by decide +kernel
theorem d_Mo_cut_163 : decode b_Mo_cut 163 = .ok (.if_icmp .ge 42, 3) := by decide +kernel
theorem d_Mo_cut_166 : decode b_Mo_cut 166 = .ok (.aload_n 0, 1) := by decide +kernel
theorem d_Mo_cut_167 : decode b_Mo_cut 167 = .ok (.getfield 56, 3) := by decide +kernel
theorem d_Mo_cut_170 : decode b_Mo_cut 170 = .ok (.bipush 8, 2) := by decide +kernel
theorem d_Mo_cut_172 : decode b_Mo_cut 172 = .ok (.iload_n 3, 1) := by decide +kernel
theorem d_Mo_cut_173 : decode b_Mo_cut 173 = .ok (.imul, 1) := by decide +kernel
theorem d_Mo_cut_174 : decode b_Mo_cut 174 = .ok (.iload 6, 2) := by decide +kernel
theorem d_Mo_cut_176 : decode b_Mo_cut 176 = .ok (.iadd, 1) := by decide +kernel
theorem d_Mo_cut_177 : decode b_Mo_cut 177 = .ok (.iaload, 1) := by decide +kernel
theorem d_Mo_cut_178 : decode b_Mo_cut 178 = .ok (.iload 5, 2) := by decide +kernel
theorem d_Mo_cut_180 : decode b_Mo_cut 180 = .ok (.if_icmp .eq 19, 3) := by decide +kernel
theorem d_Mo_cut_183 : decode b_Mo_cut 183 = .ok (.aload_n 0, 1) := by decide +kernel
theorem d_Mo_cut_184 : decode b_Mo_cut 184 = .ok (.aload_n 0, 1) := by decide +kernel
theorem d_Mo_cut_185 : decode b_Mo_cut 185 = .ok (.getfield 56, 3) := by decide +kernel
theorem d_Mo_cut_188 : decode b_Mo_cut 188 = .ok (.bipush 8, 2) := by decide +kernel
theorem d_Mo_cut_190 : decode b_Mo_cut 190 = .ok (.iload_n 3, 1) := by decide +kernel
theorem d_Mo_cut_191 : decode b_Mo_cut 191 = .ok (.imul, 1) := by decide +kernel
theorem d_Mo_cut_192 : decode b_Mo_cut 192 = .ok (.iload 6, 2) := by decide +kernel
theorem d_Mo_cut_194 : decode b_Mo_cut 194 = .ok (.iadd, 1) := by decide +kernel
theorem d_Mo_cut_195 : decode b_Mo_cut 195 = .ok (.iaload, 1) := by decide +kernel
theorem d_Mo_cut_196 : decode b_Mo_cut 196 = .ok (.invokevirtual 210, 3) := by decide +kernel
theorem d_Mo_cut_199 : decode b_Mo_cut 199 = .ok (.iinc 6 1, 3) := by decide +kernel
theorem d_Mo_cut_202 : decode b_Mo_cut 202 = .ok (.goto (-47), 3) := by decide +kernel
theorem d_Mo_cut_205 : decode b_Mo_cut 205 = .ok (.aload_n 0, 1) := by decide +kernel
theorem d_Mo_cut_206 : decode b_Mo_cut 206 = .ok (.aload_n 0, 1) := by decide +kernel
theorem d_Mo_cut_207 : decode b_Mo_cut 207 = .ok (.getfield 214, 3) := by decide +kernel
theorem d_Mo_cut_210 : decode b_Mo_cut 210 = .ok (.iload 4, 2) := by decide +kernel
theorem d_Mo_cut_212 : decode b_Mo_cut 212 = .ok (.invokevirtual 217, 3) := by decide +kernel
theorem d_Mo_cut_215 : decode b_Mo_cut 215 = .ok (.ireturn, 1) := by decide +kernel
def f_Mo_cut_45 (s0 : Int32) (σ : St) : Int32 × St := (s0, σ)
def k_Mo_cut_45 (s0 : Int32) (σ : St) : Prop := True
def f_Mo_cut_38 (x4 : Int32) (σ : St) : Int32 × St := f_Mo_cut_45 ((f_Mo_fails 1 x4 σ).1) ((f_Mo_fails 1 x4 σ).2)
def k_Mo_cut_38 (x4 : Int32) (σ : St) : Prop := (k_Mo_fails 1 x4 σ) ∧ (k_Mo_cut_45 ((f_Mo_fails 1 x4 σ).1) ((f_Mo_fails 1 x4 σ).2))
def f_Mo_cut_99 (s0 : Int32) (σ : St) : Int32 × St := (s0, σ)
def k_Mo_cut_99 (s0 : Int32) (σ : St) : Prop := True
def f_Mo_cut_92 (x4 : Int32) (σ : St) : Int32 × St := f_Mo_cut_99 ((f_Mo_fails 2 x4 σ).1) ((f_Mo_fails 2 x4 σ).2)
def k_Mo_cut_92 (x4 : Int32) (σ : St) : Prop := (k_Mo_fails 2 x4 σ) ∧ (k_Mo_cut_99 ((f_Mo_fails 2 x4 σ).1) ((f_Mo_fails 2 x4 σ).2))
def f_Mo_cut_146 (F103 : (Int32 → Int32 → Int32 → Int32 → Int32 → Int32 → St → Int32 × St)) (x1 : Int32) (x2 : Int32) (x3 : Int32) (x4 : Int32) (x5 : Int32) (x6 : Int32) (σ : St) : Int32 × St := F103 x1 x2 x3 x4 x5 (x6 + 1) σ
def k_Mo_cut_146 (K103 : (Int32 → Int32 → Int32 → Int32 → Int32 → Int32 → St → Prop)) (x1 : Int32) (x2 : Int32) (x3 : Int32) (x4 : Int32) (x5 : Int32) (x6 : Int32) (σ : St) : Prop := K103 x1 x2 x3 x4 x5 (x6 + 1) σ
def f_Mo_cut_199 (F155 : (Int32 → Int32 → Int32 → Int32 → St → Int32 × St)) (x3 : Int32) (x4 : Int32) (x5 : Int32) (x6 : Int32) (σ : St) : Int32 × St := F155 x3 x4 x5 (x6 + 1) σ
def k_Mo_cut_199 (K155 : (Int32 → Int32 → Int32 → Int32 → St → Prop)) (x3 : Int32) (x4 : Int32) (x5 : Int32) (x6 : Int32) (σ : St) : Prop := K155 x3 x4 x5 (x6 + 1) σ
def f_Mo_cut_215 (s0 : Int32) (σ : St) : Int32 × St := (s0, σ)
def k_Mo_cut_215 (s0 : Int32) (σ : St) : Prop := True
def f_Mo_cut_155 : Nat → Int32 → Int32 → Int32 → Int32 → St → Int32 × St
  | 0, _, _, _, _, σ => (0, σ)
  | n + 1, x3, x4, x5, x6, σ => if (σ.1 14 x3.toNatClampNeg) ≤ x6 then (f_Mo_cut_215 ((f_Mo_enter (σ.1 0 25) x4 σ).1) ((f_Mo_enter (σ.1 0 25) x4 σ).2)) else (if (σ.1 15 ((8 * x3) + x6).toNatClampNeg) = x5 then (f_Mo_cut_199 (f_Mo_cut_155 n) x3 x4 x5 x6 σ) else (f_Mo_cut_199 (f_Mo_cut_155 n) x3 x4 x5 x6 (f_Mo_join (σ.1 15 ((8 * x3) + x6).toNatClampNeg) σ)))
def k_Mo_cut_155 : Nat → Int32 → Int32 → Int32 → Int32 → St → Prop
  | 0, _, _, _, _, _ => False
  | n + 1, x3, x4, x5, x6, σ => vp_in x3 60 ∧ (((σ.1 14 x3.toNatClampNeg) ≤ x6 → ((k_Mo_enter (σ.1 0 25) x4 σ) ∧ (k_Mo_cut_215 ((f_Mo_enter (σ.1 0 25) x4 σ).1) ((f_Mo_enter (σ.1 0 25) x4 σ).2)))) ∧ (¬ (σ.1 14 x3.toNatClampNeg) ≤ x6 → (vp_in ((8 * x3) + x6) 480 ∧ (((σ.1 15 ((8 * x3) + x6).toNatClampNeg) = x5 → (k_Mo_cut_199 (k_Mo_cut_155 n) x3 x4 x5 x6 σ)) ∧ (¬ (σ.1 15 ((8 * x3) + x6).toNatClampNeg) = x5 → (vp_in ((8 * x3) + x6) 480 ∧ ((k_Mo_join (σ.1 15 ((8 * x3) + x6).toNatClampNeg) σ) ∧ (k_Mo_cut_199 (k_Mo_cut_155 n) x3 x4 x5 x6 (f_Mo_join (σ.1 15 ((8 * x3) + x6).toNatClampNeg) σ)))))))))
def f_Mo_cut_103 : Nat → Int32 → Int32 → Int32 → Int32 → Int32 → Int32 → St → Int32 × St
  | 0, _, _, _, _, _, _, σ => (0, σ)
  | n + 1, x1, x2, x3, x4, x5, x6, σ => if (σ.1 14 x1.toNatClampNeg) ≤ x6 then (f_Mo_cut_155 1000 x3 x4 x5 0 σ) else (if (σ.1 15 ((8 * x1) + x6).toNatClampNeg) = x2 then (f_Mo_cut_146 (f_Mo_cut_103 n) x1 x2 x3 x4 x5 x6 σ) else (f_Mo_cut_146 (f_Mo_cut_103 n) x1 x2 x3 x4 x5 x6 (f_Mo_join (σ.1 15 ((8 * x1) + x6).toNatClampNeg) σ)))
def k_Mo_cut_103 : Nat → Int32 → Int32 → Int32 → Int32 → Int32 → Int32 → St → Prop
  | 0, _, _, _, _, _, _, _ => False
  | n + 1, x1, x2, x3, x4, x5, x6, σ => vp_in x1 60 ∧ (((σ.1 14 x1.toNatClampNeg) ≤ x6 → (k_Mo_cut_155 1000 x3 x4 x5 0 σ)) ∧ (¬ (σ.1 14 x1.toNatClampNeg) ≤ x6 → (vp_in ((8 * x1) + x6) 480 ∧ (((σ.1 15 ((8 * x1) + x6).toNatClampNeg) = x2 → (k_Mo_cut_146 (k_Mo_cut_103 n) x1 x2 x3 x4 x5 x6 σ)) ∧ (¬ (σ.1 15 ((8 * x1) + x6).toNatClampNeg) = x2 → (vp_in ((8 * x1) + x6) 480 ∧ ((k_Mo_join (σ.1 15 ((8 * x1) + x6).toNatClampNeg) σ) ∧ (k_Mo_cut_146 (k_Mo_cut_103 n) x1 x2 x3 x4 x5 x6 (f_Mo_join (σ.1 15 ((8 * x1) + x6).toNatClampNeg) σ)))))))))
def f_Mo_cut_63 (x1 : Int32) (x2 : Int32) (x3 : Int32) (x4 : Int32) (s0 : Int32) (σ : St) : Int32 × St := if (f_Mo_isTruth x2 σ) = 0 then (f_Mo_cut_92 x4 σ) else (if (f_Mo_has x1 x2 σ) = 0 then (f_Mo_cut_92 x4 σ) else (if (f_Mo_has x3 s0 σ) = 0 then (f_Mo_cut_92 x4 σ) else (f_Mo_cut_103 1000 x1 x2 x3 x4 s0 0 σ)))
def k_Mo_cut_63 (x1 : Int32) (x2 : Int32) (x3 : Int32) (x4 : Int32) (s0 : Int32) (σ : St) : Prop := (k_Mo_isTruth x2 σ) ∧ (((f_Mo_isTruth x2 σ) = 0 → (k_Mo_cut_92 x4 σ)) ∧ (¬ (f_Mo_isTruth x2 σ) = 0 → ((k_Mo_has x1 x2 σ) ∧ (((f_Mo_has x1 x2 σ) = 0 → (k_Mo_cut_92 x4 σ)) ∧ (¬ (f_Mo_has x1 x2 σ) = 0 → ((k_Mo_has x3 s0 σ) ∧ (((f_Mo_has x3 s0 σ) = 0 → (k_Mo_cut_92 x4 σ)) ∧ (¬ (f_Mo_has x3 s0 σ) = 0 → (k_Mo_cut_103 1000 x1 x2 x3 x4 s0 0 σ)))))))))
def f_Mo_cut_59 (x1 : Int32) (x2 : Int32) (x3 : Int32) (x4 : Int32) (s0 : Int32) (σ : St) : Int32 × St := f_Mo_cut_63 x1 x2 x3 x4 s0 σ
def k_Mo_cut_59 (x1 : Int32) (x2 : Int32) (x3 : Int32) (x4 : Int32) (s0 : Int32) (σ : St) : Prop := k_Mo_cut_63 x1 x2 x3 x4 s0 σ
def f_Mo_cut_4 (x1 : Int32) (x2 : Int32) (x3 : Int32) (s0 : Int32) (σ : St) : Int32 × St := if s0 = 0 then (if (f_Mo_stands x1 σ) = 0 then (f_Mo_cut_38 17185 σ) else (if (f_Mo_stands x3 σ) = 0 then (f_Mo_cut_38 17185 σ) else (if (f_Mo_isTerm x2 σ) = 0 then (f_Mo_cut_38 17185 σ) else (if (f_Mo_isTruth x2 σ) = 0 then (f_Mo_cut_63 x1 x2 x3 17185 x2 σ) else (f_Mo_cut_59 x1 x2 x3 17185 ((f_Mo_opposite x2 σ).1) ((f_Mo_opposite x2 σ).2)))))) else ((-1), σ)
def k_Mo_cut_4 (x1 : Int32) (x2 : Int32) (x3 : Int32) (s0 : Int32) (σ : St) : Prop := (s0 = 0 → ((k_Mo_stands x1 σ) ∧ (((f_Mo_stands x1 σ) = 0 → (k_Mo_cut_38 17185 σ)) ∧ (¬ (f_Mo_stands x1 σ) = 0 → ((k_Mo_stands x3 σ) ∧ (((f_Mo_stands x3 σ) = 0 → (k_Mo_cut_38 17185 σ)) ∧ (¬ (f_Mo_stands x3 σ) = 0 → ((k_Mo_isTerm x2 σ) ∧ (((f_Mo_isTerm x2 σ) = 0 → (k_Mo_cut_38 17185 σ)) ∧ (¬ (f_Mo_isTerm x2 σ) = 0 → ((k_Mo_isTruth x2 σ) ∧ (((f_Mo_isTruth x2 σ) = 0 → (k_Mo_cut_63 x1 x2 x3 17185 x2 σ)) ∧ (¬ (f_Mo_isTruth x2 σ) = 0 → ((k_Mo_opposite x2 σ) ∧ (k_Mo_cut_59 x1 x2 x3 17185 ((f_Mo_opposite x2 σ).1) ((f_Mo_opposite x2 σ).2)))))))))))))))) ∧ (¬ s0 = 0 → True)
def f_Mo_cut (a1 : Int32) (a2 : Int32) (a3 : Int32) (σ : St) : Int32 × St := f_Mo_cut_4 a1 a2 a3 ((f_Mo_begin σ).1) ((f_Mo_begin σ).2)
def k_Mo_cut (a1 : Int32) (a2 : Int32) (a3 : Int32) (σ : St) : Prop := (k_Mo_begin σ) ∧ (k_Mo_cut_4 a1 a2 a3 ((f_Mo_begin σ).1) ((f_Mo_begin σ).2))
abbrev w_Mo_cut : List Cond := Cond.code y_Mo_cut b_Mo_cut 7 (some .int) :: gw
abbrev rm_Mo_cut : Room := { frames := 3, cells := 0, slots := 0, locals := 73 }
set_option maxHeartbeats 4000000 in
set_option maxRecDepth 100000 in
theorem c_Mo_cut (l : Launch) (D : va_G) (ty : Nat → ClassId) (h : Nat → Nat) (px : va_W) (sa : Nat → Nat) (σ : St) (sz : Nat) (a1 : Int32) (a2 : Int32) (a3 : Int32) (hk : k_Mo_cut a1 a2 a3 σ) : Met l y_Mo_cut w_Mo_cut rm_Mo_cut (va_Pc [.ref (h 0), .int a1, .int a2, .int a3] (fun U => U.heap.size = sz ∧ va_P D classes (Wm ty h σ px) U.heap ∧ va_K D classes (Ta ty) U ∧ NW U ∧ MK sa (va_A (Wm ty h σ px) sz) U U.heap ∧ va_D (fun _ => True) (Wm ty h σ px))) (va_Qi (fun r (u : St) => (r, u) = f_Mo_cut a1 a2 a3 σ) (fun u t => va_P D classes (Wm ty h u px) t.heap) (va_A (Wm ty h σ px) sz)) 0 0 (va_A (Wm ty h σ px) sz) := by
  refine Met.ofW (cc := b_Mo_cut) (maxL := 7) (ret := (some .int)) (by decide) rfl ?_
  intro p e s m args below meth c s₁ B hml hv
  obtain ⟨ha, hsz, hP, hK, hN, hM, hD0⟩ := hv
  have hx := B.exec
  have hb := B.bytes
  have hr := B.returns
  have hg : ∀ w ∈ gw, w.before args s = true := fun w h9 => atoms_spec (ws := w_Mo_cut) B.pre w (List.mem_cons_of_mem _ h9)
  have hown : s.vm.findClass "ClauseLedgerModel" = some m.cls := findClass_of_methodNamed B.named
  have hlocks := B.notSynchronized
  subst hsz
  have hD := hD0.self (sz := s.heap.size)
  generalize hAe : va_A (Wm ty h σ px) s.heap.size = A at hD hM ⊢
  have hA : ∀ q : Nat, s.heap.size ≤ q → A q := fun q h9 => by rw [← hAe]; exact Or.inr h9
  have hS : va_S A s.heap s.heap [] := va_S.rf
  have he : entryFrame m args 7 = entryFrame m ([.ref (h 0), .int a1, .int a2, .int a3] : List Value).toArray 7 := by rw [ha]
  rw [he, lg_entry_eq]
  have hl := lv_entry ([.ref (h 0), .int a1, .int a2, .int a3]) (n := 7) (Nat.le_of_ble_eq_true rfl)
  generalize (lg_sl ([.ref (h 0), .int a1, .int a2, .int a3]) ++ List.replicate (7 - (lg_sl ([.ref (h 0), .int a1, .int a2, .int a3])).length) Slot.unset).toArray = ls at hl ⊢
  have hl : lv_has ls 7 [(0, .ref (h 0)), (1, .int a1), (2, .int a2), (3, .int a3)] := hl
  generalize hv : f_Mo_cut a1 a2 a3 σ = v
  replace hv := hv.symm
  have B45 : ∀ (H : Heap) (locs : List Loc) (ls : Array Slot) (s0 : Int32) (σ : St), v = f_Mo_cut_45 s0 σ → k_Mo_cut_45 s0 σ → lv_has ls 7 [] → va_P D classes (Wm ty h σ px) H → va_D A (Wm ty h σ px) → va_S A s.heap H locs → W p l e (headSpec w_Mo_cut rm_Mo_cut).room s m args below meth c H locs 0 0 (MQ below (va_Qi (fun r (u : St) => (r, u) = v) (fun u t => va_P D classes (Wm ty h u px) t.heap) A) args s 0 0 A) (F0 m 45 ls [.int s0]) := by
    intro H locs ls s0 σ hv hk hl hP hD hS
    unfold f_Mo_cut_45 at hv
    unfold k_Mo_cut_45 at hk
    exact W.iret hx hb hr (fun t ht hW => ⟨⟨_, _, rfl, hv.symm, by dsimp only; rw [ht]; exact hP⟩, hS.F ht⟩) hS.2.2 d_Mo_cut_45
  have B38 : ∀ (H : Heap) (locs : List Loc) (ls : Array Slot) (x4 : Int32) (σ : St), v = f_Mo_cut_38 x4 σ → k_Mo_cut_38 x4 σ → lv_has ls 7 [(0, .ref (h 0)), (4, .int x4)] → va_P D classes (Wm ty h σ px) H → va_D A (Wm ty h σ px) → va_S A s.heap H locs → W p l e (headSpec w_Mo_cut rm_Mo_cut).room s m args below meth c H locs 0 0 (MQ below (va_Qi (fun r (u : St) => (r, u) = v) (fun u t => va_P D classes (Wm ty h u px) t.heap) A) args s 0 0 A) (F0 m 38 ls []) := by
    intro H locs ls x4 σ hv hk hl hP hD hS
    unfold f_Mo_cut_38 at hv
    unfold k_Mo_cut_38 at hk
    refine lv_aload_n hx hb d_Mo_cut_38 rfl (lv_at hl 0 rfl) ?_
    refine lv_iconst (v := 1) hx hb d_Mo_cut_39 (by decide) ?_
    refine lv_iload hx hb d_Mo_cut_40 (lv_at hl 1 rfl) ?_
    obtain ⟨hk0, hk⟩ := hk
    refine va_calli (va_runV (As := [.int 1, .int x4]) (rest := []) ⟨hx, hb, hml, hown, hg⟩ (c_Mo_fails l D ty h px sa σ H.size 1 x4 hk0) ⟨callB_of 2 hg (gw_C m_1507) rfl rfl rfl (hg _ m_13) (hg _ m_1504) hd_Mo_fails ⟨Nat.le_of_ble_eq_true rfl, Nat.le_of_ble_eq_true rfl⟩, hg _ m_1506, hg _ ms_62⟩ (zz_preVW hM hS hA hN hK hP hD 0 rfl rfl) rfl rfl hl.1 rfl (lv_room (Nat.le_of_ble_eq_true rfl)) d_Mo_cut_42 ⟨Nat.le_of_ble_eq_true rfl, Nat.le_of_ble_eq_true rfl⟩) hS (fun q _ h => zz_free hD hS hA q h) (zz_free hD hS hA) (fun r42 u42 t H locs ht hvm hp hP1 hz hk1 hS => ?_)
    rw [ht] at hP1
    rw [← hp] at hv hk
    have hD : va_D A (Wm ty h u42 px) := zz_D hD rfl
    have hP := hP1
    exact B45 _ _ _ r42 u42 hv hk (lv_sub hl [] rfl) hP hD hS
  have B99 : ∀ (H : Heap) (locs : List Loc) (ls : Array Slot) (s0 : Int32) (σ : St), v = f_Mo_cut_99 s0 σ → k_Mo_cut_99 s0 σ → lv_has ls 7 [] → va_P D classes (Wm ty h σ px) H → va_D A (Wm ty h σ px) → va_S A s.heap H locs → W p l e (headSpec w_Mo_cut rm_Mo_cut).room s m args below meth c H locs 0 0 (MQ below (va_Qi (fun r (u : St) => (r, u) = v) (fun u t => va_P D classes (Wm ty h u px) t.heap) A) args s 0 0 A) (F0 m 99 ls [.int s0]) := by
    intro H locs ls s0 σ hv hk hl hP hD hS
    unfold f_Mo_cut_99 at hv
    unfold k_Mo_cut_99 at hk
    exact W.iret hx hb hr (fun t ht hW => ⟨⟨_, _, rfl, hv.symm, by dsimp only; rw [ht]; exact hP⟩, hS.F ht⟩) hS.2.2 d_Mo_cut_99
  have B92 : ∀ (H : Heap) (locs : List Loc) (ls : Array Slot) (x4 : Int32) (σ : St), v = f_Mo_cut_92 x4 σ → k_Mo_cut_92 x4 σ → lv_has ls 7 [(0, .ref (h 0)), (4, .int x4)] → va_P D classes (Wm ty h σ px) H → va_D A (Wm ty h σ px) → va_S A s.heap H locs → W p l e (headSpec w_Mo_cut rm_Mo_cut).room s m args below meth c H locs 0 0 (MQ below (va_Qi (fun r (u : St) => (r, u) = v) (fun u t => va_P D classes (Wm ty h u px) t.heap) A) args s 0 0 A) (F0 m 92 ls []) := by
    intro H locs ls x4 σ hv hk hl hP hD hS
    unfold f_Mo_cut_92 at hv
    unfold k_Mo_cut_92 at hk
    refine lv_aload_n hx hb d_Mo_cut_92 rfl (lv_at hl 0 rfl) ?_
    refine lv_iconst (v := 2) hx hb d_Mo_cut_93 (by decide) ?_
    refine lv_iload hx hb d_Mo_cut_94 (lv_at hl 1 rfl) ?_
    obtain ⟨hk0, hk⟩ := hk
    refine va_calli (va_runV (As := [.int 2, .int x4]) (rest := []) ⟨hx, hb, hml, hown, hg⟩ (c_Mo_fails l D ty h px sa σ H.size 2 x4 hk0) ⟨callB_of 2 hg (gw_C m_1507) rfl rfl rfl (hg _ m_13) (hg _ m_1504) hd_Mo_fails ⟨Nat.le_of_ble_eq_true rfl, Nat.le_of_ble_eq_true rfl⟩, hg _ m_1506, hg _ ms_62⟩ (zz_preVW hM hS hA hN hK hP hD 0 rfl rfl) rfl rfl hl.1 rfl (lv_room (Nat.le_of_ble_eq_true rfl)) d_Mo_cut_96 ⟨Nat.le_of_ble_eq_true rfl, Nat.le_of_ble_eq_true rfl⟩) hS (fun q _ h => zz_free hD hS hA q h) (zz_free hD hS hA) (fun r96 u96 t H locs ht hvm hp hP1 hz hk1 hS => ?_)
    rw [ht] at hP1
    rw [← hp] at hv hk
    have hD : va_D A (Wm ty h u96 px) := zz_D hD rfl
    have hP := hP1
    exact B99 _ _ _ r96 u96 hv hk (lv_sub hl [] rfl) hP hD hS
  have B215 : ∀ (H : Heap) (locs : List Loc) (ls : Array Slot) (s0 : Int32) (σ : St), v = f_Mo_cut_215 s0 σ → k_Mo_cut_215 s0 σ → lv_has ls 7 [] → va_P D classes (Wm ty h σ px) H → va_D A (Wm ty h σ px) → va_S A s.heap H locs → W p l e (headSpec w_Mo_cut rm_Mo_cut).room s m args below meth c H locs 0 0 (MQ below (va_Qi (fun r (u : St) => (r, u) = v) (fun u t => va_P D classes (Wm ty h u px) t.heap) A) args s 0 0 A) (F0 m 215 ls [.int s0]) := by
    intro H locs ls s0 σ hv hk hl hP hD hS
    unfold f_Mo_cut_215 at hv
    unfold k_Mo_cut_215 at hk
    exact W.iret hx hb hr (fun t ht hW => ⟨⟨_, _, rfl, hv.symm, by dsimp only; rw [ht]; exact hP⟩, hS.F ht⟩) hS.2.2 d_Mo_cut_215
  have B155 : ∀ (n155 : Nat) (H : Heap) (locs : List Loc) (ls : Array Slot) (x3 : Int32) (x4 : Int32) (x5 : Int32) (x6 : Int32) (σ : St), v = f_Mo_cut_155 n155 x3 x4 x5 x6 σ → k_Mo_cut_155 n155 x3 x4 x5 x6 σ → lv_has ls 7 [(0, .ref (h 0)), (3, .int x3), (4, .int x4), (5, .int x5), (6, .int x6)] → va_P D classes (Wm ty h σ px) H → va_D A (Wm ty h σ px) → va_S A s.heap H locs → W p l e (headSpec w_Mo_cut rm_Mo_cut).room s m args below meth c H locs 0 0 (MQ below (va_Qi (fun r (u : St) => (r, u) = v) (fun u t => va_P D classes (Wm ty h u px) t.heap) A) args s 0 0 A) (F0 m 155 ls []) := by
    intro n155
    induction n155 with
    | zero => intro H locs ls x3 x4 x5 x6 σ hv hk hl hP hD hS; exact hk.elim
    | succ n155 ih155 =>
      have B199 : ∀ (H : Heap) (locs : List Loc) (ls : Array Slot) (x3 : Int32) (x4 : Int32) (x5 : Int32) (x6 : Int32) (σ : St), v = f_Mo_cut_199 (f_Mo_cut_155 n155) x3 x4 x5 x6 σ → k_Mo_cut_199 (k_Mo_cut_155 n155) x3 x4 x5 x6 σ → lv_has ls 7 [(0, .ref (h 0)), (3, .int x3), (4, .int x4), (5, .int x5), (6, .int x6)] → va_P D classes (Wm ty h σ px) H → va_D A (Wm ty h σ px) → va_S A s.heap H locs → W p l e (headSpec w_Mo_cut rm_Mo_cut).room s m args below meth c H locs 0 0 (MQ below (va_Qi (fun r (u : St) => (r, u) = v) (fun u t => va_P D classes (Wm ty h u px) t.heap) A) args s 0 0 A) (F0 m 199 ls []) := by
        intro H locs ls x3 x4 x5 x6 σ hv hk hl hP hD hS
        unfold f_Mo_cut_199 at hv
        unfold k_Mo_cut_199 at hk
        refine lv_iinc (k := 4) (v := x6 + 1) (lv' := [(6, .int (x6 + 1)), (0, .ref (h 0)), (3, .int x3), (4, .int x4), (5, .int x5)]) hx hb d_Mo_cut_199 hl rfl (by first | rfl | simp [lit1, litm1]) (by decide) rfl (fun ls hl => ?_)
        refine lv_goto (tgt := 155) hx hb d_Mo_cut_202 (by decide) ?_
        exact ih155 _ _ _ x3 x4 x5 (x6 + 1) σ hv hk (lv_sub hl [1, 2, 3, 4, 0] rfl) hP hD hS
      intro H locs ls x3 x4 x5 x6 σ hv hk hl hP hD hS
      rw [f_Mo_cut_155] at hv
      rw [k_Mo_cut_155] at hk
      refine lv_iload hx hb d_Mo_cut_155 (lv_at hl 4 rfl) ?_
      refine lv_aload_n hx hb d_Mo_cut_157 rfl (lv_at hl 0 rfl) ?_
      refine va_get (v := .ref (h 14)) (C := R_Mo) (T := T_Mo) (N := 51) hx hb hg in_Mo hown hK hP 0 rfl rfl 20 (by decide) (hg _ m_1279) (fun _ h9 => h9) rfl d_Mo_cut_158 ?_
      refine lv_iload_n hx hb d_Mo_cut_161 rfl (lv_at hl 1 rfl) ?_
      obtain ⟨hk0, hk⟩ := hk
      refine va_iald hx hb hK hP 14 0 rfl rfl hk0 d_Mo_cut_162 ?_
      refine lv_icmp_ge (tgt := 205) hx hb d_Mo_cut_163 (by decide) (fun hc => ?_) (fun hc => ?_)
      · have hv := hv.trans (if_pos hc)
        have hk := hk.1 hc
        refine lv_aload_n hx hb d_Mo_cut_205 rfl (lv_at hl 0 rfl) ?_
        refine lv_aload_n hx hb d_Mo_cut_206 rfl (lv_at hl 0 rfl) ?_
        refine va_get (v := .int (σ.1 0 25)) (C := R_Mo) (T := T_Mo) (N := 51) hx hb hg in_Mo hown hK hP 0 rfl rfl 25 (by decide) (hg _ m_1284) (fun _ h9 => h9) rfl d_Mo_cut_207 ?_
        refine lv_iload hx hb d_Mo_cut_210 (lv_at hl 2 rfl) ?_
        obtain ⟨hk0, hk⟩ := hk
        refine va_calli (va_runV (As := [.int (σ.1 0 25), .int x4]) (rest := []) ⟨hx, hb, hml, hown, hg⟩ (c_Mo_enter l D ty h px sa σ H.size (σ.1 0 25) x4 hk0) ⟨callB_of 2 hg (gw_C m_1527) rfl rfl rfl (hg _ m_13) (hg _ m_1524) hd_Mo_enter ⟨Nat.le_of_ble_eq_true rfl, Nat.le_of_ble_eq_true rfl⟩, hg _ m_1526, hg _ ms_66⟩ (zz_preVW hM hS hA hN hK hP hD 0 rfl rfl) rfl rfl hl.1 rfl (lv_room (Nat.le_of_ble_eq_true rfl)) d_Mo_cut_212 ⟨Nat.le_of_ble_eq_true rfl, Nat.le_of_ble_eq_true rfl⟩) hS (fun q _ h => zz_free hD hS hA q h) (zz_free hD hS hA) (fun r212 u212 t H locs ht hvm hp hP1 hz hk1 hS => ?_)
        rw [ht] at hP1
        rw [← hp] at hv hk
        have hD : va_D A (Wm ty h u212 px) := zz_D hD rfl
        have hP := hP1
        exact B215 _ _ _ r212 u212 hv hk (lv_sub hl [] rfl) hP hD hS
      · have hv := hv.trans (if_neg hc)
        have hk := hk.2 hc
        refine lv_aload_n hx hb d_Mo_cut_166 rfl (lv_at hl 0 rfl) ?_
        refine va_get (v := .ref (h 15)) (C := R_Mo) (T := T_Mo) (N := 51) hx hb hg in_Mo hown hK hP 0 rfl rfl 21 (by decide) (hg _ m_1280) (fun _ h9 => h9) rfl d_Mo_cut_167 ?_
        refine lv_bipush (v := 8) hx hb d_Mo_cut_170 (by decide) ?_
        refine lv_iload_n hx hb d_Mo_cut_172 rfl (lv_at hl 1 rfl) ?_
        refine lv_imul hx hb d_Mo_cut_173 ?_
        refine lv_iload hx hb d_Mo_cut_174 (lv_at hl 4 rfl) ?_
        refine lv_iadd hx hb d_Mo_cut_176 ?_
        obtain ⟨hk0, hk⟩ := hk
        refine va_iald hx hb hK hP 15 0 rfl rfl hk0 d_Mo_cut_177 ?_
        refine lv_iload hx hb d_Mo_cut_178 (lv_at hl 3 rfl) ?_
        refine lv_icmp_eq (tgt := 199) hx hb d_Mo_cut_180 (by decide) (fun hc => ?_) (fun hc => ?_)
        · have hv := hv.trans (if_pos hc)
          have hk := hk.1 hc
          exact B199 _ _ _ x3 x4 x5 x6 σ hv hk (lv_sub hl [0, 1, 2, 3, 4] rfl) hP hD hS
        · have hv := hv.trans (if_neg hc)
          have hk := hk.2 hc
          refine lv_aload_n hx hb d_Mo_cut_183 rfl (lv_at hl 0 rfl) ?_
          refine lv_aload_n hx hb d_Mo_cut_184 rfl (lv_at hl 0 rfl) ?_
          refine va_get (v := .ref (h 15)) (C := R_Mo) (T := T_Mo) (N := 51) hx hb hg in_Mo hown hK hP 0 rfl rfl 21 (by decide) (hg _ m_1280) (fun _ h9 => h9) rfl d_Mo_cut_185 ?_
          refine lv_bipush (v := 8) hx hb d_Mo_cut_188 (by decide) ?_
          refine lv_iload_n hx hb d_Mo_cut_190 rfl (lv_at hl 1 rfl) ?_
          refine lv_imul hx hb d_Mo_cut_191 ?_
          refine lv_iload hx hb d_Mo_cut_192 (lv_at hl 4 rfl) ?_
          refine lv_iadd hx hb d_Mo_cut_194 ?_
          obtain ⟨hk0, hk⟩ := hk
          refine va_iald hx hb hK hP 15 0 rfl rfl hk0 d_Mo_cut_195 ?_
          obtain ⟨hk0, hk⟩ := hk
          refine va_callv (va_runV (As := [.int (σ.1 15 ((8 * x3) + x6).toNatClampNeg)]) (rest := []) ⟨hx, hb, hml, hown, hg⟩ (c_Mo_join l D ty h px sa σ H.size (σ.1 15 ((8 * x3) + x6).toNatClampNeg) hk0) ⟨callB_of 1 hg (gw_C m_1523) rfl rfl rfl (hg _ m_13) (hg _ m_1520) hd_Mo_join ⟨Nat.le_of_ble_eq_true rfl, Nat.le_of_ble_eq_true rfl⟩, hg _ m_1522, hg _ ms_65⟩ (zz_preVW hM hS hA hN hK hP hD 0 rfl rfl) rfl rfl hl.1 rfl (lv_room (Nat.le_of_ble_eq_true rfl)) d_Mo_cut_196 ⟨Nat.le_of_ble_eq_true rfl, Nat.le_of_ble_eq_true rfl⟩) hS (fun q _ h => zz_free hD hS hA q h) (zz_free hD hS hA) (fun u196 t H locs ht hvm hp hP1 hz hk1 hS => ?_)
          rw [ht] at hP1
          rw [← hp] at hv hk
          have hD : va_D A (Wm ty h u196 px) := zz_D hD rfl
          have hP := hP1
          exact B199 _ _ _ x3 x4 x5 x6 u196 hv hk (lv_sub hl [0, 1, 2, 3, 4] rfl) hP hD hS
  have B103 : ∀ (n103 : Nat) (H : Heap) (locs : List Loc) (ls : Array Slot) (x1 : Int32) (x2 : Int32) (x3 : Int32) (x4 : Int32) (x5 : Int32) (x6 : Int32) (σ : St), v = f_Mo_cut_103 n103 x1 x2 x3 x4 x5 x6 σ → k_Mo_cut_103 n103 x1 x2 x3 x4 x5 x6 σ → lv_has ls 7 [(0, .ref (h 0)), (1, .int x1), (2, .int x2), (3, .int x3), (4, .int x4), (5, .int x5), (6, .int x6)] → va_P D classes (Wm ty h σ px) H → va_D A (Wm ty h σ px) → va_S A s.heap H locs → W p l e (headSpec w_Mo_cut rm_Mo_cut).room s m args below meth c H locs 0 0 (MQ below (va_Qi (fun r (u : St) => (r, u) = v) (fun u t => va_P D classes (Wm ty h u px) t.heap) A) args s 0 0 A) (F0 m 103 ls []) := by
    intro n103
    induction n103 with
    | zero => intro H locs ls x1 x2 x3 x4 x5 x6 σ hv hk hl hP hD hS; exact hk.elim
    | succ n103 ih103 =>
      have B146 : ∀ (H : Heap) (locs : List Loc) (ls : Array Slot) (x1 : Int32) (x2 : Int32) (x3 : Int32) (x4 : Int32) (x5 : Int32) (x6 : Int32) (σ : St), v = f_Mo_cut_146 (f_Mo_cut_103 n103) x1 x2 x3 x4 x5 x6 σ → k_Mo_cut_146 (k_Mo_cut_103 n103) x1 x2 x3 x4 x5 x6 σ → lv_has ls 7 [(0, .ref (h 0)), (1, .int x1), (2, .int x2), (3, .int x3), (4, .int x4), (5, .int x5), (6, .int x6)] → va_P D classes (Wm ty h σ px) H → va_D A (Wm ty h σ px) → va_S A s.heap H locs → W p l e (headSpec w_Mo_cut rm_Mo_cut).room s m args below meth c H locs 0 0 (MQ below (va_Qi (fun r (u : St) => (r, u) = v) (fun u t => va_P D classes (Wm ty h u px) t.heap) A) args s 0 0 A) (F0 m 146 ls []) := by
        intro H locs ls x1 x2 x3 x4 x5 x6 σ hv hk hl hP hD hS
        unfold f_Mo_cut_146 at hv
        unfold k_Mo_cut_146 at hk
        refine lv_iinc (k := 6) (v := x6 + 1) (lv' := [(6, .int (x6 + 1)), (0, .ref (h 0)), (1, .int x1), (2, .int x2), (3, .int x3), (4, .int x4), (5, .int x5)]) hx hb d_Mo_cut_146 hl rfl (by first | rfl | simp [lit1, litm1]) (by decide) rfl (fun ls hl => ?_)
        refine lv_goto (tgt := 103) hx hb d_Mo_cut_149 (by decide) ?_
        exact ih103 _ _ _ x1 x2 x3 x4 x5 (x6 + 1) σ hv hk (lv_sub hl [1, 2, 3, 4, 5, 6, 0] rfl) hP hD hS
      intro H locs ls x1 x2 x3 x4 x5 x6 σ hv hk hl hP hD hS
      rw [f_Mo_cut_103] at hv
      rw [k_Mo_cut_103] at hk
      refine lv_iload hx hb d_Mo_cut_103 (lv_at hl 6 rfl) ?_
      refine lv_aload_n hx hb d_Mo_cut_105 rfl (lv_at hl 0 rfl) ?_
      refine va_get (v := .ref (h 14)) (C := R_Mo) (T := T_Mo) (N := 51) hx hb hg in_Mo hown hK hP 0 rfl rfl 20 (by decide) (hg _ m_1279) (fun _ h9 => h9) rfl d_Mo_cut_106 ?_
      refine lv_iload_n hx hb d_Mo_cut_109 rfl (lv_at hl 1 rfl) ?_
      obtain ⟨hk0, hk⟩ := hk
      refine va_iald hx hb hK hP 14 0 rfl rfl hk0 d_Mo_cut_110 ?_
      refine lv_icmp_ge (tgt := 152) hx hb d_Mo_cut_111 (by decide) (fun hc => ?_) (fun hc => ?_)
      · have hv := hv.trans (if_pos hc)
        have hk := hk.1 hc
        refine lv_iconst (v := 0) hx hb d_Mo_cut_152 (by decide) ?_
        refine lv_istore (lv' := [(6, .int 0), (0, .ref (h 0)), (1, .int x1), (2, .int x2), (3, .int x3), (4, .int x4), (5, .int x5)]) hx hb d_Mo_cut_153 hl (by decide) rfl (fun ls hl => ?_)
        exact B155 1000 _ _ _ x3 x4 x5 0 σ hv hk (lv_sub hl [1, 4, 5, 6, 0] rfl) hP hD hS
      · have hv := hv.trans (if_neg hc)
        have hk := hk.2 hc
        refine lv_aload_n hx hb d_Mo_cut_114 rfl (lv_at hl 0 rfl) ?_
        refine va_get (v := .ref (h 15)) (C := R_Mo) (T := T_Mo) (N := 51) hx hb hg in_Mo hown hK hP 0 rfl rfl 21 (by decide) (hg _ m_1280) (fun _ h9 => h9) rfl d_Mo_cut_115 ?_
        refine lv_bipush (v := 8) hx hb d_Mo_cut_118 (by decide) ?_
        refine lv_iload_n hx hb d_Mo_cut_120 rfl (lv_at hl 1 rfl) ?_
        refine lv_imul hx hb d_Mo_cut_121 ?_
        refine lv_iload hx hb d_Mo_cut_122 (lv_at hl 6 rfl) ?_
        refine lv_iadd hx hb d_Mo_cut_124 ?_
        obtain ⟨hk0, hk⟩ := hk
        refine va_iald hx hb hK hP 15 0 rfl rfl hk0 d_Mo_cut_125 ?_
        refine lv_iload_n hx hb d_Mo_cut_126 rfl (lv_at hl 2 rfl) ?_
        refine lv_icmp_eq (tgt := 146) hx hb d_Mo_cut_127 (by decide) (fun hc => ?_) (fun hc => ?_)
        · have hv := hv.trans (if_pos hc)
          have hk := hk.1 hc
          exact B146 _ _ _ x1 x2 x3 x4 x5 x6 σ hv hk (lv_sub hl [0, 1, 2, 3, 4, 5, 6] rfl) hP hD hS
        · have hv := hv.trans (if_neg hc)
          have hk := hk.2 hc
          refine lv_aload_n hx hb d_Mo_cut_130 rfl (lv_at hl 0 rfl) ?_
          refine lv_aload_n hx hb d_Mo_cut_131 rfl (lv_at hl 0 rfl) ?_
          refine va_get (v := .ref (h 15)) (C := R_Mo) (T := T_Mo) (N := 51) hx hb hg in_Mo hown hK hP 0 rfl rfl 21 (by decide) (hg _ m_1280) (fun _ h9 => h9) rfl d_Mo_cut_132 ?_
          refine lv_bipush (v := 8) hx hb d_Mo_cut_135 (by decide) ?_
          refine lv_iload_n hx hb d_Mo_cut_137 rfl (lv_at hl 1 rfl) ?_
          refine lv_imul hx hb d_Mo_cut_138 ?_
          refine lv_iload hx hb d_Mo_cut_139 (lv_at hl 6 rfl) ?_
          refine lv_iadd hx hb d_Mo_cut_141 ?_
          obtain ⟨hk0, hk⟩ := hk
          refine va_iald hx hb hK hP 15 0 rfl rfl hk0 d_Mo_cut_142 ?_
          obtain ⟨hk0, hk⟩ := hk
          refine va_callv (va_runV (As := [.int (σ.1 15 ((8 * x1) + x6).toNatClampNeg)]) (rest := []) ⟨hx, hb, hml, hown, hg⟩ (c_Mo_join l D ty h px sa σ H.size (σ.1 15 ((8 * x1) + x6).toNatClampNeg) hk0) ⟨callB_of 1 hg (gw_C m_1523) rfl rfl rfl (hg _ m_13) (hg _ m_1520) hd_Mo_join ⟨Nat.le_of_ble_eq_true rfl, Nat.le_of_ble_eq_true rfl⟩, hg _ m_1522, hg _ ms_65⟩ (zz_preVW hM hS hA hN hK hP hD 0 rfl rfl) rfl rfl hl.1 rfl (lv_room (Nat.le_of_ble_eq_true rfl)) d_Mo_cut_143 ⟨Nat.le_of_ble_eq_true rfl, Nat.le_of_ble_eq_true rfl⟩) hS (fun q _ h => zz_free hD hS hA q h) (zz_free hD hS hA) (fun u143 t H locs ht hvm hp hP1 hz hk1 hS => ?_)
          rw [ht] at hP1
          rw [← hp] at hv hk
          have hD : va_D A (Wm ty h u143 px) := zz_D hD rfl
          have hP := hP1
          exact B146 _ _ _ x1 x2 x3 x4 x5 x6 u143 hv hk (lv_sub hl [0, 1, 2, 3, 4, 5, 6] rfl) hP hD hS
  have B63 : ∀ (H : Heap) (locs : List Loc) (ls : Array Slot) (x1 : Int32) (x2 : Int32) (x3 : Int32) (x4 : Int32) (s0 : Int32) (σ : St), v = f_Mo_cut_63 x1 x2 x3 x4 s0 σ → k_Mo_cut_63 x1 x2 x3 x4 s0 σ → lv_has ls 7 [(0, .ref (h 0)), (1, .int x1), (2, .int x2), (3, .int x3), (4, .int x4)] → va_P D classes (Wm ty h σ px) H → va_D A (Wm ty h σ px) → va_S A s.heap H locs → W p l e (headSpec w_Mo_cut rm_Mo_cut).room s m args below meth c H locs 0 0 (MQ below (va_Qi (fun r (u : St) => (r, u) = v) (fun u t => va_P D classes (Wm ty h u px) t.heap) A) args s 0 0 A) (F0 m 63 ls [.int s0]) := by
    intro H locs ls x1 x2 x3 x4 s0 σ hv hk hl hP hD hS
    unfold f_Mo_cut_63 at hv
    unfold k_Mo_cut_63 at hk
    refine lv_istore (lv' := [(5, .int s0), (0, .ref (h 0)), (1, .int x1), (2, .int x2), (3, .int x3), (4, .int x4)]) hx hb d_Mo_cut_63 hl (by decide) rfl (fun ls hl => ?_)
    refine lv_aload_n hx hb d_Mo_cut_65 rfl (lv_at hl 1 rfl) ?_
    refine lv_iload_n hx hb d_Mo_cut_66 rfl (lv_at hl 3 rfl) ?_
    obtain ⟨hk0, hk⟩ := hk
    refine zz_callV (va_runV (As := [.int x2]) (rest := []) ⟨hx, hb, hml, hown, hg⟩ (c_Mo_isTruth l D ty h px sa σ x2 hk0) ⟨callB_of 1 hg (gw_C m_1499) rfl rfl rfl (hg _ m_13) (hg _ m_1496) hd_Mo_isTruth ⟨Nat.le_of_ble_eq_true rfl, Nat.le_of_ble_eq_true rfl⟩, hg _ m_1498, hg _ ms_60⟩ (zz_preV (hM.at hS) hN hK hP 0 rfl rfl) rfl rfl hl.1 rfl (lv_room (Nat.le_of_ble_eq_true rfl)) d_Mo_cut_67 ⟨Nat.le_of_ble_eq_true rfl, Nat.le_of_ble_eq_true rfl⟩) ?_
    refine lv_if_eq (tgt := 92) hx hb d_Mo_cut_70 (by decide) (fun hc => ?_) (fun hc => ?_)
    · have hv := hv.trans (if_pos hc)
      have hk := hk.1 hc
      exact B92 _ _ _ x4 σ hv hk (lv_sub hl [1, 5] rfl) hP hD hS
    · have hv := hv.trans (if_neg hc)
      have hk := hk.2 hc
      refine lv_aload_n hx hb d_Mo_cut_73 rfl (lv_at hl 1 rfl) ?_
      refine lv_iload_n hx hb d_Mo_cut_74 rfl (lv_at hl 2 rfl) ?_
      refine lv_iload_n hx hb d_Mo_cut_75 rfl (lv_at hl 3 rfl) ?_
      obtain ⟨hk0, hk⟩ := hk
      refine zz_callV (va_runV (As := [.int x1, .int x2]) (rest := []) ⟨hx, hb, hml, hown, hg⟩ (c_Mo_has l D ty h px sa σ x1 x2 hk0) ⟨callB_of 2 hg (gw_C m_1543) rfl rfl rfl (hg _ m_13) (hg _ m_1540) hd_Mo_has ⟨Nat.le_of_ble_eq_true rfl, Nat.le_of_ble_eq_true rfl⟩, hg _ m_1542, hg _ ms_69⟩ (zz_preV (hM.at hS) hN hK hP 0 rfl rfl) rfl rfl hl.1 rfl (lv_room (Nat.le_of_ble_eq_true rfl)) d_Mo_cut_76 ⟨Nat.le_of_ble_eq_true rfl, Nat.le_of_ble_eq_true rfl⟩) ?_
      refine lv_if_eq (tgt := 92) hx hb d_Mo_cut_79 (by decide) (fun hc => ?_) (fun hc => ?_)
      · have hv := hv.trans (if_pos hc)
        have hk := hk.1 hc
        exact B92 _ _ _ x4 σ hv hk (lv_sub hl [1, 5] rfl) hP hD hS
      · have hv := hv.trans (if_neg hc)
        have hk := hk.2 hc
        refine lv_aload_n hx hb d_Mo_cut_82 rfl (lv_at hl 1 rfl) ?_
        refine lv_iload_n hx hb d_Mo_cut_83 rfl (lv_at hl 4 rfl) ?_
        refine lv_iload hx hb d_Mo_cut_84 (lv_at hl 0 rfl) ?_
        obtain ⟨hk0, hk⟩ := hk
        refine zz_callV (va_runV (As := [.int x3, .int s0]) (rest := []) ⟨hx, hb, hml, hown, hg⟩ (c_Mo_has l D ty h px sa σ x3 s0 hk0) ⟨callB_of 2 hg (gw_C m_1543) rfl rfl rfl (hg _ m_13) (hg _ m_1540) hd_Mo_has ⟨Nat.le_of_ble_eq_true rfl, Nat.le_of_ble_eq_true rfl⟩, hg _ m_1542, hg _ ms_69⟩ (zz_preV (hM.at hS) hN hK hP 0 rfl rfl) rfl rfl hl.1 rfl (lv_room (Nat.le_of_ble_eq_true rfl)) d_Mo_cut_86 ⟨Nat.le_of_ble_eq_true rfl, Nat.le_of_ble_eq_true rfl⟩) ?_
        refine lv_if_ne (tgt := 100) hx hb d_Mo_cut_89 (by decide) (fun hc => ?_) (fun hc => ?_)
        · have hv := hv.trans (if_neg hc)
          have hk := hk.2 hc
          refine lv_iconst (v := 0) hx hb d_Mo_cut_100 (by decide) ?_
          refine lv_istore (lv' := [(6, .int 0), (5, .int s0), (0, .ref (h 0)), (1, .int x1), (2, .int x2), (3, .int x3), (4, .int x4)]) hx hb d_Mo_cut_101 hl (by decide) rfl (fun ls hl => ?_)
          exact B103 1000 _ _ _ x1 x2 x3 x4 s0 0 σ hv hk (lv_sub hl [2, 3, 4, 5, 6, 1, 0] rfl) hP hD hS
        · have hv := hv.trans (if_pos hc)
          have hk := hk.1 hc
          exact B92 _ _ _ x4 σ hv hk (lv_sub hl [1, 5] rfl) hP hD hS
  have B59 : ∀ (H : Heap) (locs : List Loc) (ls : Array Slot) (x1 : Int32) (x2 : Int32) (x3 : Int32) (x4 : Int32) (s0 : Int32) (σ : St), v = f_Mo_cut_59 x1 x2 x3 x4 s0 σ → k_Mo_cut_59 x1 x2 x3 x4 s0 σ → lv_has ls 7 [(0, .ref (h 0)), (1, .int x1), (2, .int x2), (3, .int x3), (4, .int x4)] → va_P D classes (Wm ty h σ px) H → va_D A (Wm ty h σ px) → va_S A s.heap H locs → W p l e (headSpec w_Mo_cut rm_Mo_cut).room s m args below meth c H locs 0 0 (MQ below (va_Qi (fun r (u : St) => (r, u) = v) (fun u t => va_P D classes (Wm ty h u px) t.heap) A) args s 0 0 A) (F0 m 59 ls [.int s0]) := by
    intro H locs ls x1 x2 x3 x4 s0 σ hv hk hl hP hD hS
    unfold f_Mo_cut_59 at hv
    unfold k_Mo_cut_59 at hk
    refine lv_goto (tgt := 63) hx hb d_Mo_cut_59 (by decide) ?_
    exact B63 _ _ _ x1 x2 x3 x4 s0 σ hv hk (lv_sub hl [0, 1, 2, 3, 4] rfl) hP hD hS
  have B4 : ∀ (H : Heap) (locs : List Loc) (ls : Array Slot) (x1 : Int32) (x2 : Int32) (x3 : Int32) (s0 : Int32) (σ : St), v = f_Mo_cut_4 x1 x2 x3 s0 σ → k_Mo_cut_4 x1 x2 x3 s0 σ → lv_has ls 7 [(0, .ref (h 0)), (1, .int x1), (2, .int x2), (3, .int x3)] → va_P D classes (Wm ty h σ px) H → va_D A (Wm ty h σ px) → va_S A s.heap H locs → W p l e (headSpec w_Mo_cut rm_Mo_cut).room s m args below meth c H locs 0 0 (MQ below (va_Qi (fun r (u : St) => (r, u) = v) (fun u t => va_P D classes (Wm ty h u px) t.heap) A) args s 0 0 A) (F0 m 4 ls [.int s0]) := by
    intro H locs ls x1 x2 x3 s0 σ hv hk hl hP hD hS
    unfold f_Mo_cut_4 at hv
    unfold k_Mo_cut_4 at hk
    refine lv_if_eq (tgt := 9) hx hb d_Mo_cut_4 (by decide) (fun hc => ?_) (fun hc => ?_)
    · have hv := hv.trans (if_pos hc)
      have hk := hk.1 hc
      refine lv_sipush (v := 17185) hx hb d_Mo_cut_9 (by decide) ?_
      refine lv_istore (lv' := [(4, .int 17185), (0, .ref (h 0)), (1, .int x1), (2, .int x2), (3, .int x3)]) hx hb d_Mo_cut_12 hl (by decide) rfl (fun ls hl => ?_)
      refine lv_aload_n hx hb d_Mo_cut_14 rfl (lv_at hl 1 rfl) ?_
      refine lv_iload_n hx hb d_Mo_cut_15 rfl (lv_at hl 2 rfl) ?_
      obtain ⟨hk0, hk⟩ := hk
      refine zz_callV (va_runV (As := [.int x1]) (rest := []) ⟨hx, hb, hml, hown, hg⟩ (c_Mo_stands l D ty h px sa σ x1 hk0) ⟨callB_of 1 hg (gw_C m_1535) rfl rfl rfl (hg _ m_13) (hg _ m_1532) hd_Mo_stands ⟨Nat.le_of_ble_eq_true rfl, Nat.le_of_ble_eq_true rfl⟩, hg _ m_1534, hg _ ms_67⟩ (zz_preV (hM.at hS) hN hK hP 0 rfl rfl) rfl rfl hl.1 rfl (lv_room (Nat.le_of_ble_eq_true rfl)) d_Mo_cut_16 ⟨Nat.le_of_ble_eq_true rfl, Nat.le_of_ble_eq_true rfl⟩) ?_
      refine lv_if_eq (tgt := 38) hx hb d_Mo_cut_19 (by decide) (fun hc => ?_) (fun hc => ?_)
      · have hv := hv.trans (if_pos hc)
        have hk := hk.1 hc
        exact B38 _ _ _ 17185 σ hv hk (lv_sub hl [1, 0] rfl) hP hD hS
      · have hv := hv.trans (if_neg hc)
        have hk := hk.2 hc
        refine lv_aload_n hx hb d_Mo_cut_22 rfl (lv_at hl 1 rfl) ?_
        refine lv_iload_n hx hb d_Mo_cut_23 rfl (lv_at hl 4 rfl) ?_
        obtain ⟨hk0, hk⟩ := hk
        refine zz_callV (va_runV (As := [.int x3]) (rest := []) ⟨hx, hb, hml, hown, hg⟩ (c_Mo_stands l D ty h px sa σ x3 hk0) ⟨callB_of 1 hg (gw_C m_1535) rfl rfl rfl (hg _ m_13) (hg _ m_1532) hd_Mo_stands ⟨Nat.le_of_ble_eq_true rfl, Nat.le_of_ble_eq_true rfl⟩, hg _ m_1534, hg _ ms_67⟩ (zz_preV (hM.at hS) hN hK hP 0 rfl rfl) rfl rfl hl.1 rfl (lv_room (Nat.le_of_ble_eq_true rfl)) d_Mo_cut_24 ⟨Nat.le_of_ble_eq_true rfl, Nat.le_of_ble_eq_true rfl⟩) ?_
        refine lv_if_eq (tgt := 38) hx hb d_Mo_cut_27 (by decide) (fun hc => ?_) (fun hc => ?_)
        · have hv := hv.trans (if_pos hc)
          have hk := hk.1 hc
          exact B38 _ _ _ 17185 σ hv hk (lv_sub hl [1, 0] rfl) hP hD hS
        · have hv := hv.trans (if_neg hc)
          have hk := hk.2 hc
          refine lv_aload_n hx hb d_Mo_cut_30 rfl (lv_at hl 1 rfl) ?_
          refine lv_iload_n hx hb d_Mo_cut_31 rfl (lv_at hl 3 rfl) ?_
          obtain ⟨hk0, hk⟩ := hk
          refine zz_callV (va_runV (As := [.int x2]) (rest := []) ⟨hx, hb, hml, hown, hg⟩ (c_Mo_isTerm l D ty h px sa σ x2 hk0) ⟨callB_of 1 hg (gw_C m_1519) rfl rfl rfl (hg _ m_13) (hg _ m_1516) hd_Mo_isTerm ⟨Nat.le_of_ble_eq_true rfl, Nat.le_of_ble_eq_true rfl⟩, hg _ m_1518, hg _ ms_64⟩ (zz_preV (hM.at hS) hN hK hP 0 rfl rfl) rfl rfl hl.1 rfl (lv_room (Nat.le_of_ble_eq_true rfl)) d_Mo_cut_32 ⟨Nat.le_of_ble_eq_true rfl, Nat.le_of_ble_eq_true rfl⟩) ?_
          refine lv_if_ne (tgt := 46) hx hb d_Mo_cut_35 (by decide) (fun hc => ?_) (fun hc => ?_)
          · have hv := hv.trans (if_neg hc)
            have hk := hk.2 hc
            refine lv_aload_n hx hb d_Mo_cut_46 rfl (lv_at hl 1 rfl) ?_
            refine lv_iload_n hx hb d_Mo_cut_47 rfl (lv_at hl 3 rfl) ?_
            obtain ⟨hk0, hk⟩ := hk
            refine zz_callV (va_runV (As := [.int x2]) (rest := []) ⟨hx, hb, hml, hown, hg⟩ (c_Mo_isTruth l D ty h px sa σ x2 hk0) ⟨callB_of 1 hg (gw_C m_1499) rfl rfl rfl (hg _ m_13) (hg _ m_1496) hd_Mo_isTruth ⟨Nat.le_of_ble_eq_true rfl, Nat.le_of_ble_eq_true rfl⟩, hg _ m_1498, hg _ ms_60⟩ (zz_preV (hM.at hS) hN hK hP 0 rfl rfl) rfl rfl hl.1 rfl (lv_room (Nat.le_of_ble_eq_true rfl)) d_Mo_cut_48 ⟨Nat.le_of_ble_eq_true rfl, Nat.le_of_ble_eq_true rfl⟩) ?_
            refine lv_if_eq (tgt := 62) hx hb d_Mo_cut_51 (by decide) (fun hc => ?_) (fun hc => ?_)
            · have hv := hv.trans (if_pos hc)
              have hk := hk.1 hc
              refine lv_iload_n hx hb d_Mo_cut_62 rfl (lv_at hl 3 rfl) ?_
              exact B63 _ _ _ x1 x2 x3 17185 x2 σ hv hk (lv_sub hl [1, 2, 3, 4, 0] rfl) hP hD hS
            · have hv := hv.trans (if_neg hc)
              have hk := hk.2 hc
              refine lv_aload_n hx hb d_Mo_cut_54 rfl (lv_at hl 1 rfl) ?_
              refine lv_iload_n hx hb d_Mo_cut_55 rfl (lv_at hl 3 rfl) ?_
              obtain ⟨hk0, hk⟩ := hk
              refine va_calli (va_runV (As := [.int x2]) (rest := []) ⟨hx, hb, hml, hown, hg⟩ (c_Mo_opposite l D ty h px sa σ H.size x2 hk0) ⟨callB_of 1 hg (gw_C m_1539) rfl rfl rfl (hg _ m_13) (hg _ m_1536) hd_Mo_opposite ⟨Nat.le_of_ble_eq_true rfl, Nat.le_of_ble_eq_true rfl⟩, hg _ m_1538, hg _ ms_68⟩ (zz_preVW hM hS hA hN hK hP hD 0 rfl rfl) rfl rfl hl.1 rfl (lv_room (Nat.le_of_ble_eq_true rfl)) d_Mo_cut_56 ⟨Nat.le_of_ble_eq_true rfl, Nat.le_of_ble_eq_true rfl⟩) hS (fun q _ h => zz_free hD hS hA q h) (zz_free hD hS hA) (fun r56 u56 t H locs ht hvm hp hP1 hz hk1 hS => ?_)
              rw [ht] at hP1
              rw [← hp] at hv hk
              have hD : va_D A (Wm ty h u56 px) := zz_D hD rfl
              have hP := hP1
              exact B59 _ _ _ x1 x2 x3 17185 r56 u56 hv hk (lv_sub hl [1, 2, 3, 4, 0] rfl) hP hD hS
          · have hv := hv.trans (if_pos hc)
            have hk := hk.1 hc
            exact B38 _ _ _ 17185 σ hv hk (lv_sub hl [1, 0] rfl) hP hD hS
    · have hv := hv.trans (if_neg hc)
      have hk := hk.2 hc
      refine lv_iconst (v := -1) hx hb d_Mo_cut_7 (by decide) ?_
      exact W.iret hx hb hr (fun t ht hW => ⟨⟨_, _, rfl, hv.symm, by dsimp only; rw [ht]; exact hP⟩, hS.F ht⟩) hS.2.2 d_Mo_cut_8
  unfold f_Mo_cut at hv
  unfold k_Mo_cut at hk
  refine lv_aload_n hx hb d_Mo_cut_0 rfl (lv_at hl 0 rfl) ?_
  obtain ⟨hk0, hk⟩ := hk
  refine va_calli (va_runV (As := []) (rest := []) ⟨hx, hb, hml, hown, hg⟩ (c_Mo_begin l D ty h px sa σ s.heap.size  hk0) ⟨callB_of 0 hg (gw_C m_1443) rfl rfl rfl (hg _ m_13) (hg _ m_1440) hd_Mo_begin ⟨Nat.le_of_ble_eq_true rfl, Nat.le_of_ble_eq_true rfl⟩, hg _ m_1442, hg _ ms_49⟩ (zz_preVW hM hS hA hN hK hP hD 0 rfl rfl) rfl rfl hl.1 rfl (lv_room (Nat.le_of_ble_eq_true rfl)) d_Mo_cut_1 ⟨Nat.le_of_ble_eq_true rfl, Nat.le_of_ble_eq_true rfl⟩) hS (fun q _ h => zz_free hD hS hA q h) (zz_free hD hS hA) (fun r1 u1 t H locs ht hvm hp hP1 hz hk1 hS => ?_)
  rw [ht] at hP1
  rw [← hp] at hv hk
  have hD : va_D A (Wm ty h u1 px) := zz_D hD rfl
  have hP := hP1
  exact B4 _ _ _ a1 a2 a3 r1 u1 hv hk (lv_sub hl [0, 1, 2, 3] rfl) hP hD hS

-- ClauseLedgerModel.joinAll(I)V
abbrev b_Mo_joinAll : ByteArray := prog_14_method_35_code
def y_Mo_joinAll : MethodName := ⟨"ClauseLedgerModel", "joinAll", "(I)V"⟩
theorem hd_Mo_joinAll : y_Mo_joinAll.cls ≠ "java/lang/invoke/MethodHandle" ∧ y_Mo_joinAll.cls ≠ "java/lang/invoke/VarHandle" ∧ (parseMethodDescriptor y_Mo_joinAll.desc).map (fun d => d.parameters.length) = some 1 := by decide +kernel
theorem d_Mo_joinAll_0 : decode b_Mo_joinAll 0 = .ok (.iconst 0, 1) := by decide +kernel
theorem d_Mo_joinAll_1 : decode b_Mo_joinAll 1 = .ok (.istore_n 2, 1) := by decide +kernel
theorem d_Mo_joinAll_2 : decode b_Mo_joinAll 2 = .ok (.iload_n 2, 1) := by decide +kernel
theorem d_Mo_joinAll_3 : decode b_Mo_joinAll 3 = .ok (.aload_n 0, 1) := by decide +kernel
theorem d_Mo_joinAll_4 : decode b_Mo_joinAll 4 = .ok (.getfield 53, 3) := by decide +kernel
theorem d_Mo_joinAll_7 : decode b_Mo_joinAll 7 = .ok (.iload_n 1, 1) := by decide +kernel
theorem d_Mo_joinAll_8 : decode b_Mo_joinAll 8 = .ok (.iaload, 1) := by decide +kernel
theorem d_Mo_joinAll_9 : decode b_Mo_joinAll 9 = .ok (.if_icmp .ge 24, 3) := by decide +kernel
theorem d_Mo_joinAll_12 : decode b_Mo_joinAll 12 = .ok (.aload_n 0, 1) := by decide +kernel
theorem d_Mo_joinAll_13 : decode b_Mo_joinAll 13 = .ok (.aload_n 0, 1) := by decide +kernel
theorem d_Mo_joinAll_14 : decode b_Mo_joinAll 14 = .ok (.getfield 56, 3) := by decide +kernel
theorem d_Mo_joinAll_17 : decode b_Mo_joinAll 17 = .ok (.bipush 8, 2) := by decide +kernel
theorem d_Mo_joinAll_19 : decode b_Mo_joinAll 19 = .ok (.iload_n 1, 1) := by decide +kernel
theorem d_Mo_joinAll_20 : decode b_Mo_joinAll 20 = .ok (.imul, 1) := by decide +kernel
theorem d_Mo_joinAll_21 : decode b_Mo_joinAll 21 = .ok (.iload_n 2, 1) := by decide +kernel
theorem d_Mo_joinAll_22 : decode b_Mo_joinAll 22 = .ok (.iadd, 1) := by decide +kernel
theorem d_Mo_joinAll_23 : decode b_Mo_joinAll 23 = .ok (.iaload, 1) := by decide +kernel
theorem d_Mo_joinAll_24 : decode b_Mo_joinAll 24 = .ok (.invokevirtual 210, 3) := by decide +kernel
theorem d_Mo_joinAll_27 : decode b_Mo_joinAll 27 = .ok (.iinc 2 1, 3) := by decide +kernel
theorem d_Mo_joinAll_30 : decode b_Mo_joinAll 30 = .ok (.goto (-28), 3) := by decide +kernel
theorem d_Mo_joinAll_33 : decode b_Mo_joinAll 33 = .ok (.return_, 1) := by decide +kernel
def f_Mo_joinAll_27 (F2 : (Int32 → Int32 → St → St)) (x1 : Int32) (x2 : Int32) (σ : St) : St := F2 x1 (x2 + 1) σ
def k_Mo_joinAll_27 (K2 : (Int32 → Int32 → St → Prop)) (x1 : Int32) (x2 : Int32) (σ : St) : Prop := K2 x1 (x2 + 1) σ
def f_Mo_joinAll_2 : Nat → Int32 → Int32 → St → St
  | 0, _, _, σ => σ
  | n + 1, x1, x2, σ => if (σ.1 14 x1.toNatClampNeg) ≤ x2 then σ else (f_Mo_joinAll_27 (f_Mo_joinAll_2 n) x1 x2 (f_Mo_join (σ.1 15 ((8 * x1) + x2).toNatClampNeg) σ))
def k_Mo_joinAll_2 : Nat → Int32 → Int32 → St → Prop
  | 0, _, _, _ => False
  | n + 1, x1, x2, σ => vp_in x1 60 ∧ (((σ.1 14 x1.toNatClampNeg) ≤ x2 → True) ∧ (¬ (σ.1 14 x1.toNatClampNeg) ≤ x2 → (vp_in ((8 * x1) + x2) 480 ∧ ((k_Mo_join (σ.1 15 ((8 * x1) + x2).toNatClampNeg) σ) ∧ (k_Mo_joinAll_27 (k_Mo_joinAll_2 n) x1 x2 (f_Mo_join (σ.1 15 ((8 * x1) + x2).toNatClampNeg) σ))))))
def f_Mo_joinAll (a1 : Int32) (σ : St) : St := f_Mo_joinAll_2 1000 a1 0 σ
def k_Mo_joinAll (a1 : Int32) (σ : St) : Prop := k_Mo_joinAll_2 1000 a1 0 σ
abbrev w_Mo_joinAll : List Cond := Cond.code y_Mo_joinAll b_Mo_joinAll 3 none :: gw
abbrev rm_Mo_joinAll : Room := { frames := 1, cells := 0, slots := 0, locals := 23 }
set_option maxHeartbeats 4000000 in
set_option maxRecDepth 100000 in
theorem c_Mo_joinAll (l : Launch) (D : va_G) (ty : Nat → ClassId) (h : Nat → Nat) (px : va_W) (sa : Nat → Nat) (σ : St) (sz : Nat) (a1 : Int32) (hk : k_Mo_joinAll a1 σ) : Met l y_Mo_joinAll w_Mo_joinAll rm_Mo_joinAll (va_Pc [.ref (h 0), .int a1] (fun U => U.heap.size = sz ∧ va_P D classes (Wm ty h σ px) U.heap ∧ va_K D classes (Ta ty) U ∧ NW U ∧ MK sa (va_A (Wm ty h σ px) sz) U U.heap ∧ va_D (fun _ => True) (Wm ty h σ px))) (va_Qv (fun u : St => u = f_Mo_joinAll a1 σ) (fun u t => va_P D classes (Wm ty h u px) t.heap) (va_A (Wm ty h σ px) sz)) 0 0 (va_A (Wm ty h σ px) sz) := by
  refine Met.ofW (cc := b_Mo_joinAll) (maxL := 3) (ret := none) (by decide) rfl ?_
  intro p e s m args below meth c s₁ B hml hv
  obtain ⟨ha, hsz, hP, hK, hN, hM, hD0⟩ := hv
  have hx := B.exec
  have hb := B.bytes
  have hr := B.returns
  have hg : ∀ w ∈ gw, w.before args s = true := fun w h9 => atoms_spec (ws := w_Mo_joinAll) B.pre w (List.mem_cons_of_mem _ h9)
  have hown : s.vm.findClass "ClauseLedgerModel" = some m.cls := findClass_of_methodNamed B.named
  have hlocks := B.notSynchronized
  subst hsz
  have hD := hD0.self (sz := s.heap.size)
  generalize hAe : va_A (Wm ty h σ px) s.heap.size = A at hD hM ⊢
  have hA : ∀ q : Nat, s.heap.size ≤ q → A q := fun q h9 => by rw [← hAe]; exact Or.inr h9
  have hS : va_S A s.heap s.heap [] := va_S.rf
  have he : entryFrame m args 3 = entryFrame m ([.ref (h 0), .int a1] : List Value).toArray 3 := by rw [ha]
  rw [he, lg_entry_eq]
  have hl := lv_entry ([.ref (h 0), .int a1]) (n := 3) (Nat.le_of_ble_eq_true rfl)
  generalize (lg_sl ([.ref (h 0), .int a1]) ++ List.replicate (3 - (lg_sl ([.ref (h 0), .int a1])).length) Slot.unset).toArray = ls at hl ⊢
  have hl : lv_has ls 3 [(0, .ref (h 0)), (1, .int a1)] := hl
  generalize hv : f_Mo_joinAll a1 σ = v
  replace hv := hv.symm
  have B2 : ∀ (n2 : Nat) (H : Heap) (locs : List Loc) (ls : Array Slot) (x1 : Int32) (x2 : Int32) (σ : St), v = f_Mo_joinAll_2 n2 x1 x2 σ → k_Mo_joinAll_2 n2 x1 x2 σ → lv_has ls 3 [(0, .ref (h 0)), (1, .int x1), (2, .int x2)] → va_P D classes (Wm ty h σ px) H → va_D A (Wm ty h σ px) → va_S A s.heap H locs → W p l e (headSpec w_Mo_joinAll rm_Mo_joinAll).room s m args below meth c H locs 0 0 (MQ below (va_Qv (fun u : St => u = v) (fun u t => va_P D classes (Wm ty h u px) t.heap) A) args s 0 0 A) (F0 m 2 ls []) := by
    intro n2
    induction n2 with
    | zero => intro H locs ls x1 x2 σ hv hk hl hP hD hS; exact hk.elim
    | succ n2 ih2 =>
      have B27 : ∀ (H : Heap) (locs : List Loc) (ls : Array Slot) (x1 : Int32) (x2 : Int32) (σ : St), v = f_Mo_joinAll_27 (f_Mo_joinAll_2 n2) x1 x2 σ → k_Mo_joinAll_27 (k_Mo_joinAll_2 n2) x1 x2 σ → lv_has ls 3 [(0, .ref (h 0)), (1, .int x1), (2, .int x2)] → va_P D classes (Wm ty h σ px) H → va_D A (Wm ty h σ px) → va_S A s.heap H locs → W p l e (headSpec w_Mo_joinAll rm_Mo_joinAll).room s m args below meth c H locs 0 0 (MQ below (va_Qv (fun u : St => u = v) (fun u t => va_P D classes (Wm ty h u px) t.heap) A) args s 0 0 A) (F0 m 27 ls []) := by
        intro H locs ls x1 x2 σ hv hk hl hP hD hS
        unfold f_Mo_joinAll_27 at hv
        unfold k_Mo_joinAll_27 at hk
        refine lv_iinc (k := 2) (v := x2 + 1) (lv' := [(2, .int (x2 + 1)), (0, .ref (h 0)), (1, .int x1)]) hx hb d_Mo_joinAll_27 hl rfl (by first | rfl | simp [lit1, litm1]) (by decide) rfl (fun ls hl => ?_)
        refine lv_goto (tgt := 2) hx hb d_Mo_joinAll_30 (by decide) ?_
        exact ih2 _ _ _ x1 (x2 + 1) σ hv hk (lv_sub hl [1, 2, 0] rfl) hP hD hS
      intro H locs ls x1 x2 σ hv hk hl hP hD hS
      rw [f_Mo_joinAll_2] at hv
      rw [k_Mo_joinAll_2] at hk
      refine lv_iload_n hx hb d_Mo_joinAll_2 rfl (lv_at hl 2 rfl) ?_
      refine lv_aload_n hx hb d_Mo_joinAll_3 rfl (lv_at hl 0 rfl) ?_
      refine va_get (v := .ref (h 14)) (C := R_Mo) (T := T_Mo) (N := 51) hx hb hg in_Mo hown hK hP 0 rfl rfl 20 (by decide) (hg _ m_1279) (fun _ h9 => h9) rfl d_Mo_joinAll_4 ?_
      refine lv_iload_n hx hb d_Mo_joinAll_7 rfl (lv_at hl 1 rfl) ?_
      obtain ⟨hk0, hk⟩ := hk
      refine va_iald hx hb hK hP 14 0 rfl rfl hk0 d_Mo_joinAll_8 ?_
      refine lv_icmp_ge (tgt := 33) hx hb d_Mo_joinAll_9 (by decide) (fun hc => ?_) (fun hc => ?_)
      · have hv := hv.trans (if_pos hc)
        have hk := hk.1 hc
        exact W.vret hx hb hr (fun t ht hW => ⟨⟨_, rfl, hv.symm, by dsimp only; rw [ht]; exact hP⟩, hS.F ht⟩) hS.2.2 d_Mo_joinAll_33
      · have hv := hv.trans (if_neg hc)
        have hk := hk.2 hc
        refine lv_aload_n hx hb d_Mo_joinAll_12 rfl (lv_at hl 0 rfl) ?_
        refine lv_aload_n hx hb d_Mo_joinAll_13 rfl (lv_at hl 0 rfl) ?_
        refine va_get (v := .ref (h 15)) (C := R_Mo) (T := T_Mo) (N := 51) hx hb hg in_Mo hown hK hP 0 rfl rfl 21 (by decide) (hg _ m_1280) (fun _ h9 => h9) rfl d_Mo_joinAll_14 ?_
        refine lv_bipush (v := 8) hx hb d_Mo_joinAll_17 (by decide) ?_
        refine lv_iload_n hx hb d_Mo_joinAll_19 rfl (lv_at hl 1 rfl) ?_
        refine lv_imul hx hb d_Mo_joinAll_20 ?_
        refine lv_iload_n hx hb d_Mo_joinAll_21 rfl (lv_at hl 2 rfl) ?_
        refine lv_iadd hx hb d_Mo_joinAll_22 ?_
        obtain ⟨hk0, hk⟩ := hk
        refine va_iald hx hb hK hP 15 0 rfl rfl hk0 d_Mo_joinAll_23 ?_
        obtain ⟨hk0, hk⟩ := hk
        refine va_callv (va_runV (As := [.int (σ.1 15 ((8 * x1) + x2).toNatClampNeg)]) (rest := []) ⟨hx, hb, hml, hown, hg⟩ (c_Mo_join l D ty h px sa σ H.size (σ.1 15 ((8 * x1) + x2).toNatClampNeg) hk0) ⟨callB_of 1 hg (gw_C m_1523) rfl rfl rfl (hg _ m_13) (hg _ m_1520) hd_Mo_join ⟨Nat.le_of_ble_eq_true rfl, Nat.le_of_ble_eq_true rfl⟩, hg _ m_1522, hg _ ms_65⟩ (zz_preVW hM hS hA hN hK hP hD 0 rfl rfl) rfl rfl hl.1 rfl (lv_room (Nat.le_of_ble_eq_true rfl)) d_Mo_joinAll_24 ⟨Nat.le_of_ble_eq_true rfl, Nat.le_of_ble_eq_true rfl⟩) hS (fun q _ h => zz_free hD hS hA q h) (zz_free hD hS hA) (fun u24 t H locs ht hvm hp hP1 hz hk1 hS => ?_)
        rw [ht] at hP1
        rw [← hp] at hv hk
        have hD : va_D A (Wm ty h u24 px) := zz_D hD rfl
        have hP := hP1
        exact B27 _ _ _ x1 x2 u24 hv hk (lv_sub hl [0, 1, 2] rfl) hP hD hS
  unfold f_Mo_joinAll at hv
  unfold k_Mo_joinAll at hk
  refine lv_iconst (v := 0) hx hb d_Mo_joinAll_0 (by decide) ?_
  refine lv_istore_n (lv' := [(2, .int 0), (0, .ref (h 0)), (1, .int a1)]) hx hb d_Mo_joinAll_1 rfl hl (by decide) rfl (fun ls hl => ?_)
  exact B2 1000 _ _ _ a1 0 σ hv hk (lv_sub hl [1, 2, 0] rfl) hP hD hS

-- ClauseLedgerModel.widen(II)I
abbrev b_Mo_widen : ByteArray := prog_14_method_36_code
def y_Mo_widen : MethodName := ⟨"ClauseLedgerModel", "widen", "(II)I"⟩
theorem hd_Mo_widen : y_Mo_widen.cls ≠ "java/lang/invoke/MethodHandle" ∧ y_Mo_widen.cls ≠ "java/lang/invoke/VarHandle" ∧ (parseMethodDescriptor y_Mo_widen.desc).map (fun d => d.parameters.length) = some 2 := by decide +kernel
theorem d_Mo_widen_0 : decode b_Mo_widen 0 = .ok (.aload_n 0, 1) := by decide +kernel
theorem d_Mo_widen_1 : decode b_Mo_widen 1 = .ok (.invokevirtual 201, 3) := by decide +kernel
theorem d_Mo_widen_4 : decode b_Mo_widen 4 = .ok (.ifCond .eq 5, 3) := by decide +kernel
theorem d_Mo_widen_7 : decode b_Mo_widen 7 = .ok (.iconst (-1), 1) := by decide +kernel
theorem d_Mo_widen_8 : decode b_Mo_widen 8 = .ok (.ireturn, 1) := by decide +kernel
theorem d_Mo_widen_9 : decode b_Mo_widen 9 = .ok (.sipush 1057, 3) := by decide +kernel
theorem d_Mo_widen_12 : decode b_Mo_widen 12 = .ok (.istore_n 3, 1) := by decide +kernel
theorem d_Mo_widen_13 : decode b_Mo_widen 13 = .ok (.aload_n 0, 1) := by decide +kernel
theorem d_Mo_widen_14 : decode b_Mo_widen 14 = .ok (.iload_n 1, 1) := by decide +kernel
theorem d_Mo_widen_15 : decode b_Mo_widen 15 = .ok (.invokevirtual 220, 3) := by decide +kernel
theorem d_Mo_widen_18 : decode b_Mo_widen 18 = .ok (.ifCond .eq 11, 3) := by decide +kernel
theorem d_Mo_widen_21 : decode b_Mo_widen 21 = .ok (.aload_n 0, 1) := by decide +kernel
theorem d_Mo_widen_22 : decode b_Mo_widen 22 = .ok (.iload_n 2, 1) := by decide +kernel
theorem d_Mo_widen_23 : decode b_Mo_widen 23 = .ok (.invokevirtual 207, 3) := by decide +kernel
theorem d_Mo_widen_26 : decode b_Mo_widen 26 = .ok (.ifCond .ne 10, 3) := by decide +kernel
theorem d_Mo_widen_29 : decode b_Mo_widen 29 = .ok (.aload_n 0, 1) := by decide +kernel
theorem d_Mo_widen_30 : decode b_Mo_widen 30 = .ok (.iconst 1, 1) := by decide +kernel
theorem d_Mo_widen_31 : decode b_Mo_widen 31 = .ok (.iload_n 3, 1) := by decide +kernel
theorem d_Mo_widen_32 : decode b_Mo_widen 32 = .ok (.invokevirtual 133, 3) := by decide +kernel
theorem d_Mo_widen_35 : decode b_Mo_widen 35 = .ok (.ireturn, 1) := by decide +kernel
theorem d_Mo_widen_36 : decode b_Mo_widen 36 = .ok (.aload_n 0, 1) := by decide +kernel
theorem d_Mo_widen_37 : decode b_Mo_widen 37 = .ok (.iload_n 2, 1) := by decide +kernel
theorem d_Mo_widen_38 : decode b_Mo_widen 38 = .ok (.invokevirtual 186, 3) := by decide +kernel
theorem d_Mo_widen_41 : decode b_Mo_widen 41 = .ok (.ifCond .ne 10, 3) := by decide +kernel
theorem d_Mo_widen_44 : decode b_Mo_widen 44 = .ok (.aload_n 0, 1) := by decide +kernel
theorem d_Mo_widen_45 : decode b_Mo_widen 45 = .ok (.iconst 2, 1) := by decide +kernel
theorem d_Mo_widen_46 : decode b_Mo_widen 46 = .ok (.iload_n 3, 1) := by decide +kernel
theorem d_Mo_widen_47 : decode b_Mo_widen 47 = .ok (.invokevirtual 133, 3) := by decide +kernel
theorem d_Mo_widen_50 : decode b_Mo_widen 50 = .ok (.ireturn, 1) := by decide +kernel
theorem d_Mo_widen_51 : decode b_Mo_widen 51 = .ok (.aload_n 0, 1) := by decide +kernel
theorem d_Mo_widen_52 : decode b_Mo_widen 52 = .ok (.iload_n 1, 1) := by decide +kernel
theorem d_Mo_widen_53 : decode b_Mo_widen 53 = .ok (.invokevirtual 230, 3) := by decide +kernel
theorem d_Mo_widen_56 : decode b_Mo_widen 56 = .ok (.aload_n 0, 1) := by decide +kernel
theorem d_Mo_widen_57 : decode b_Mo_widen 57 = .ok (.iload_n 2, 1) := by decide +kernel
theorem d_Mo_widen_58 : decode b_Mo_widen 58 = .ok (.invokevirtual 210, 3) := by decide +kernel
theorem d_Mo_widen_61 : decode b_Mo_widen 61 = .ok (.aload_n 0, 1) := by decide +kernel
theorem d_Mo_widen_62 : decode b_Mo_widen 62 = .ok (.aload_n 0, 1) := by decide +kernel
theorem d_Mo_widen_63 : decode b_Mo_widen 63 = .ok (.getfield 214, 3) := by decide +kernel
theorem d_Mo_widen_66 : decode b_Mo_widen 66 = .ok (.iload_n 3, 1) := by decide +kernel
theorem d_Mo_widen_67 : decode b_Mo_widen 67 = .ok (.invokevirtual 217, 3) := by decide +kernel
theorem d_Mo_widen_70 : decode b_Mo_widen 70 = .ok (.ireturn, 1) := by decide +kernel
def f_Mo_widen_35 (s0 : Int32) (σ : St) : Int32 × St := (s0, σ)
def k_Mo_widen_35 (s0 : Int32) (σ : St) : Prop := True
def f_Mo_widen_29 (x3 : Int32) (σ : St) : Int32 × St := f_Mo_widen_35 ((f_Mo_fails 1 x3 σ).1) ((f_Mo_fails 1 x3 σ).2)
def k_Mo_widen_29 (x3 : Int32) (σ : St) : Prop := (k_Mo_fails 1 x3 σ) ∧ (k_Mo_widen_35 ((f_Mo_fails 1 x3 σ).1) ((f_Mo_fails 1 x3 σ).2))
def f_Mo_widen_50 (s0 : Int32) (σ : St) : Int32 × St := (s0, σ)
def k_Mo_widen_50 (s0 : Int32) (σ : St) : Prop := True
def f_Mo_widen_70 (s0 : Int32) (σ : St) : Int32 × St := (s0, σ)
def k_Mo_widen_70 (s0 : Int32) (σ : St) : Prop := True
def f_Mo_widen_61 (x3 : Int32) (σ : St) : Int32 × St := f_Mo_widen_70 ((f_Mo_enter (σ.1 0 25) x3 σ).1) ((f_Mo_enter (σ.1 0 25) x3 σ).2)
def k_Mo_widen_61 (x3 : Int32) (σ : St) : Prop := (k_Mo_enter (σ.1 0 25) x3 σ) ∧ (k_Mo_widen_70 ((f_Mo_enter (σ.1 0 25) x3 σ).1) ((f_Mo_enter (σ.1 0 25) x3 σ).2))
def f_Mo_widen_56 (x2 : Int32) (x3 : Int32) (σ : St) : Int32 × St := f_Mo_widen_61 x3 (f_Mo_join x2 σ)
def k_Mo_widen_56 (x2 : Int32) (x3 : Int32) (σ : St) : Prop := (k_Mo_join x2 σ) ∧ (k_Mo_widen_61 x3 (f_Mo_join x2 σ))
def f_Mo_widen_4 (x1 : Int32) (x2 : Int32) (s0 : Int32) (σ : St) : Int32 × St := if s0 = 0 then (if (f_Mo_stands x1 σ) = 0 then (f_Mo_widen_29 1057 σ) else (if (f_Mo_isTerm x2 σ) = 0 then (f_Mo_widen_29 1057 σ) else (if (f_Mo_isTruth x2 σ) = 0 then (f_Mo_widen_50 ((f_Mo_fails 2 1057 σ).1) ((f_Mo_fails 2 1057 σ).2)) else (f_Mo_widen_56 x2 1057 (f_Mo_joinAll x1 σ))))) else ((-1), σ)
def k_Mo_widen_4 (x1 : Int32) (x2 : Int32) (s0 : Int32) (σ : St) : Prop := (s0 = 0 → ((k_Mo_stands x1 σ) ∧ (((f_Mo_stands x1 σ) = 0 → (k_Mo_widen_29 1057 σ)) ∧ (¬ (f_Mo_stands x1 σ) = 0 → ((k_Mo_isTerm x2 σ) ∧ (((f_Mo_isTerm x2 σ) = 0 → (k_Mo_widen_29 1057 σ)) ∧ (¬ (f_Mo_isTerm x2 σ) = 0 → ((k_Mo_isTruth x2 σ) ∧ (((f_Mo_isTruth x2 σ) = 0 → ((k_Mo_fails 2 1057 σ) ∧ (k_Mo_widen_50 ((f_Mo_fails 2 1057 σ).1) ((f_Mo_fails 2 1057 σ).2)))) ∧ (¬ (f_Mo_isTruth x2 σ) = 0 → ((k_Mo_joinAll x1 σ) ∧ (k_Mo_widen_56 x2 1057 (f_Mo_joinAll x1 σ))))))))))))) ∧ (¬ s0 = 0 → True)
def f_Mo_widen (a1 : Int32) (a2 : Int32) (σ : St) : Int32 × St := f_Mo_widen_4 a1 a2 ((f_Mo_begin σ).1) ((f_Mo_begin σ).2)
def k_Mo_widen (a1 : Int32) (a2 : Int32) (σ : St) : Prop := (k_Mo_begin σ) ∧ (k_Mo_widen_4 a1 a2 ((f_Mo_begin σ).1) ((f_Mo_begin σ).2))
abbrev w_Mo_widen : List Cond := Cond.code y_Mo_widen b_Mo_widen 4 (some .int) :: gw
abbrev rm_Mo_widen : Room := { frames := 2, cells := 0, slots := 0, locals := 45 }
set_option maxHeartbeats 4000000 in
set_option maxRecDepth 100000 in
theorem c_Mo_widen (l : Launch) (D : va_G) (ty : Nat → ClassId) (h : Nat → Nat) (px : va_W) (sa : Nat → Nat) (σ : St) (sz : Nat) (a1 : Int32) (a2 : Int32) (hk : k_Mo_widen a1 a2 σ) : Met l y_Mo_widen w_Mo_widen rm_Mo_widen (va_Pc [.ref (h 0), .int a1, .int a2] (fun U => U.heap.size = sz ∧ va_P D classes (Wm ty h σ px) U.heap ∧ va_K D classes (Ta ty) U ∧ NW U ∧ MK sa (va_A (Wm ty h σ px) sz) U U.heap ∧ va_D (fun _ => True) (Wm ty h σ px))) (va_Qi (fun r (u : St) => (r, u) = f_Mo_widen a1 a2 σ) (fun u t => va_P D classes (Wm ty h u px) t.heap) (va_A (Wm ty h σ px) sz)) 0 0 (va_A (Wm ty h σ px) sz) := by
  refine Met.ofW (cc := b_Mo_widen) (maxL := 4) (ret := (some .int)) (by decide) rfl ?_
  intro p e s m args below meth c s₁ B hml hv
  obtain ⟨ha, hsz, hP, hK, hN, hM, hD0⟩ := hv
  have hx := B.exec
  have hb := B.bytes
  have hr := B.returns
  have hg : ∀ w ∈ gw, w.before args s = true := fun w h9 => atoms_spec (ws := w_Mo_widen) B.pre w (List.mem_cons_of_mem _ h9)
  have hown : s.vm.findClass "ClauseLedgerModel" = some m.cls := findClass_of_methodNamed B.named
  have hlocks := B.notSynchronized
  subst hsz
  have hD := hD0.self (sz := s.heap.size)
  generalize hAe : va_A (Wm ty h σ px) s.heap.size = A at hD hM ⊢
  have hA : ∀ q : Nat, s.heap.size ≤ q → A q := fun q h9 => by rw [← hAe]; exact Or.inr h9
  have hS : va_S A s.heap s.heap [] := va_S.rf
  have he : entryFrame m args 4 = entryFrame m ([.ref (h 0), .int a1, .int a2] : List Value).toArray 4 := by rw [ha]
  rw [he, lg_entry_eq]
  have hl := lv_entry ([.ref (h 0), .int a1, .int a2]) (n := 4) (Nat.le_of_ble_eq_true rfl)
  generalize (lg_sl ([.ref (h 0), .int a1, .int a2]) ++ List.replicate (4 - (lg_sl ([.ref (h 0), .int a1, .int a2])).length) Slot.unset).toArray = ls at hl ⊢
  have hl : lv_has ls 4 [(0, .ref (h 0)), (1, .int a1), (2, .int a2)] := hl
  generalize hv : f_Mo_widen a1 a2 σ = v
  replace hv := hv.symm
  have B35 : ∀ (H : Heap) (locs : List Loc) (ls : Array Slot) (s0 : Int32) (σ : St), v = f_Mo_widen_35 s0 σ → k_Mo_widen_35 s0 σ → lv_has ls 4 [] → va_P D classes (Wm ty h σ px) H → va_D A (Wm ty h σ px) → va_S A s.heap H locs → W p l e (headSpec w_Mo_widen rm_Mo_widen).room s m args below meth c H locs 0 0 (MQ below (va_Qi (fun r (u : St) => (r, u) = v) (fun u t => va_P D classes (Wm ty h u px) t.heap) A) args s 0 0 A) (F0 m 35 ls [.int s0]) := by
    intro H locs ls s0 σ hv hk hl hP hD hS
    unfold f_Mo_widen_35 at hv
    unfold k_Mo_widen_35 at hk
    exact W.iret hx hb hr (fun t ht hW => ⟨⟨_, _, rfl, hv.symm, by dsimp only; rw [ht]; exact hP⟩, hS.F ht⟩) hS.2.2 d_Mo_widen_35
  have B29 : ∀ (H : Heap) (locs : List Loc) (ls : Array Slot) (x3 : Int32) (σ : St), v = f_Mo_widen_29 x3 σ → k_Mo_widen_29 x3 σ → lv_has ls 4 [(0, .ref (h 0)), (3, .int x3)] → va_P D classes (Wm ty h σ px) H → va_D A (Wm ty h σ px) → va_S A s.heap H locs → W p l e (headSpec w_Mo_widen rm_Mo_widen).room s m args below meth c H locs 0 0 (MQ below (va_Qi (fun r (u : St) => (r, u) = v) (fun u t => va_P D classes (Wm ty h u px) t.heap) A) args s 0 0 A) (F0 m 29 ls []) := by
    intro H locs ls x3 σ hv hk hl hP hD hS
    unfold f_Mo_widen_29 at hv
    unfold k_Mo_widen_29 at hk
    refine lv_aload_n hx hb d_Mo_widen_29 rfl (lv_at hl 0 rfl) ?_
    refine lv_iconst (v := 1) hx hb d_Mo_widen_30 (by decide) ?_
    refine lv_iload_n hx hb d_Mo_widen_31 rfl (lv_at hl 1 rfl) ?_
    obtain ⟨hk0, hk⟩ := hk
    refine va_calli (va_runV (As := [.int 1, .int x3]) (rest := []) ⟨hx, hb, hml, hown, hg⟩ (c_Mo_fails l D ty h px sa σ H.size 1 x3 hk0) ⟨callB_of 2 hg (gw_C m_1507) rfl rfl rfl (hg _ m_13) (hg _ m_1504) hd_Mo_fails ⟨Nat.le_of_ble_eq_true rfl, Nat.le_of_ble_eq_true rfl⟩, hg _ m_1506, hg _ ms_62⟩ (zz_preVW hM hS hA hN hK hP hD 0 rfl rfl) rfl rfl hl.1 rfl (lv_room (Nat.le_of_ble_eq_true rfl)) d_Mo_widen_32 ⟨Nat.le_of_ble_eq_true rfl, Nat.le_of_ble_eq_true rfl⟩) hS (fun q _ h => zz_free hD hS hA q h) (zz_free hD hS hA) (fun r32 u32 t H locs ht hvm hp hP1 hz hk1 hS => ?_)
    rw [ht] at hP1
    rw [← hp] at hv hk
    have hD : va_D A (Wm ty h u32 px) := zz_D hD rfl
    have hP := hP1
    exact B35 _ _ _ r32 u32 hv hk (lv_sub hl [] rfl) hP hD hS
  have B50 : ∀ (H : Heap) (locs : List Loc) (ls : Array Slot) (s0 : Int32) (σ : St), v = f_Mo_widen_50 s0 σ → k_Mo_widen_50 s0 σ → lv_has ls 4 [] → va_P D classes (Wm ty h σ px) H → va_D A (Wm ty h σ px) → va_S A s.heap H locs → W p l e (headSpec w_Mo_widen rm_Mo_widen).room s m args below meth c H locs 0 0 (MQ below (va_Qi (fun r (u : St) => (r, u) = v) (fun u t => va_P D classes (Wm ty h u px) t.heap) A) args s 0 0 A) (F0 m 50 ls [.int s0]) := by
    intro H locs ls s0 σ hv hk hl hP hD hS
    unfold f_Mo_widen_50 at hv
    unfold k_Mo_widen_50 at hk
    exact W.iret hx hb hr (fun t ht hW => ⟨⟨_, _, rfl, hv.symm, by dsimp only; rw [ht]; exact hP⟩, hS.F ht⟩) hS.2.2 d_Mo_widen_50
  have B70 : ∀ (H : Heap) (locs : List Loc) (ls : Array Slot) (s0 : Int32) (σ : St), v = f_Mo_widen_70 s0 σ → k_Mo_widen_70 s0 σ → lv_has ls 4 [] → va_P D classes (Wm ty h σ px) H → va_D A (Wm ty h σ px) → va_S A s.heap H locs → W p l e (headSpec w_Mo_widen rm_Mo_widen).room s m args below meth c H locs 0 0 (MQ below (va_Qi (fun r (u : St) => (r, u) = v) (fun u t => va_P D classes (Wm ty h u px) t.heap) A) args s 0 0 A) (F0 m 70 ls [.int s0]) := by
    intro H locs ls s0 σ hv hk hl hP hD hS
    unfold f_Mo_widen_70 at hv
    unfold k_Mo_widen_70 at hk
    exact W.iret hx hb hr (fun t ht hW => ⟨⟨_, _, rfl, hv.symm, by dsimp only; rw [ht]; exact hP⟩, hS.F ht⟩) hS.2.2 d_Mo_widen_70
  have B61 : ∀ (H : Heap) (locs : List Loc) (ls : Array Slot) (x3 : Int32) (σ : St), v = f_Mo_widen_61 x3 σ → k_Mo_widen_61 x3 σ → lv_has ls 4 [(0, .ref (h 0)), (3, .int x3)] → va_P D classes (Wm ty h σ px) H → va_D A (Wm ty h σ px) → va_S A s.heap H locs → W p l e (headSpec w_Mo_widen rm_Mo_widen).room s m args below meth c H locs 0 0 (MQ below (va_Qi (fun r (u : St) => (r, u) = v) (fun u t => va_P D classes (Wm ty h u px) t.heap) A) args s 0 0 A) (F0 m 61 ls []) := by
    intro H locs ls x3 σ hv hk hl hP hD hS
    unfold f_Mo_widen_61 at hv
    unfold k_Mo_widen_61 at hk
    refine lv_aload_n hx hb d_Mo_widen_61 rfl (lv_at hl 0 rfl) ?_
    refine lv_aload_n hx hb d_Mo_widen_62 rfl (lv_at hl 0 rfl) ?_
    refine va_get (v := .int (σ.1 0 25)) (C := R_Mo) (T := T_Mo) (N := 51) hx hb hg in_Mo hown hK hP 0 rfl rfl 25 (by decide) (hg _ m_1284) (fun _ h9 => h9) rfl d_Mo_widen_63 ?_
    refine lv_iload_n hx hb d_Mo_widen_66 rfl (lv_at hl 1 rfl) ?_
    obtain ⟨hk0, hk⟩ := hk
    refine va_calli (va_runV (As := [.int (σ.1 0 25), .int x3]) (rest := []) ⟨hx, hb, hml, hown, hg⟩ (c_Mo_enter l D ty h px sa σ H.size (σ.1 0 25) x3 hk0) ⟨callB_of 2 hg (gw_C m_1527) rfl rfl rfl (hg _ m_13) (hg _ m_1524) hd_Mo_enter ⟨Nat.le_of_ble_eq_true rfl, Nat.le_of_ble_eq_true rfl⟩, hg _ m_1526, hg _ ms_66⟩ (zz_preVW hM hS hA hN hK hP hD 0 rfl rfl) rfl rfl hl.1 rfl (lv_room (Nat.le_of_ble_eq_true rfl)) d_Mo_widen_67 ⟨Nat.le_of_ble_eq_true rfl, Nat.le_of_ble_eq_true rfl⟩) hS (fun q _ h => zz_free hD hS hA q h) (zz_free hD hS hA) (fun r67 u67 t H locs ht hvm hp hP1 hz hk1 hS => ?_)
    rw [ht] at hP1
    rw [← hp] at hv hk
    have hD : va_D A (Wm ty h u67 px) := zz_D hD rfl
    have hP := hP1
    exact B70 _ _ _ r67 u67 hv hk (lv_sub hl [] rfl) hP hD hS
  have B56 : ∀ (H : Heap) (locs : List Loc) (ls : Array Slot) (x2 : Int32) (x3 : Int32) (σ : St), v = f_Mo_widen_56 x2 x3 σ → k_Mo_widen_56 x2 x3 σ → lv_has ls 4 [(0, .ref (h 0)), (2, .int x2), (3, .int x3)] → va_P D classes (Wm ty h σ px) H → va_D A (Wm ty h σ px) → va_S A s.heap H locs → W p l e (headSpec w_Mo_widen rm_Mo_widen).room s m args below meth c H locs 0 0 (MQ below (va_Qi (fun r (u : St) => (r, u) = v) (fun u t => va_P D classes (Wm ty h u px) t.heap) A) args s 0 0 A) (F0 m 56 ls []) := by
    intro H locs ls x2 x3 σ hv hk hl hP hD hS
    unfold f_Mo_widen_56 at hv
    unfold k_Mo_widen_56 at hk
    refine lv_aload_n hx hb d_Mo_widen_56 rfl (lv_at hl 0 rfl) ?_
    refine lv_iload_n hx hb d_Mo_widen_57 rfl (lv_at hl 1 rfl) ?_
    obtain ⟨hk0, hk⟩ := hk
    refine va_callv (va_runV (As := [.int x2]) (rest := []) ⟨hx, hb, hml, hown, hg⟩ (c_Mo_join l D ty h px sa σ H.size x2 hk0) ⟨callB_of 1 hg (gw_C m_1523) rfl rfl rfl (hg _ m_13) (hg _ m_1520) hd_Mo_join ⟨Nat.le_of_ble_eq_true rfl, Nat.le_of_ble_eq_true rfl⟩, hg _ m_1522, hg _ ms_65⟩ (zz_preVW hM hS hA hN hK hP hD 0 rfl rfl) rfl rfl hl.1 rfl (lv_room (Nat.le_of_ble_eq_true rfl)) d_Mo_widen_58 ⟨Nat.le_of_ble_eq_true rfl, Nat.le_of_ble_eq_true rfl⟩) hS (fun q _ h => zz_free hD hS hA q h) (zz_free hD hS hA) (fun u58 t H locs ht hvm hp hP1 hz hk1 hS => ?_)
    rw [ht] at hP1
    rw [← hp] at hv hk
    have hD : va_D A (Wm ty h u58 px) := zz_D hD rfl
    have hP := hP1
    exact B61 _ _ _ x3 u58 hv hk (lv_sub hl [0, 2] rfl) hP hD hS
  have B4 : ∀ (H : Heap) (locs : List Loc) (ls : Array Slot) (x1 : Int32) (x2 : Int32) (s0 : Int32) (σ : St), v = f_Mo_widen_4 x1 x2 s0 σ → k_Mo_widen_4 x1 x2 s0 σ → lv_has ls 4 [(0, .ref (h 0)), (1, .int x1), (2, .int x2)] → va_P D classes (Wm ty h σ px) H → va_D A (Wm ty h σ px) → va_S A s.heap H locs → W p l e (headSpec w_Mo_widen rm_Mo_widen).room s m args below meth c H locs 0 0 (MQ below (va_Qi (fun r (u : St) => (r, u) = v) (fun u t => va_P D classes (Wm ty h u px) t.heap) A) args s 0 0 A) (F0 m 4 ls [.int s0]) := by
    intro H locs ls x1 x2 s0 σ hv hk hl hP hD hS
    unfold f_Mo_widen_4 at hv
    unfold k_Mo_widen_4 at hk
    refine lv_if_eq (tgt := 9) hx hb d_Mo_widen_4 (by decide) (fun hc => ?_) (fun hc => ?_)
    · have hv := hv.trans (if_pos hc)
      have hk := hk.1 hc
      refine lv_sipush (v := 1057) hx hb d_Mo_widen_9 (by decide) ?_
      refine lv_istore_n (lv' := [(3, .int 1057), (0, .ref (h 0)), (1, .int x1), (2, .int x2)]) hx hb d_Mo_widen_12 rfl hl (by decide) rfl (fun ls hl => ?_)
      refine lv_aload_n hx hb d_Mo_widen_13 rfl (lv_at hl 1 rfl) ?_
      refine lv_iload_n hx hb d_Mo_widen_14 rfl (lv_at hl 2 rfl) ?_
      obtain ⟨hk0, hk⟩ := hk
      refine zz_callV (va_runV (As := [.int x1]) (rest := []) ⟨hx, hb, hml, hown, hg⟩ (c_Mo_stands l D ty h px sa σ x1 hk0) ⟨callB_of 1 hg (gw_C m_1535) rfl rfl rfl (hg _ m_13) (hg _ m_1532) hd_Mo_stands ⟨Nat.le_of_ble_eq_true rfl, Nat.le_of_ble_eq_true rfl⟩, hg _ m_1534, hg _ ms_67⟩ (zz_preV (hM.at hS) hN hK hP 0 rfl rfl) rfl rfl hl.1 rfl (lv_room (Nat.le_of_ble_eq_true rfl)) d_Mo_widen_15 ⟨Nat.le_of_ble_eq_true rfl, Nat.le_of_ble_eq_true rfl⟩) ?_
      refine lv_if_eq (tgt := 29) hx hb d_Mo_widen_18 (by decide) (fun hc => ?_) (fun hc => ?_)
      · have hv := hv.trans (if_pos hc)
        have hk := hk.1 hc
        exact B29 _ _ _ 1057 σ hv hk (lv_sub hl [1, 0] rfl) hP hD hS
      · have hv := hv.trans (if_neg hc)
        have hk := hk.2 hc
        refine lv_aload_n hx hb d_Mo_widen_21 rfl (lv_at hl 1 rfl) ?_
        refine lv_iload_n hx hb d_Mo_widen_22 rfl (lv_at hl 3 rfl) ?_
        obtain ⟨hk0, hk⟩ := hk
        refine zz_callV (va_runV (As := [.int x2]) (rest := []) ⟨hx, hb, hml, hown, hg⟩ (c_Mo_isTerm l D ty h px sa σ x2 hk0) ⟨callB_of 1 hg (gw_C m_1519) rfl rfl rfl (hg _ m_13) (hg _ m_1516) hd_Mo_isTerm ⟨Nat.le_of_ble_eq_true rfl, Nat.le_of_ble_eq_true rfl⟩, hg _ m_1518, hg _ ms_64⟩ (zz_preV (hM.at hS) hN hK hP 0 rfl rfl) rfl rfl hl.1 rfl (lv_room (Nat.le_of_ble_eq_true rfl)) d_Mo_widen_23 ⟨Nat.le_of_ble_eq_true rfl, Nat.le_of_ble_eq_true rfl⟩) ?_
        refine lv_if_ne (tgt := 36) hx hb d_Mo_widen_26 (by decide) (fun hc => ?_) (fun hc => ?_)
        · have hv := hv.trans (if_neg hc)
          have hk := hk.2 hc
          refine lv_aload_n hx hb d_Mo_widen_36 rfl (lv_at hl 1 rfl) ?_
          refine lv_iload_n hx hb d_Mo_widen_37 rfl (lv_at hl 3 rfl) ?_
          obtain ⟨hk0, hk⟩ := hk
          refine zz_callV (va_runV (As := [.int x2]) (rest := []) ⟨hx, hb, hml, hown, hg⟩ (c_Mo_isTruth l D ty h px sa σ x2 hk0) ⟨callB_of 1 hg (gw_C m_1499) rfl rfl rfl (hg _ m_13) (hg _ m_1496) hd_Mo_isTruth ⟨Nat.le_of_ble_eq_true rfl, Nat.le_of_ble_eq_true rfl⟩, hg _ m_1498, hg _ ms_60⟩ (zz_preV (hM.at hS) hN hK hP 0 rfl rfl) rfl rfl hl.1 rfl (lv_room (Nat.le_of_ble_eq_true rfl)) d_Mo_widen_38 ⟨Nat.le_of_ble_eq_true rfl, Nat.le_of_ble_eq_true rfl⟩) ?_
          refine lv_if_ne (tgt := 51) hx hb d_Mo_widen_41 (by decide) (fun hc => ?_) (fun hc => ?_)
          · have hv := hv.trans (if_neg hc)
            have hk := hk.2 hc
            refine lv_aload_n hx hb d_Mo_widen_51 rfl (lv_at hl 1 rfl) ?_
            refine lv_iload_n hx hb d_Mo_widen_52 rfl (lv_at hl 2 rfl) ?_
            obtain ⟨hk0, hk⟩ := hk
            refine va_callv (va_runV (As := [.int x1]) (rest := []) ⟨hx, hb, hml, hown, hg⟩ (c_Mo_joinAll l D ty h px sa σ H.size x1 hk0) ⟨callB_of 1 hg (gw_C m_1551) rfl rfl rfl (hg _ m_13) (hg _ m_1548) hd_Mo_joinAll ⟨Nat.le_of_ble_eq_true rfl, Nat.le_of_ble_eq_true rfl⟩, hg _ m_1550, hg _ ms_70⟩ (zz_preVW hM hS hA hN hK hP hD 0 rfl rfl) rfl rfl hl.1 rfl (lv_room (Nat.le_of_ble_eq_true rfl)) d_Mo_widen_53 ⟨Nat.le_of_ble_eq_true rfl, Nat.le_of_ble_eq_true rfl⟩) hS (fun q _ h => zz_free hD hS hA q h) (zz_free hD hS hA) (fun u53 t H locs ht hvm hp hP1 hz hk1 hS => ?_)
            rw [ht] at hP1
            rw [← hp] at hv hk
            have hD : va_D A (Wm ty h u53 px) := zz_D hD rfl
            have hP := hP1
            exact B56 _ _ _ x2 1057 u53 hv hk (lv_sub hl [1, 3, 0] rfl) hP hD hS
          · have hv := hv.trans (if_pos hc)
            have hk := hk.1 hc
            refine lv_aload_n hx hb d_Mo_widen_44 rfl (lv_at hl 1 rfl) ?_
            refine lv_iconst (v := 2) hx hb d_Mo_widen_45 (by decide) ?_
            refine lv_iload_n hx hb d_Mo_widen_46 rfl (lv_at hl 0 rfl) ?_
            obtain ⟨hk0, hk⟩ := hk
            refine va_calli (va_runV (As := [.int 2, .int 1057]) (rest := []) ⟨hx, hb, hml, hown, hg⟩ (c_Mo_fails l D ty h px sa σ H.size 2 1057 hk0) ⟨callB_of 2 hg (gw_C m_1507) rfl rfl rfl (hg _ m_13) (hg _ m_1504) hd_Mo_fails ⟨Nat.le_of_ble_eq_true rfl, Nat.le_of_ble_eq_true rfl⟩, hg _ m_1506, hg _ ms_62⟩ (zz_preVW hM hS hA hN hK hP hD 0 rfl rfl) rfl rfl hl.1 rfl (lv_room (Nat.le_of_ble_eq_true rfl)) d_Mo_widen_47 ⟨Nat.le_of_ble_eq_true rfl, Nat.le_of_ble_eq_true rfl⟩) hS (fun q _ h => zz_free hD hS hA q h) (zz_free hD hS hA) (fun r47 u47 t H locs ht hvm hp hP1 hz hk1 hS => ?_)
            rw [ht] at hP1
            rw [← hp] at hv hk
            have hD : va_D A (Wm ty h u47 px) := zz_D hD rfl
            have hP := hP1
            exact B50 _ _ _ r47 u47 hv hk (lv_sub hl [] rfl) hP hD hS
        · have hv := hv.trans (if_pos hc)
          have hk := hk.1 hc
          exact B29 _ _ _ 1057 σ hv hk (lv_sub hl [1, 0] rfl) hP hD hS
    · have hv := hv.trans (if_neg hc)
      have hk := hk.2 hc
      refine lv_iconst (v := -1) hx hb d_Mo_widen_7 (by decide) ?_
      exact W.iret hx hb hr (fun t ht hW => ⟨⟨_, _, rfl, hv.symm, by dsimp only; rw [ht]; exact hP⟩, hS.F ht⟩) hS.2.2 d_Mo_widen_8
  unfold f_Mo_widen at hv
  unfold k_Mo_widen at hk
  refine lv_aload_n hx hb d_Mo_widen_0 rfl (lv_at hl 0 rfl) ?_
  obtain ⟨hk0, hk⟩ := hk
  refine va_calli (va_runV (As := []) (rest := []) ⟨hx, hb, hml, hown, hg⟩ (c_Mo_begin l D ty h px sa σ s.heap.size  hk0) ⟨callB_of 0 hg (gw_C m_1443) rfl rfl rfl (hg _ m_13) (hg _ m_1440) hd_Mo_begin ⟨Nat.le_of_ble_eq_true rfl, Nat.le_of_ble_eq_true rfl⟩, hg _ m_1442, hg _ ms_49⟩ (zz_preVW hM hS hA hN hK hP hD 0 rfl rfl) rfl rfl hl.1 rfl (lv_room (Nat.le_of_ble_eq_true rfl)) d_Mo_widen_1 ⟨Nat.le_of_ble_eq_true rfl, Nat.le_of_ble_eq_true rfl⟩) hS (fun q _ h => zz_free hD hS hA q h) (zz_free hD hS hA) (fun r1 u1 t H locs ht hvm hp hP1 hz hk1 hS => ?_)
  rw [ht] at hP1
  rw [← hp] at hv hk
  have hD : va_D A (Wm ty h u1 px) := zz_D hD rfl
  have hP := hP1
  exact B4 _ _ _ a1 a2 r1 u1 hv hk (lv_sub hl [0, 1, 2] rfl) hP hD hS

-- ClauseLedgerModel.joinAs(IZ)V
abbrev b_Mo_joinAs : ByteArray := prog_14_method_37_code
def y_Mo_joinAs : MethodName := ⟨"ClauseLedgerModel", "joinAs", "(IZ)V"⟩
theorem hd_Mo_joinAs : y_Mo_joinAs.cls ≠ "java/lang/invoke/MethodHandle" ∧ y_Mo_joinAs.cls ≠ "java/lang/invoke/VarHandle" ∧ (parseMethodDescriptor y_Mo_joinAs.desc).map (fun d => d.parameters.length) = some 2 := by decide +kernel
theorem d_Mo_joinAs_0 : decode b_Mo_joinAs 0 = .ok (.iload_n 2, 1) := by decide +kernel
theorem d_Mo_joinAs_1 : decode b_Mo_joinAs 1 = .ok (.ifCond .eq 7, 3) := by decide +kernel
theorem d_Mo_joinAs_4 : decode b_Mo_joinAs 4 = .ok (.iload_n 1, 1) := by decide +kernel
theorem d_Mo_joinAs_5 : decode b_Mo_joinAs 5 = .ok (.goto 8, 3) := by decide +kernel
theorem d_Mo_joinAs_8 : decode b_Mo_joinAs 8 = .ok (.aload_n 0, 1) := by decide +kernel
theorem d_Mo_joinAs_9 : decode b_Mo_joinAs 9 = .ok (.iload_n 1, 1) := by decide +kernel
theorem d_Mo_joinAs_10 : decode b_Mo_joinAs 10 = .ok (.invokevirtual 223, 3) := by decide +kernel
theorem d_Mo_joinAs_13 : decode b_Mo_joinAs 13 = .ok (.istore_n 3, 1) := by decide +kernel
theorem d_Mo_joinAs_14 : decode b_Mo_joinAs 14 = .ok (.aload_n 0, 1) := by decide +kernel
theorem d_Mo_joinAs_15 : decode b_Mo_joinAs 15 = .ok (.iload_n 3, 1) := by decide +kernel
theorem d_Mo_joinAs_16 : decode b_Mo_joinAs 16 = .ok (.invokevirtual 210, 3) := by decide +kernel
theorem d_Mo_joinAs_19 : decode b_Mo_joinAs 19 = .ok (.return_, 1) := by decide +kernel
def f_Mo_joinAs_19 (σ : St) : St := σ
def k_Mo_joinAs_19 (σ : St) : Prop := True
def f_Mo_joinAs_13 (s0 : Int32) (σ : St) : St := f_Mo_joinAs_19 (f_Mo_join s0 σ)
def k_Mo_joinAs_13 (s0 : Int32) (σ : St) : Prop := (k_Mo_join s0 σ) ∧ (k_Mo_joinAs_19 (f_Mo_join s0 σ))
def f_Mo_joinAs (a1 : Int32) (a2 : Int32) (σ : St) : St := if a2 = 0 then (f_Mo_joinAs_13 ((f_Mo_opposite a1 σ).1) ((f_Mo_opposite a1 σ).2)) else (f_Mo_joinAs_13 a1 σ)
def k_Mo_joinAs (a1 : Int32) (a2 : Int32) (σ : St) : Prop := (a2 = 0 → ((k_Mo_opposite a1 σ) ∧ (k_Mo_joinAs_13 ((f_Mo_opposite a1 σ).1) ((f_Mo_opposite a1 σ).2)))) ∧ (¬ a2 = 0 → (k_Mo_joinAs_13 a1 σ))
abbrev w_Mo_joinAs : List Cond := Cond.code y_Mo_joinAs b_Mo_joinAs 4 none :: gw
abbrev rm_Mo_joinAs : Room := { frames := 3, cells := 0, slots := 0, locals := 73 }
set_option maxHeartbeats 4000000 in
set_option maxRecDepth 100000 in
theorem c_Mo_joinAs (l : Launch) (D : va_G) (ty : Nat → ClassId) (h : Nat → Nat) (px : va_W) (sa : Nat → Nat) (σ : St) (sz : Nat) (a1 : Int32) (a2 : Int32) (hk : k_Mo_joinAs a1 a2 σ) : Met l y_Mo_joinAs w_Mo_joinAs rm_Mo_joinAs (va_Pc [.ref (h 0), .int a1, .int a2] (fun U => U.heap.size = sz ∧ va_P D classes (Wm ty h σ px) U.heap ∧ va_K D classes (Ta ty) U ∧ NW U ∧ MK sa (va_A (Wm ty h σ px) sz) U U.heap ∧ va_D (fun _ => True) (Wm ty h σ px))) (va_Qv (fun u : St => u = f_Mo_joinAs a1 a2 σ) (fun u t => va_P D classes (Wm ty h u px) t.heap) (va_A (Wm ty h σ px) sz)) 0 0 (va_A (Wm ty h σ px) sz) := by
  refine Met.ofW (cc := b_Mo_joinAs) (maxL := 4) (ret := none) (by decide) rfl ?_
  intro p e s m args below meth c s₁ B hml hv
  obtain ⟨ha, hsz, hP, hK, hN, hM, hD0⟩ := hv
  have hx := B.exec
  have hb := B.bytes
  have hr := B.returns
  have hg : ∀ w ∈ gw, w.before args s = true := fun w h9 => atoms_spec (ws := w_Mo_joinAs) B.pre w (List.mem_cons_of_mem _ h9)
  have hown : s.vm.findClass "ClauseLedgerModel" = some m.cls := findClass_of_methodNamed B.named
  have hlocks := B.notSynchronized
  subst hsz
  have hD := hD0.self (sz := s.heap.size)
  generalize hAe : va_A (Wm ty h σ px) s.heap.size = A at hD hM ⊢
  have hA : ∀ q : Nat, s.heap.size ≤ q → A q := fun q h9 => by rw [← hAe]; exact Or.inr h9
  have hS : va_S A s.heap s.heap [] := va_S.rf
  have he : entryFrame m args 4 = entryFrame m ([.ref (h 0), .int a1, .int a2] : List Value).toArray 4 := by rw [ha]
  rw [he, lg_entry_eq]
  have hl := lv_entry ([.ref (h 0), .int a1, .int a2]) (n := 4) (Nat.le_of_ble_eq_true rfl)
  generalize (lg_sl ([.ref (h 0), .int a1, .int a2]) ++ List.replicate (4 - (lg_sl ([.ref (h 0), .int a1, .int a2])).length) Slot.unset).toArray = ls at hl ⊢
  have hl : lv_has ls 4 [(0, .ref (h 0)), (1, .int a1), (2, .int a2)] := hl
  generalize hv : f_Mo_joinAs a1 a2 σ = v
  replace hv := hv.symm
  have B19 : ∀ (H : Heap) (locs : List Loc) (ls : Array Slot) (σ : St), v = f_Mo_joinAs_19 σ → k_Mo_joinAs_19 σ → lv_has ls 4 [] → va_P D classes (Wm ty h σ px) H → va_D A (Wm ty h σ px) → va_S A s.heap H locs → W p l e (headSpec w_Mo_joinAs rm_Mo_joinAs).room s m args below meth c H locs 0 0 (MQ below (va_Qv (fun u : St => u = v) (fun u t => va_P D classes (Wm ty h u px) t.heap) A) args s 0 0 A) (F0 m 19 ls []) := by
    intro H locs ls σ hv hk hl hP hD hS
    unfold f_Mo_joinAs_19 at hv
    unfold k_Mo_joinAs_19 at hk
    exact W.vret hx hb hr (fun t ht hW => ⟨⟨_, rfl, hv.symm, by dsimp only; rw [ht]; exact hP⟩, hS.F ht⟩) hS.2.2 d_Mo_joinAs_19
  have B13 : ∀ (H : Heap) (locs : List Loc) (ls : Array Slot) (s0 : Int32) (σ : St), v = f_Mo_joinAs_13 s0 σ → k_Mo_joinAs_13 s0 σ → lv_has ls 4 [(0, .ref (h 0))] → va_P D classes (Wm ty h σ px) H → va_D A (Wm ty h σ px) → va_S A s.heap H locs → W p l e (headSpec w_Mo_joinAs rm_Mo_joinAs).room s m args below meth c H locs 0 0 (MQ below (va_Qv (fun u : St => u = v) (fun u t => va_P D classes (Wm ty h u px) t.heap) A) args s 0 0 A) (F0 m 13 ls [.int s0]) := by
    intro H locs ls s0 σ hv hk hl hP hD hS
    unfold f_Mo_joinAs_13 at hv
    unfold k_Mo_joinAs_13 at hk
    refine lv_istore_n (lv' := [(3, .int s0), (0, .ref (h 0))]) hx hb d_Mo_joinAs_13 rfl hl (by decide) rfl (fun ls hl => ?_)
    refine lv_aload_n hx hb d_Mo_joinAs_14 rfl (lv_at hl 1 rfl) ?_
    refine lv_iload_n hx hb d_Mo_joinAs_15 rfl (lv_at hl 0 rfl) ?_
    obtain ⟨hk0, hk⟩ := hk
    refine va_callv (va_runV (As := [.int s0]) (rest := []) ⟨hx, hb, hml, hown, hg⟩ (c_Mo_join l D ty h px sa σ H.size s0 hk0) ⟨callB_of 1 hg (gw_C m_1523) rfl rfl rfl (hg _ m_13) (hg _ m_1520) hd_Mo_join ⟨Nat.le_of_ble_eq_true rfl, Nat.le_of_ble_eq_true rfl⟩, hg _ m_1522, hg _ ms_65⟩ (zz_preVW hM hS hA hN hK hP hD 0 rfl rfl) rfl rfl hl.1 rfl (lv_room (Nat.le_of_ble_eq_true rfl)) d_Mo_joinAs_16 ⟨Nat.le_of_ble_eq_true rfl, Nat.le_of_ble_eq_true rfl⟩) hS (fun q _ h => zz_free hD hS hA q h) (zz_free hD hS hA) (fun u16 t H locs ht hvm hp hP1 hz hk1 hS => ?_)
    rw [ht] at hP1
    rw [← hp] at hv hk
    have hD : va_D A (Wm ty h u16 px) := zz_D hD rfl
    have hP := hP1
    exact B19 _ _ _  u16 hv hk (lv_sub hl [] rfl) hP hD hS
  unfold f_Mo_joinAs at hv
  unfold k_Mo_joinAs at hk
  refine lv_iload_n hx hb d_Mo_joinAs_0 rfl (lv_at hl 2 rfl) ?_
  refine lv_if_eq (tgt := 8) hx hb d_Mo_joinAs_1 (by decide) (fun hc => ?_) (fun hc => ?_)
  · have hv := hv.trans (if_pos hc)
    have hk := hk.1 hc
    refine lv_aload_n hx hb d_Mo_joinAs_8 rfl (lv_at hl 0 rfl) ?_
    refine lv_iload_n hx hb d_Mo_joinAs_9 rfl (lv_at hl 1 rfl) ?_
    obtain ⟨hk0, hk⟩ := hk
    refine va_calli (va_runV (As := [.int a1]) (rest := []) ⟨hx, hb, hml, hown, hg⟩ (c_Mo_opposite l D ty h px sa σ s.heap.size a1 hk0) ⟨callB_of 1 hg (gw_C m_1539) rfl rfl rfl (hg _ m_13) (hg _ m_1536) hd_Mo_opposite ⟨Nat.le_of_ble_eq_true rfl, Nat.le_of_ble_eq_true rfl⟩, hg _ m_1538, hg _ ms_68⟩ (zz_preVW hM hS hA hN hK hP hD 0 rfl rfl) rfl rfl hl.1 rfl (lv_room (Nat.le_of_ble_eq_true rfl)) d_Mo_joinAs_10 ⟨Nat.le_of_ble_eq_true rfl, Nat.le_of_ble_eq_true rfl⟩) hS (fun q _ h => zz_free hD hS hA q h) (zz_free hD hS hA) (fun r10 u10 t H locs ht hvm hp hP1 hz hk1 hS => ?_)
    rw [ht] at hP1
    rw [← hp] at hv hk
    have hD : va_D A (Wm ty h u10 px) := zz_D hD rfl
    have hP := hP1
    exact B13 _ _ _ r10 u10 hv hk (lv_sub hl [0] rfl) hP hD hS
  · have hv := hv.trans (if_neg hc)
    have hk := hk.2 hc
    refine lv_iload_n hx hb d_Mo_joinAs_4 rfl (lv_at hl 1 rfl) ?_
    refine lv_goto (tgt := 13) hx hb d_Mo_joinAs_5 (by decide) ?_
    exact B13 _ _ _ a1 σ hv hk (lv_sub hl [0] rfl) hP hD hS

-- ClauseLedgerModel.meaning(II)I
abbrev b_Mo_meaning : ByteArray := prog_14_method_38_code
def y_Mo_meaning : MethodName := ⟨"ClauseLedgerModel", "meaning", "(II)I"⟩
theorem hd_Mo_meaning : y_Mo_meaning.cls ≠ "java/lang/invoke/MethodHandle" ∧ y_Mo_meaning.cls ≠ "java/lang/invoke/VarHandle" ∧ (parseMethodDescriptor y_Mo_meaning.desc).map (fun d => d.parameters.length) = some 2 := by decide +kernel
theorem d_Mo_meaning_0 : decode b_Mo_meaning 0 = .ok (.aload_n 0, 1) := by decide +kernel
theorem d_Mo_meaning_1 : decode b_Mo_meaning 1 = .ok (.invokevirtual 201, 3) := by decide +kernel
theorem d_Mo_meaning_4 : decode b_Mo_meaning 4 = .ok (.ifCond .eq 5, 3) := by decide +kernel
theorem d_Mo_meaning_7 : decode b_Mo_meaning 7 = .ok (.iconst (-1), 1) := by decide +kernel
theorem d_Mo_meaning_8 : decode b_Mo_meaning 8 = .ok (.ireturn, 1) := by decide +kernel
theorem d_Mo_meaning_9 : decode b_Mo_meaning 9 = .ok (.sipush 17185, 3) := by decide +kernel
theorem d_Mo_meaning_12 : decode b_Mo_meaning 12 = .ok (.istore_n 3, 1) := by decide +kernel
theorem d_Mo_meaning_13 : decode b_Mo_meaning 13 = .ok (.aload_n 0, 1) := by decide +kernel
theorem d_Mo_meaning_14 : decode b_Mo_meaning 14 = .ok (.iload_n 1, 1) := by decide +kernel
theorem d_Mo_meaning_15 : decode b_Mo_meaning 15 = .ok (.invokevirtual 207, 3) := by decide +kernel
theorem d_Mo_meaning_18 : decode b_Mo_meaning 18 = .ok (.ifCond .ne 10, 3) := by decide +kernel
theorem d_Mo_meaning_21 : decode b_Mo_meaning 21 = .ok (.aload_n 0, 1) := by decide +kernel
theorem d_Mo_meaning_22 : decode b_Mo_meaning 22 = .ok (.iconst 1, 1) := by decide +kernel
theorem d_Mo_meaning_23 : decode b_Mo_meaning 23 = .ok (.iload_n 3, 1) := by decide +kernel
theorem d_Mo_meaning_24 : decode b_Mo_meaning 24 = .ok (.invokevirtual 133, 3) := by decide +kernel
theorem d_Mo_meaning_27 : decode b_Mo_meaning 27 = .ok (.ireturn, 1) := by decide +kernel
theorem d_Mo_meaning_28 : decode b_Mo_meaning 28 = .ok (.aload_n 0, 1) := by decide +kernel
theorem d_Mo_meaning_29 : decode b_Mo_meaning 29 = .ok (.getfield 26, 3) := by decide +kernel
theorem d_Mo_meaning_32 : decode b_Mo_meaning 32 = .ok (.iload_n 1, 1) := by decide +kernel
theorem d_Mo_meaning_33 : decode b_Mo_meaning 33 = .ok (.iaload, 1) := by decide +kernel
theorem d_Mo_meaning_34 : decode b_Mo_meaning 34 = .ok (.istore 4, 2) := by decide +kernel
theorem d_Mo_meaning_36 : decode b_Mo_meaning 36 = .ok (.iload 4, 2) := by decide +kernel
theorem d_Mo_meaning_38 : decode b_Mo_meaning 38 = .ok (.bipush 8, 2) := by decide +kernel
theorem d_Mo_meaning_40 : decode b_Mo_meaning 40 = .ok (.if_icmp .eq 29, 3) := by decide +kernel
theorem d_Mo_meaning_43 : decode b_Mo_meaning 43 = .ok (.iload 4, 2) := by decide +kernel
theorem d_Mo_meaning_45 : decode b_Mo_meaning 45 = .ok (.bipush 9, 2) := by decide +kernel
theorem d_Mo_meaning_47 : decode b_Mo_meaning 47 = .ok (.if_icmp .eq 22, 3) := by decide +kernel
theorem d_Mo_meaning_50 : decode b_Mo_meaning 50 = .ok (.iload 4, 2) := by decide +kernel
theorem d_Mo_meaning_52 : decode b_Mo_meaning 52 = .ok (.iconst 5, 1) := by decide +kernel
theorem d_Mo_meaning_53 : decode b_Mo_meaning 53 = .ok (.if_icmp .ne 20, 3) := by decide +kernel
theorem d_Mo_meaning_56 : decode b_Mo_meaning 56 = .ok (.aload_n 0, 1) := by decide +kernel
theorem d_Mo_meaning_57 : decode b_Mo_meaning 57 = .ok (.aload_n 0, 1) := by decide +kernel
theorem d_Mo_meaning_58 : decode b_Mo_meaning 58 = .ok (.getfield 35, 3) := by decide +kernel
theorem d_Mo_meaning_61 : decode b_Mo_meaning 61 = .ok (.iload_n 1, 1) := by decide +kernel
theorem d_Mo_meaning_62 : decode b_Mo_meaning 62 = .ok (.iaload, 1) := by decide +kernel
theorem d_Mo_meaning_63 : decode b_Mo_meaning 63 = .ok (.invokevirtual 186, 3) := by decide +kernel
theorem d_Mo_meaning_66 : decode b_Mo_meaning 66 = .ok (.ifCond .eq 7, 3) := by decide +kernel
theorem d_Mo_meaning_69 : decode b_Mo_meaning 69 = .ok (.iconst 1, 1) := by decide +kernel
theorem d_Mo_meaning_70 : decode b_Mo_meaning 70 = .ok (.goto 4, 3) := by decide +kernel
theorem d_Mo_meaning_73 : decode b_Mo_meaning 73 = .ok (.iconst 0, 1) := by decide +kernel
theorem d_Mo_meaning_74 : decode b_Mo_meaning 74 = .ok (.istore 5, 2) := by decide +kernel
theorem d_Mo_meaning_76 : decode b_Mo_meaning 76 = .ok (.iload 5, 2) := by decide +kernel
theorem d_Mo_meaning_78 : decode b_Mo_meaning 78 = .ok (.ifCond .eq 22, 3) := by decide +kernel
theorem d_Mo_meaning_81 : decode b_Mo_meaning 81 = .ok (.iload_n 2, 1) := by decide +kernel
theorem d_Mo_meaning_82 : decode b_Mo_meaning 82 = .ok (.ifCond .lt 18, 3) := by decide +kernel
theorem d_Mo_meaning_85 : decode b_Mo_meaning 85 = .ok (.iload_n 2, 1) := by decide +kernel
theorem d_Mo_meaning_86 : decode b_Mo_meaning 86 = .ok (.iload 4, 2) := by decide +kernel
theorem d_Mo_meaning_88 : decode b_Mo_meaning 88 = .ok (.iconst 5, 1) := by decide +kernel
theorem d_Mo_meaning_89 : decode b_Mo_meaning 89 = .ok (.if_icmp .ne 7, 3) := by decide +kernel
theorem d_Mo_meaning_92 : decode b_Mo_meaning 92 = .ok (.iconst 3, 1) := by decide +kernel
theorem d_Mo_meaning_93 : decode b_Mo_meaning 93 = .ok (.goto 4, 3) := by decide +kernel
theorem d_Mo_meaning_96 : decode b_Mo_meaning 96 = .ok (.iconst 2, 1) := by decide +kernel
theorem d_Mo_meaning_97 : decode b_Mo_meaning 97 = .ok (.if_icmp .le 10, 3) := by decide +kernel
theorem d_Mo_meaning_100 : decode b_Mo_meaning 100 = .ok (.aload_n 0, 1) := by decide +kernel
theorem d_Mo_meaning_101 : decode b_Mo_meaning 101 = .ok (.iconst 2, 1) := by decide +kernel
theorem d_Mo_meaning_102 : decode b_Mo_meaning 102 = .ok (.iload_n 3, 1) := by decide +kernel
theorem d_Mo_meaning_103 : decode b_Mo_meaning 103 = .ok (.invokevirtual 133, 3) := by decide +kernel
theorem d_Mo_meaning_106 : decode b_Mo_meaning 106 = .ok (.ireturn, 1) := by decide +kernel
theorem d_Mo_meaning_107 : decode b_Mo_meaning 107 = .ok (.aload_n 0, 1) := by decide +kernel
theorem d_Mo_meaning_108 : decode b_Mo_meaning 108 = .ok (.getfield 35, 3) := by decide +kernel
theorem d_Mo_meaning_111 : decode b_Mo_meaning 111 = .ok (.iload_n 1, 1) := by decide +kernel
theorem d_Mo_meaning_112 : decode b_Mo_meaning 112 = .ok (.iaload, 1) := by decide +kernel
theorem d_Mo_meaning_113 : decode b_Mo_meaning 113 = .ok (.istore 6, 2) := by decide +kernel
theorem d_Mo_meaning_115 : decode b_Mo_meaning 115 = .ok (.aload_n 0, 1) := by decide +kernel
theorem d_Mo_meaning_116 : decode b_Mo_meaning 116 = .ok (.getfield 38, 3) := by decide +kernel
theorem d_Mo_meaning_119 : decode b_Mo_meaning 119 = .ok (.iload_n 1, 1) := by decide +kernel
theorem d_Mo_meaning_120 : decode b_Mo_meaning 120 = .ok (.iaload, 1) := by decide +kernel
theorem d_Mo_meaning_121 : decode b_Mo_meaning 121 = .ok (.istore 7, 2) := by decide +kernel
theorem d_Mo_meaning_123 : decode b_Mo_meaning 123 = .ok (.aload_n 0, 1) := by decide +kernel
theorem d_Mo_meaning_124 : decode b_Mo_meaning 124 = .ok (.iload_n 1, 1) := by decide +kernel
theorem d_Mo_meaning_125 : decode b_Mo_meaning 125 = .ok (.iload 4, 2) := by decide +kernel
theorem d_Mo_meaning_127 : decode b_Mo_meaning 127 = .ok (.bipush 8, 2) := by decide +kernel
theorem d_Mo_meaning_129 : decode b_Mo_meaning 129 = .ok (.if_icmp .ne 16, 3) := by decide +kernel
theorem d_Mo_meaning_132 : decode b_Mo_meaning 132 = .ok (.iload_n 2, 1) := by decide +kernel
theorem d_Mo_meaning_133 : decode b_Mo_meaning 133 = .ok (.iconst 2, 1) := by decide +kernel
theorem d_Mo_meaning_134 : decode b_Mo_meaning 134 = .ok (.if_icmp .ne 7, 3) := by decide +kernel
theorem d_Mo_meaning_137 : decode b_Mo_meaning 137 = .ok (.iconst 1, 1) := by decide +kernel
theorem d_Mo_meaning_138 : decode b_Mo_meaning 138 = .ok (.goto 36, 3) := by decide +kernel
theorem d_Mo_meaning_141 : decode b_Mo_meaning 141 = .ok (.iconst 0, 1) := by decide +kernel
theorem d_Mo_meaning_142 : decode b_Mo_meaning 142 = .ok (.goto 32, 3) := by decide +kernel
theorem d_Mo_meaning_145 : decode b_Mo_meaning 145 = .ok (.iload 4, 2) := by decide +kernel
theorem d_Mo_meaning_147 : decode b_Mo_meaning 147 = .ok (.bipush 9, 2) := by decide +kernel
theorem d_Mo_meaning_149 : decode b_Mo_meaning 149 = .ok (.if_icmp .ne 15, 3) := by decide +kernel
theorem d_Mo_meaning_152 : decode b_Mo_meaning 152 = .ok (.iload_n 2, 1) := by decide +kernel
theorem d_Mo_meaning_153 : decode b_Mo_meaning 153 = .ok (.ifCond .le 7, 3) := by decide +kernel
theorem d_Mo_meaning_156 : decode b_Mo_meaning 156 = .ok (.iconst 1, 1) := by decide +kernel
theorem d_Mo_meaning_157 : decode b_Mo_meaning 157 = .ok (.goto 17, 3) := by decide +kernel
theorem d_Mo_meaning_160 : decode b_Mo_meaning 160 = .ok (.iconst 0, 1) := by decide +kernel
theorem d_Mo_meaning_161 : decode b_Mo_meaning 161 = .ok (.goto 13, 3) := by decide +kernel
theorem d_Mo_meaning_164 : decode b_Mo_meaning 164 = .ok (.iload_n 2, 1) := by decide +kernel
theorem d_Mo_meaning_165 : decode b_Mo_meaning 165 = .ok (.iconst 1, 1) := by decide +kernel
theorem d_Mo_meaning_166 : decode b_Mo_meaning 166 = .ok (.if_icmp .le 7, 3) := by decide +kernel
theorem d_Mo_meaning_169 : decode b_Mo_meaning 169 = .ok (.iconst 1, 1) := by decide +kernel
theorem d_Mo_meaning_170 : decode b_Mo_meaning 170 = .ok (.goto 4, 3) := by decide +kernel
theorem d_Mo_meaning_173 : decode b_Mo_meaning 173 = .ok (.iconst 0, 1) := by decide +kernel
theorem d_Mo_meaning_174 : decode b_Mo_meaning 174 = .ok (.invokevirtual 233, 3) := by decide +kernel
theorem d_Mo_meaning_177 : decode b_Mo_meaning 177 = .ok (.iload 4, 2) := by decide +kernel
theorem d_Mo_meaning_179 : decode b_Mo_meaning 179 = .ok (.bipush 8, 2) := by decide +kernel
theorem d_Mo_meaning_181 : decode b_Mo_meaning 181 = .ok (.if_icmp .ne 46, 3) := by decide +kernel
theorem d_Mo_meaning_184 : decode b_Mo_meaning 184 = .ok (.iload_n 2, 1) := by decide +kernel
theorem d_Mo_meaning_185 : decode b_Mo_meaning 185 = .ok (.iconst 1, 1) := by decide +kernel
theorem d_Mo_meaning_186 : decode b_Mo_meaning 186 = .ok (.if_icmp .eq 18, 3) := by decide +kernel
theorem d_Mo_meaning_189 : decode b_Mo_meaning 189 = .ok (.aload_n 0, 1) := by decide +kernel
theorem d_Mo_meaning_190 : decode b_Mo_meaning 190 = .ok (.iload 6, 2) := by decide +kernel
theorem d_Mo_meaning_192 : decode b_Mo_meaning 192 = .ok (.iload_n 2, 1) := by decide +kernel
theorem d_Mo_meaning_193 : decode b_Mo_meaning 193 = .ok (.ifCond .ne 7, 3) := by decide +kernel
theorem d_Mo_meaning_196 : decode b_Mo_meaning 196 = .ok (.iconst 1, 1) := by decide +kernel
theorem d_Mo_meaning_197 : decode b_Mo_meaning 197 = .ok (.goto 4, 3) := by decide +kernel
theorem d_Mo_meaning_200 : decode b_Mo_meaning 200 = .ok (.iconst 0, 1) := by decide +kernel
theorem d_Mo_meaning_201 : decode b_Mo_meaning 201 = .ok (.invokevirtual 233, 3) := by decide +kernel
theorem d_Mo_meaning_204 : decode b_Mo_meaning 204 = .ok (.iload_n 2, 1) := by decide +kernel
theorem d_Mo_meaning_205 : decode b_Mo_meaning 205 = .ok (.ifCond .eq 113, 3) := by decide +kernel
theorem d_Mo_meaning_208 : decode b_Mo_meaning 208 = .ok (.aload_n 0, 1) := by decide +kernel
theorem d_Mo_meaning_209 : decode b_Mo_meaning 209 = .ok (.iload 7, 2) := by decide +kernel
theorem d_Mo_meaning_211 : decode b_Mo_meaning 211 = .ok (.iload_n 2, 1) := by decide +kernel
theorem d_Mo_meaning_212 : decode b_Mo_meaning 212 = .ok (.iconst 1, 1) := by decide +kernel
theorem d_Mo_meaning_213 : decode b_Mo_meaning 213 = .ok (.if_icmp .ne 7, 3) := by decide +kernel
theorem d_Mo_meaning_216 : decode b_Mo_meaning 216 = .ok (.iconst 1, 1) := by decide +kernel
theorem d_Mo_meaning_217 : decode b_Mo_meaning 217 = .ok (.goto 4, 3) := by decide +kernel
theorem d_Mo_meaning_220 : decode b_Mo_meaning 220 = .ok (.iconst 0, 1) := by decide +kernel
theorem d_Mo_meaning_221 : decode b_Mo_meaning 221 = .ok (.invokevirtual 233, 3) := by decide +kernel
theorem d_Mo_meaning_224 : decode b_Mo_meaning 224 = .ok (.goto 94, 3) := by decide +kernel
theorem d_Mo_meaning_227 : decode b_Mo_meaning 227 = .ok (.iload 4, 2) := by decide +kernel
theorem d_Mo_meaning_229 : decode b_Mo_meaning 229 = .ok (.bipush 9, 2) := by decide +kernel
theorem d_Mo_meaning_231 : decode b_Mo_meaning 231 = .ok (.if_icmp .ne 46, 3) := by decide +kernel
theorem d_Mo_meaning_234 : decode b_Mo_meaning 234 = .ok (.iload_n 2, 1) := by decide +kernel
theorem d_Mo_meaning_235 : decode b_Mo_meaning 235 = .ok (.iconst 2, 1) := by decide +kernel
theorem d_Mo_meaning_236 : decode b_Mo_meaning 236 = .ok (.if_icmp .eq 18, 3) := by decide +kernel
theorem d_Mo_meaning_239 : decode b_Mo_meaning 239 = .ok (.aload_n 0, 1) := by decide +kernel
theorem d_Mo_meaning_240 : decode b_Mo_meaning 240 = .ok (.iload 6, 2) := by decide +kernel
theorem d_Mo_meaning_242 : decode b_Mo_meaning 242 = .ok (.iload_n 2, 1) := by decide +kernel
theorem d_Mo_meaning_243 : decode b_Mo_meaning 243 = .ok (.ifCond .ne 7, 3) := by decide +kernel
theorem d_Mo_meaning_246 : decode b_Mo_meaning 246 = .ok (.iconst 1, 1) := by decide +kernel
theorem d_Mo_meaning_247 : decode b_Mo_meaning 247 = .ok (.goto 4, 3) := by decide +kernel
theorem d_Mo_meaning_250 : decode b_Mo_meaning 250 = .ok (.iconst 0, 1) := by decide +kernel
theorem d_Mo_meaning_251 : decode b_Mo_meaning 251 = .ok (.invokevirtual 233, 3) := by decide +kernel
theorem d_Mo_meaning_254 : decode b_Mo_meaning 254 = .ok (.iload_n 2, 1) := by decide +kernel
theorem d_Mo_meaning_255 : decode b_Mo_meaning 255 = .ok (.iconst 1, 1) := by decide +kernel
theorem d_Mo_meaning_256 : decode b_Mo_meaning 256 = .ok (.if_icmp .eq 62, 3) := by decide +kernel
theorem d_Mo_meaning_259 : decode b_Mo_meaning 259 = .ok (.aload_n 0, 1) := by decide +kernel
theorem d_Mo_meaning_260 : decode b_Mo_meaning 260 = .ok (.iload 7, 2) := by decide +kernel
theorem d_Mo_meaning_262 : decode b_Mo_meaning 262 = .ok (.iload_n 2, 1) := by decide +kernel
theorem d_Mo_meaning_263 : decode b_Mo_meaning 263 = .ok (.ifCond .ne 7, 3) := by decide +kernel
theorem d_Mo_meaning_266 : decode b_Mo_meaning 266 = .ok (.iconst 1, 1) := by decide +kernel
theorem d_Mo_meaning_267 : decode b_Mo_meaning 267 = .ok (.goto 4, 3) := by decide +kernel
theorem d_Mo_meaning_270 : decode b_Mo_meaning 270 = .ok (.iconst 0, 1) := by decide +kernel
theorem d_Mo_meaning_271 : decode b_Mo_meaning 271 = .ok (.invokevirtual 233, 3) := by decide +kernel
theorem d_Mo_meaning_274 : decode b_Mo_meaning 274 = .ok (.goto 44, 3) := by decide +kernel
theorem d_Mo_meaning_277 : decode b_Mo_meaning 277 = .ok (.aload_n 0, 1) := by decide +kernel
theorem d_Mo_meaning_278 : decode b_Mo_meaning 278 = .ok (.iload 6, 2) := by decide +kernel
theorem d_Mo_meaning_280 : decode b_Mo_meaning 280 = .ok (.iload_n 2, 1) := by decide +kernel
theorem d_Mo_meaning_281 : decode b_Mo_meaning 281 = .ok (.iconst 1, 1) := by decide +kernel
theorem d_Mo_meaning_282 : decode b_Mo_meaning 282 = .ok (.if_icmp .eq 8, 3) := by decide +kernel
theorem d_Mo_meaning_285 : decode b_Mo_meaning 285 = .ok (.iload_n 2, 1) := by decide +kernel
theorem d_Mo_meaning_286 : decode b_Mo_meaning 286 = .ok (.iconst 2, 1) := by decide +kernel
theorem d_Mo_meaning_287 : decode b_Mo_meaning 287 = .ok (.if_icmp .ne 7, 3) := by decide +kernel
theorem d_Mo_meaning_290 : decode b_Mo_meaning 290 = .ok (.iconst 1, 1) := by decide +kernel
theorem d_Mo_meaning_291 : decode b_Mo_meaning 291 = .ok (.goto 4, 3) := by decide +kernel
theorem d_Mo_meaning_294 : decode b_Mo_meaning 294 = .ok (.iconst 0, 1) := by decide +kernel
theorem d_Mo_meaning_295 : decode b_Mo_meaning 295 = .ok (.invokevirtual 233, 3) := by decide +kernel
theorem d_Mo_meaning_298 : decode b_Mo_meaning 298 = .ok (.aload_n 0, 1) := by decide +kernel
theorem d_Mo_meaning_299 : decode b_Mo_meaning 299 = .ok (.iload 7, 2) := by decide +kernel
theorem d_Mo_meaning_301 : decode b_Mo_meaning 301 = .ok (.iload_n 2, 1) := by decide +kernel
theorem d_Mo_meaning_302 : decode b_Mo_meaning 302 = .ok (.ifCond .eq 8, 3) := by decide +kernel
theorem d_Mo_meaning_305 : decode b_Mo_meaning 305 = .ok (.iload_n 2, 1) := by decide +kernel
theorem d_Mo_meaning_306 : decode b_Mo_meaning 306 = .ok (.iconst 2, 1) := by decide +kernel
theorem d_Mo_meaning_307 : decode b_Mo_meaning 307 = .ok (.if_icmp .ne 7, 3) := by decide +kernel
theorem d_Mo_meaning_310 : decode b_Mo_meaning 310 = .ok (.iconst 1, 1) := by decide +kernel
theorem d_Mo_meaning_311 : decode b_Mo_meaning 311 = .ok (.goto 4, 3) := by decide +kernel
theorem d_Mo_meaning_314 : decode b_Mo_meaning 314 = .ok (.iconst 0, 1) := by decide +kernel
theorem d_Mo_meaning_315 : decode b_Mo_meaning 315 = .ok (.invokevirtual 233, 3) := by decide +kernel
theorem d_Mo_meaning_318 : decode b_Mo_meaning 318 = .ok (.aload_n 0, 1) := by decide +kernel
theorem d_Mo_meaning_319 : decode b_Mo_meaning 319 = .ok (.aload_n 0, 1) := by decide +kernel
theorem d_Mo_meaning_320 : decode b_Mo_meaning 320 = .ok (.getfield 214, 3) := by decide +kernel
theorem d_Mo_meaning_323 : decode b_Mo_meaning 323 = .ok (.iload_n 3, 1) := by decide +kernel
theorem d_Mo_meaning_324 : decode b_Mo_meaning 324 = .ok (.invokevirtual 217, 3) := by decide +kernel
theorem d_Mo_meaning_327 : decode b_Mo_meaning 327 = .ok (.ireturn, 1) := by decide +kernel
def f_Mo_meaning_27 (s0 : Int32) (σ : St) : Int32 × St := (s0, σ)
def k_Mo_meaning_27 (s0 : Int32) (σ : St) : Prop := True
def f_Mo_meaning_106 (s0 : Int32) (σ : St) : Int32 × St := (s0, σ)
def k_Mo_meaning_106 (s0 : Int32) (σ : St) : Prop := True
def f_Mo_meaning_100 (x3 : Int32) (σ : St) : Int32 × St := f_Mo_meaning_106 ((f_Mo_fails 2 x3 σ).1) ((f_Mo_fails 2 x3 σ).2)
def k_Mo_meaning_100 (x3 : Int32) (σ : St) : Prop := (k_Mo_fails 2 x3 σ) ∧ (k_Mo_meaning_106 ((f_Mo_fails 2 x3 σ).1) ((f_Mo_fails 2 x3 σ).2))
def f_Mo_meaning_327 (s0 : Int32) (σ : St) : Int32 × St := (s0, σ)
def k_Mo_meaning_327 (s0 : Int32) (σ : St) : Prop := True
def f_Mo_meaning_318 (x3 : Int32) (σ : St) : Int32 × St := f_Mo_meaning_327 ((f_Mo_enter (σ.1 0 25) x3 σ).1) ((f_Mo_enter (σ.1 0 25) x3 σ).2)
def k_Mo_meaning_318 (x3 : Int32) (σ : St) : Prop := (k_Mo_enter (σ.1 0 25) x3 σ) ∧ (k_Mo_meaning_327 ((f_Mo_enter (σ.1 0 25) x3 σ).1) ((f_Mo_enter (σ.1 0 25) x3 σ).2))
def f_Mo_meaning_224 (x3 : Int32) (σ : St) : Int32 × St := f_Mo_meaning_318 x3 σ
def k_Mo_meaning_224 (x3 : Int32) (σ : St) : Prop := k_Mo_meaning_318 x3 σ
def f_Mo_meaning_221 (x3 : Int32) (s0 : Int32) (s1 : Int32) (σ : St) : Int32 × St := f_Mo_meaning_224 x3 (f_Mo_joinAs s1 s0 σ)
def k_Mo_meaning_221 (x3 : Int32) (s0 : Int32) (s1 : Int32) (σ : St) : Prop := (k_Mo_joinAs s1 s0 σ) ∧ (k_Mo_meaning_224 x3 (f_Mo_joinAs s1 s0 σ))
def f_Mo_meaning_204 (x2 : Int32) (x3 : Int32) (x7 : Int32) (σ : St) : Int32 × St := if x2 = 0 then (f_Mo_meaning_318 x3 σ) else (if x2 = 1 then (f_Mo_meaning_221 x3 1 x7 σ) else (f_Mo_meaning_221 x3 0 x7 σ))
def k_Mo_meaning_204 (x2 : Int32) (x3 : Int32) (x7 : Int32) (σ : St) : Prop := (x2 = 0 → (k_Mo_meaning_318 x3 σ)) ∧ (¬ x2 = 0 → ((x2 = 1 → (k_Mo_meaning_221 x3 1 x7 σ)) ∧ (¬ x2 = 1 → (k_Mo_meaning_221 x3 0 x7 σ))))
def f_Mo_meaning_201 (x2 : Int32) (x3 : Int32) (x7 : Int32) (s0 : Int32) (s1 : Int32) (σ : St) : Int32 × St := f_Mo_meaning_204 x2 x3 x7 (f_Mo_joinAs s1 s0 σ)
def k_Mo_meaning_201 (x2 : Int32) (x3 : Int32) (x7 : Int32) (s0 : Int32) (s1 : Int32) (σ : St) : Prop := (k_Mo_joinAs s1 s0 σ) ∧ (k_Mo_meaning_204 x2 x3 x7 (f_Mo_joinAs s1 s0 σ))
def f_Mo_meaning_274 (x3 : Int32) (σ : St) : Int32 × St := f_Mo_meaning_318 x3 σ
def k_Mo_meaning_274 (x3 : Int32) (σ : St) : Prop := k_Mo_meaning_318 x3 σ
def f_Mo_meaning_271 (x3 : Int32) (s0 : Int32) (s1 : Int32) (σ : St) : Int32 × St := f_Mo_meaning_274 x3 (f_Mo_joinAs s1 s0 σ)
def k_Mo_meaning_271 (x3 : Int32) (s0 : Int32) (s1 : Int32) (σ : St) : Prop := (k_Mo_joinAs s1 s0 σ) ∧ (k_Mo_meaning_274 x3 (f_Mo_joinAs s1 s0 σ))
def f_Mo_meaning_254 (x2 : Int32) (x3 : Int32) (x7 : Int32) (σ : St) : Int32 × St := if x2 = 1 then (f_Mo_meaning_318 x3 σ) else (if x2 = 0 then (f_Mo_meaning_271 x3 1 x7 σ) else (f_Mo_meaning_271 x3 0 x7 σ))
def k_Mo_meaning_254 (x2 : Int32) (x3 : Int32) (x7 : Int32) (σ : St) : Prop := (x2 = 1 → (k_Mo_meaning_318 x3 σ)) ∧ (¬ x2 = 1 → ((x2 = 0 → (k_Mo_meaning_271 x3 1 x7 σ)) ∧ (¬ x2 = 0 → (k_Mo_meaning_271 x3 0 x7 σ))))
def f_Mo_meaning_251 (x2 : Int32) (x3 : Int32) (x7 : Int32) (s0 : Int32) (s1 : Int32) (σ : St) : Int32 × St := f_Mo_meaning_254 x2 x3 x7 (f_Mo_joinAs s1 s0 σ)
def k_Mo_meaning_251 (x2 : Int32) (x3 : Int32) (x7 : Int32) (s0 : Int32) (s1 : Int32) (σ : St) : Prop := (k_Mo_joinAs s1 s0 σ) ∧ (k_Mo_meaning_254 x2 x3 x7 (f_Mo_joinAs s1 s0 σ))
def f_Mo_meaning_315 (x3 : Int32) (s0 : Int32) (s1 : Int32) (σ : St) : Int32 × St := f_Mo_meaning_318 x3 (f_Mo_joinAs s1 s0 σ)
def k_Mo_meaning_315 (x3 : Int32) (s0 : Int32) (s1 : Int32) (σ : St) : Prop := (k_Mo_joinAs s1 s0 σ) ∧ (k_Mo_meaning_318 x3 (f_Mo_joinAs s1 s0 σ))
def f_Mo_meaning_310 (x3 : Int32) (s0 : Int32) (σ : St) : Int32 × St := f_Mo_meaning_315 x3 1 s0 σ
def k_Mo_meaning_310 (x3 : Int32) (s0 : Int32) (σ : St) : Prop := k_Mo_meaning_315 x3 1 s0 σ
def f_Mo_meaning_298 (x2 : Int32) (x3 : Int32) (x7 : Int32) (σ : St) : Int32 × St := if x2 = 0 then (f_Mo_meaning_310 x3 x7 σ) else (if x2 = 2 then (f_Mo_meaning_310 x3 x7 σ) else (f_Mo_meaning_315 x3 0 x7 σ))
def k_Mo_meaning_298 (x2 : Int32) (x3 : Int32) (x7 : Int32) (σ : St) : Prop := (x2 = 0 → (k_Mo_meaning_310 x3 x7 σ)) ∧ (¬ x2 = 0 → ((x2 = 2 → (k_Mo_meaning_310 x3 x7 σ)) ∧ (¬ x2 = 2 → (k_Mo_meaning_315 x3 0 x7 σ))))
def f_Mo_meaning_295 (x2 : Int32) (x3 : Int32) (x7 : Int32) (s0 : Int32) (s1 : Int32) (σ : St) : Int32 × St := f_Mo_meaning_298 x2 x3 x7 (f_Mo_joinAs s1 s0 σ)
def k_Mo_meaning_295 (x2 : Int32) (x3 : Int32) (x7 : Int32) (s0 : Int32) (s1 : Int32) (σ : St) : Prop := (k_Mo_joinAs s1 s0 σ) ∧ (k_Mo_meaning_298 x2 x3 x7 (f_Mo_joinAs s1 s0 σ))
def f_Mo_meaning_290 (x2 : Int32) (x3 : Int32) (x7 : Int32) (s0 : Int32) (σ : St) : Int32 × St := f_Mo_meaning_295 x2 x3 x7 1 s0 σ
def k_Mo_meaning_290 (x2 : Int32) (x3 : Int32) (x7 : Int32) (s0 : Int32) (σ : St) : Prop := k_Mo_meaning_295 x2 x3 x7 1 s0 σ
def f_Mo_meaning_177 (x2 : Int32) (x3 : Int32) (x4 : Int32) (x6 : Int32) (x7 : Int32) (σ : St) : Int32 × St := if x4 = 8 then (if x2 = 1 then (f_Mo_meaning_204 x2 x3 x7 σ) else (if x2 = 0 then (f_Mo_meaning_201 x2 x3 x7 1 x6 σ) else (f_Mo_meaning_201 x2 x3 x7 0 x6 σ))) else (if x4 = 9 then (if x2 = 2 then (f_Mo_meaning_254 x2 x3 x7 σ) else (if x2 = 0 then (f_Mo_meaning_251 x2 x3 x7 1 x6 σ) else (f_Mo_meaning_251 x2 x3 x7 0 x6 σ))) else (if x2 = 1 then (f_Mo_meaning_290 x2 x3 x7 x6 σ) else (if x2 = 2 then (f_Mo_meaning_290 x2 x3 x7 x6 σ) else (f_Mo_meaning_295 x2 x3 x7 0 x6 σ))))
def k_Mo_meaning_177 (x2 : Int32) (x3 : Int32) (x4 : Int32) (x6 : Int32) (x7 : Int32) (σ : St) : Prop := (x4 = 8 → ((x2 = 1 → (k_Mo_meaning_204 x2 x3 x7 σ)) ∧ (¬ x2 = 1 → ((x2 = 0 → (k_Mo_meaning_201 x2 x3 x7 1 x6 σ)) ∧ (¬ x2 = 0 → (k_Mo_meaning_201 x2 x3 x7 0 x6 σ)))))) ∧ (¬ x4 = 8 → ((x4 = 9 → ((x2 = 2 → (k_Mo_meaning_254 x2 x3 x7 σ)) ∧ (¬ x2 = 2 → ((x2 = 0 → (k_Mo_meaning_251 x2 x3 x7 1 x6 σ)) ∧ (¬ x2 = 0 → (k_Mo_meaning_251 x2 x3 x7 0 x6 σ)))))) ∧ (¬ x4 = 9 → ((x2 = 1 → (k_Mo_meaning_290 x2 x3 x7 x6 σ)) ∧ (¬ x2 = 1 → ((x2 = 2 → (k_Mo_meaning_290 x2 x3 x7 x6 σ)) ∧ (¬ x2 = 2 → (k_Mo_meaning_295 x2 x3 x7 0 x6 σ))))))))
def f_Mo_meaning_174 (x2 : Int32) (x3 : Int32) (x4 : Int32) (x6 : Int32) (x7 : Int32) (s0 : Int32) (s1 : Int32) (σ : St) : Int32 × St := f_Mo_meaning_177 x2 x3 x4 x6 x7 (f_Mo_joinAs s1 s0 σ)
def k_Mo_meaning_174 (x2 : Int32) (x3 : Int32) (x4 : Int32) (x6 : Int32) (x7 : Int32) (s0 : Int32) (s1 : Int32) (σ : St) : Prop := (k_Mo_joinAs s1 s0 σ) ∧ (k_Mo_meaning_177 x2 x3 x4 x6 x7 (f_Mo_joinAs s1 s0 σ))
def f_Mo_meaning_123 (x1 : Int32) (x2 : Int32) (x3 : Int32) (x4 : Int32) (x6 : Int32) (x7 : Int32) (σ : St) : Int32 × St := if x4 = 8 then (if x2 = 2 then (f_Mo_meaning_174 x2 x3 x4 x6 x7 1 x1 σ) else (f_Mo_meaning_174 x2 x3 x4 x6 x7 0 x1 σ)) else (if x4 = 9 then (if x2 ≤ 0 then (f_Mo_meaning_174 x2 x3 x4 x6 x7 0 x1 σ) else (f_Mo_meaning_174 x2 x3 x4 x6 x7 1 x1 σ)) else (if x2 ≤ 1 then (f_Mo_meaning_174 x2 x3 x4 x6 x7 0 x1 σ) else (f_Mo_meaning_174 x2 x3 x4 x6 x7 1 x1 σ)))
def k_Mo_meaning_123 (x1 : Int32) (x2 : Int32) (x3 : Int32) (x4 : Int32) (x6 : Int32) (x7 : Int32) (σ : St) : Prop := (x4 = 8 → ((x2 = 2 → (k_Mo_meaning_174 x2 x3 x4 x6 x7 1 x1 σ)) ∧ (¬ x2 = 2 → (k_Mo_meaning_174 x2 x3 x4 x6 x7 0 x1 σ)))) ∧ (¬ x4 = 8 → ((x4 = 9 → ((x2 ≤ 0 → (k_Mo_meaning_174 x2 x3 x4 x6 x7 0 x1 σ)) ∧ (¬ x2 ≤ 0 → (k_Mo_meaning_174 x2 x3 x4 x6 x7 1 x1 σ)))) ∧ (¬ x4 = 9 → ((x2 ≤ 1 → (k_Mo_meaning_174 x2 x3 x4 x6 x7 0 x1 σ)) ∧ (¬ x2 ≤ 1 → (k_Mo_meaning_174 x2 x3 x4 x6 x7 1 x1 σ))))))
def f_Mo_meaning_115 (x1 : Int32) (x2 : Int32) (x3 : Int32) (x4 : Int32) (x6 : Int32) (σ : St) : Int32 × St := f_Mo_meaning_123 x1 x2 x3 x4 x6 (σ.1 9 x1.toNatClampNeg) σ
def k_Mo_meaning_115 (x1 : Int32) (x2 : Int32) (x3 : Int32) (x4 : Int32) (x6 : Int32) (σ : St) : Prop := vp_in x1 400 ∧ (k_Mo_meaning_123 x1 x2 x3 x4 x6 (σ.1 9 x1.toNatClampNeg) σ)
def f_Mo_meaning_97 (x1 : Int32) (x2 : Int32) (x3 : Int32) (x4 : Int32) (s0 : Int32) (s1 : Int32) (σ : St) : Int32 × St := if s1 ≤ s0 then (f_Mo_meaning_115 x1 x2 x3 x4 (σ.1 8 x1.toNatClampNeg) σ) else (f_Mo_meaning_100 x3 σ)
def k_Mo_meaning_97 (x1 : Int32) (x2 : Int32) (x3 : Int32) (x4 : Int32) (s0 : Int32) (s1 : Int32) (σ : St) : Prop := (s1 ≤ s0 → (vp_in x1 400 ∧ (k_Mo_meaning_115 x1 x2 x3 x4 (σ.1 8 x1.toNatClampNeg) σ))) ∧ (¬ s1 ≤ s0 → (k_Mo_meaning_100 x3 σ))
def f_Mo_meaning_74 (x1 : Int32) (x2 : Int32) (x3 : Int32) (x4 : Int32) (s0 : Int32) (σ : St) : Int32 × St := if s0 = 0 then (f_Mo_meaning_100 x3 σ) else (if x2 < 0 then (f_Mo_meaning_100 x3 σ) else (if x4 = 5 then (f_Mo_meaning_97 x1 x2 x3 x4 3 x2 σ) else (f_Mo_meaning_97 x1 x2 x3 x4 2 x2 σ)))
def k_Mo_meaning_74 (x1 : Int32) (x2 : Int32) (x3 : Int32) (x4 : Int32) (s0 : Int32) (σ : St) : Prop := (s0 = 0 → (k_Mo_meaning_100 x3 σ)) ∧ (¬ s0 = 0 → ((x2 < 0 → (k_Mo_meaning_100 x3 σ)) ∧ (¬ x2 < 0 → ((x4 = 5 → (k_Mo_meaning_97 x1 x2 x3 x4 3 x2 σ)) ∧ (¬ x4 = 5 → (k_Mo_meaning_97 x1 x2 x3 x4 2 x2 σ))))))
def f_Mo_meaning_69 (x1 : Int32) (x2 : Int32) (x3 : Int32) (x4 : Int32) (σ : St) : Int32 × St := f_Mo_meaning_74 x1 x2 x3 x4 1 σ
def k_Mo_meaning_69 (x1 : Int32) (x2 : Int32) (x3 : Int32) (x4 : Int32) (σ : St) : Prop := k_Mo_meaning_74 x1 x2 x3 x4 1 σ
def f_Mo_meaning_73 (x1 : Int32) (x2 : Int32) (x3 : Int32) (x4 : Int32) (σ : St) : Int32 × St := f_Mo_meaning_74 x1 x2 x3 x4 0 σ
def k_Mo_meaning_73 (x1 : Int32) (x2 : Int32) (x3 : Int32) (x4 : Int32) (σ : St) : Prop := k_Mo_meaning_74 x1 x2 x3 x4 0 σ
def f_Mo_meaning_36 (x1 : Int32) (x2 : Int32) (x3 : Int32) (x4 : Int32) (σ : St) : Int32 × St := if x4 = 8 then (f_Mo_meaning_69 x1 x2 x3 x4 σ) else (if x4 = 9 then (f_Mo_meaning_69 x1 x2 x3 x4 σ) else (if x4 = 5 then (if (f_Mo_isTruth (σ.1 8 x1.toNatClampNeg) σ) = 0 then (f_Mo_meaning_73 x1 x2 x3 x4 σ) else (f_Mo_meaning_69 x1 x2 x3 x4 σ)) else (f_Mo_meaning_73 x1 x2 x3 x4 σ)))
def k_Mo_meaning_36 (x1 : Int32) (x2 : Int32) (x3 : Int32) (x4 : Int32) (σ : St) : Prop := (x4 = 8 → (k_Mo_meaning_69 x1 x2 x3 x4 σ)) ∧ (¬ x4 = 8 → ((x4 = 9 → (k_Mo_meaning_69 x1 x2 x3 x4 σ)) ∧ (¬ x4 = 9 → ((x4 = 5 → (vp_in x1 400 ∧ ((k_Mo_isTruth (σ.1 8 x1.toNatClampNeg) σ) ∧ (((f_Mo_isTruth (σ.1 8 x1.toNatClampNeg) σ) = 0 → (k_Mo_meaning_73 x1 x2 x3 x4 σ)) ∧ (¬ (f_Mo_isTruth (σ.1 8 x1.toNatClampNeg) σ) = 0 → (k_Mo_meaning_69 x1 x2 x3 x4 σ)))))) ∧ (¬ x4 = 5 → (k_Mo_meaning_73 x1 x2 x3 x4 σ))))))
def f_Mo_meaning_4 (x1 : Int32) (x2 : Int32) (s0 : Int32) (σ : St) : Int32 × St := if s0 = 0 then (if (f_Mo_isTerm x1 σ) = 0 then (f_Mo_meaning_27 ((f_Mo_fails 1 17185 σ).1) ((f_Mo_fails 1 17185 σ).2)) else (f_Mo_meaning_36 x1 x2 17185 (σ.1 5 x1.toNatClampNeg) σ)) else ((-1), σ)
def k_Mo_meaning_4 (x1 : Int32) (x2 : Int32) (s0 : Int32) (σ : St) : Prop := (s0 = 0 → ((k_Mo_isTerm x1 σ) ∧ (((f_Mo_isTerm x1 σ) = 0 → ((k_Mo_fails 1 17185 σ) ∧ (k_Mo_meaning_27 ((f_Mo_fails 1 17185 σ).1) ((f_Mo_fails 1 17185 σ).2)))) ∧ (¬ (f_Mo_isTerm x1 σ) = 0 → (vp_in x1 400 ∧ (k_Mo_meaning_36 x1 x2 17185 (σ.1 5 x1.toNatClampNeg) σ)))))) ∧ (¬ s0 = 0 → True)
def f_Mo_meaning (a1 : Int32) (a2 : Int32) (σ : St) : Int32 × St := f_Mo_meaning_4 a1 a2 ((f_Mo_begin σ).1) ((f_Mo_begin σ).2)
def k_Mo_meaning (a1 : Int32) (a2 : Int32) (σ : St) : Prop := (k_Mo_begin σ) ∧ (k_Mo_meaning_4 a1 a2 ((f_Mo_begin σ).1) ((f_Mo_begin σ).2))
abbrev w_Mo_meaning : List Cond := Cond.code y_Mo_meaning b_Mo_meaning 8 (some .int) :: gw
abbrev rm_Mo_meaning : Room := { frames := 4, cells := 0, slots := 0, locals := 96 }
set_option maxHeartbeats 4000000 in
set_option maxRecDepth 100000 in
theorem c_Mo_meaning (l : Launch) (D : va_G) (ty : Nat → ClassId) (h : Nat → Nat) (px : va_W) (sa : Nat → Nat) (σ : St) (sz : Nat) (a1 : Int32) (a2 : Int32) (hk : k_Mo_meaning a1 a2 σ) : Met l y_Mo_meaning w_Mo_meaning rm_Mo_meaning (va_Pc [.ref (h 0), .int a1, .int a2] (fun U => U.heap.size = sz ∧ va_P D classes (Wm ty h σ px) U.heap ∧ va_K D classes (Ta ty) U ∧ NW U ∧ MK sa (va_A (Wm ty h σ px) sz) U U.heap ∧ va_D (fun _ => True) (Wm ty h σ px))) (va_Qi (fun r (u : St) => (r, u) = f_Mo_meaning a1 a2 σ) (fun u t => va_P D classes (Wm ty h u px) t.heap) (va_A (Wm ty h σ px) sz)) 0 0 (va_A (Wm ty h σ px) sz) := by
  refine Met.ofW (cc := b_Mo_meaning) (maxL := 8) (ret := (some .int)) (by decide) rfl ?_
  intro p e s m args below meth c s₁ B hml hv
  obtain ⟨ha, hsz, hP, hK, hN, hM, hD0⟩ := hv
  have hx := B.exec
  have hb := B.bytes
  have hr := B.returns
  have hg : ∀ w ∈ gw, w.before args s = true := fun w h9 => atoms_spec (ws := w_Mo_meaning) B.pre w (List.mem_cons_of_mem _ h9)
  have hown : s.vm.findClass "ClauseLedgerModel" = some m.cls := findClass_of_methodNamed B.named
  have hlocks := B.notSynchronized
  subst hsz
  have hD := hD0.self (sz := s.heap.size)
  generalize hAe : va_A (Wm ty h σ px) s.heap.size = A at hD hM ⊢
  have hA : ∀ q : Nat, s.heap.size ≤ q → A q := fun q h9 => by rw [← hAe]; exact Or.inr h9
  have hS : va_S A s.heap s.heap [] := va_S.rf
  have he : entryFrame m args 8 = entryFrame m ([.ref (h 0), .int a1, .int a2] : List Value).toArray 8 := by rw [ha]
  rw [he, lg_entry_eq]
  have hl := lv_entry ([.ref (h 0), .int a1, .int a2]) (n := 8) (Nat.le_of_ble_eq_true rfl)
  generalize (lg_sl ([.ref (h 0), .int a1, .int a2]) ++ List.replicate (8 - (lg_sl ([.ref (h 0), .int a1, .int a2])).length) Slot.unset).toArray = ls at hl ⊢
  have hl : lv_has ls 8 [(0, .ref (h 0)), (1, .int a1), (2, .int a2)] := hl
  generalize hv : f_Mo_meaning a1 a2 σ = v
  replace hv := hv.symm
  have B27 : ∀ (H : Heap) (locs : List Loc) (ls : Array Slot) (s0 : Int32) (σ : St), v = f_Mo_meaning_27 s0 σ → k_Mo_meaning_27 s0 σ → lv_has ls 8 [] → va_P D classes (Wm ty h σ px) H → va_D A (Wm ty h σ px) → va_S A s.heap H locs → W p l e (headSpec w_Mo_meaning rm_Mo_meaning).room s m args below meth c H locs 0 0 (MQ below (va_Qi (fun r (u : St) => (r, u) = v) (fun u t => va_P D classes (Wm ty h u px) t.heap) A) args s 0 0 A) (F0 m 27 ls [.int s0]) := by
    intro H locs ls s0 σ hv hk hl hP hD hS
    unfold f_Mo_meaning_27 at hv
    unfold k_Mo_meaning_27 at hk
    exact W.iret hx hb hr (fun t ht hW => ⟨⟨_, _, rfl, hv.symm, by dsimp only; rw [ht]; exact hP⟩, hS.F ht⟩) hS.2.2 d_Mo_meaning_27
  have B106 : ∀ (H : Heap) (locs : List Loc) (ls : Array Slot) (s0 : Int32) (σ : St), v = f_Mo_meaning_106 s0 σ → k_Mo_meaning_106 s0 σ → lv_has ls 8 [] → va_P D classes (Wm ty h σ px) H → va_D A (Wm ty h σ px) → va_S A s.heap H locs → W p l e (headSpec w_Mo_meaning rm_Mo_meaning).room s m args below meth c H locs 0 0 (MQ below (va_Qi (fun r (u : St) => (r, u) = v) (fun u t => va_P D classes (Wm ty h u px) t.heap) A) args s 0 0 A) (F0 m 106 ls [.int s0]) := by
    intro H locs ls s0 σ hv hk hl hP hD hS
    unfold f_Mo_meaning_106 at hv
    unfold k_Mo_meaning_106 at hk
    exact W.iret hx hb hr (fun t ht hW => ⟨⟨_, _, rfl, hv.symm, by dsimp only; rw [ht]; exact hP⟩, hS.F ht⟩) hS.2.2 d_Mo_meaning_106
  have B100 : ∀ (H : Heap) (locs : List Loc) (ls : Array Slot) (x3 : Int32) (σ : St), v = f_Mo_meaning_100 x3 σ → k_Mo_meaning_100 x3 σ → lv_has ls 8 [(0, .ref (h 0)), (3, .int x3)] → va_P D classes (Wm ty h σ px) H → va_D A (Wm ty h σ px) → va_S A s.heap H locs → W p l e (headSpec w_Mo_meaning rm_Mo_meaning).room s m args below meth c H locs 0 0 (MQ below (va_Qi (fun r (u : St) => (r, u) = v) (fun u t => va_P D classes (Wm ty h u px) t.heap) A) args s 0 0 A) (F0 m 100 ls []) := by
    intro H locs ls x3 σ hv hk hl hP hD hS
    unfold f_Mo_meaning_100 at hv
    unfold k_Mo_meaning_100 at hk
    refine lv_aload_n hx hb d_Mo_meaning_100 rfl (lv_at hl 0 rfl) ?_
    refine lv_iconst (v := 2) hx hb d_Mo_meaning_101 (by decide) ?_
    refine lv_iload_n hx hb d_Mo_meaning_102 rfl (lv_at hl 1 rfl) ?_
    obtain ⟨hk0, hk⟩ := hk
    refine va_calli (va_runV (As := [.int 2, .int x3]) (rest := []) ⟨hx, hb, hml, hown, hg⟩ (c_Mo_fails l D ty h px sa σ H.size 2 x3 hk0) ⟨callB_of 2 hg (gw_C m_1507) rfl rfl rfl (hg _ m_13) (hg _ m_1504) hd_Mo_fails ⟨Nat.le_of_ble_eq_true rfl, Nat.le_of_ble_eq_true rfl⟩, hg _ m_1506, hg _ ms_62⟩ (zz_preVW hM hS hA hN hK hP hD 0 rfl rfl) rfl rfl hl.1 rfl (lv_room (Nat.le_of_ble_eq_true rfl)) d_Mo_meaning_103 ⟨Nat.le_of_ble_eq_true rfl, Nat.le_of_ble_eq_true rfl⟩) hS (fun q _ h => zz_free hD hS hA q h) (zz_free hD hS hA) (fun r103 u103 t H locs ht hvm hp hP1 hz hk1 hS => ?_)
    rw [ht] at hP1
    rw [← hp] at hv hk
    have hD : va_D A (Wm ty h u103 px) := zz_D hD rfl
    have hP := hP1
    exact B106 _ _ _ r103 u103 hv hk (lv_sub hl [] rfl) hP hD hS
  have B327 : ∀ (H : Heap) (locs : List Loc) (ls : Array Slot) (s0 : Int32) (σ : St), v = f_Mo_meaning_327 s0 σ → k_Mo_meaning_327 s0 σ → lv_has ls 8 [] → va_P D classes (Wm ty h σ px) H → va_D A (Wm ty h σ px) → va_S A s.heap H locs → W p l e (headSpec w_Mo_meaning rm_Mo_meaning).room s m args below meth c H locs 0 0 (MQ below (va_Qi (fun r (u : St) => (r, u) = v) (fun u t => va_P D classes (Wm ty h u px) t.heap) A) args s 0 0 A) (F0 m 327 ls [.int s0]) := by
    intro H locs ls s0 σ hv hk hl hP hD hS
    unfold f_Mo_meaning_327 at hv
    unfold k_Mo_meaning_327 at hk
    exact W.iret hx hb hr (fun t ht hW => ⟨⟨_, _, rfl, hv.symm, by dsimp only; rw [ht]; exact hP⟩, hS.F ht⟩) hS.2.2 d_Mo_meaning_327
  have B318 : ∀ (H : Heap) (locs : List Loc) (ls : Array Slot) (x3 : Int32) (σ : St), v = f_Mo_meaning_318 x3 σ → k_Mo_meaning_318 x3 σ → lv_has ls 8 [(0, .ref (h 0)), (3, .int x3)] → va_P D classes (Wm ty h σ px) H → va_D A (Wm ty h σ px) → va_S A s.heap H locs → W p l e (headSpec w_Mo_meaning rm_Mo_meaning).room s m args below meth c H locs 0 0 (MQ below (va_Qi (fun r (u : St) => (r, u) = v) (fun u t => va_P D classes (Wm ty h u px) t.heap) A) args s 0 0 A) (F0 m 318 ls []) := by
    intro H locs ls x3 σ hv hk hl hP hD hS
    unfold f_Mo_meaning_318 at hv
    unfold k_Mo_meaning_318 at hk
    refine lv_aload_n hx hb d_Mo_meaning_318 rfl (lv_at hl 0 rfl) ?_
    refine lv_aload_n hx hb d_Mo_meaning_319 rfl (lv_at hl 0 rfl) ?_
    refine va_get (v := .int (σ.1 0 25)) (C := R_Mo) (T := T_Mo) (N := 51) hx hb hg in_Mo hown hK hP 0 rfl rfl 25 (by decide) (hg _ m_1284) (fun _ h9 => h9) rfl d_Mo_meaning_320 ?_
    refine lv_iload_n hx hb d_Mo_meaning_323 rfl (lv_at hl 1 rfl) ?_
    obtain ⟨hk0, hk⟩ := hk
    refine va_calli (va_runV (As := [.int (σ.1 0 25), .int x3]) (rest := []) ⟨hx, hb, hml, hown, hg⟩ (c_Mo_enter l D ty h px sa σ H.size (σ.1 0 25) x3 hk0) ⟨callB_of 2 hg (gw_C m_1527) rfl rfl rfl (hg _ m_13) (hg _ m_1524) hd_Mo_enter ⟨Nat.le_of_ble_eq_true rfl, Nat.le_of_ble_eq_true rfl⟩, hg _ m_1526, hg _ ms_66⟩ (zz_preVW hM hS hA hN hK hP hD 0 rfl rfl) rfl rfl hl.1 rfl (lv_room (Nat.le_of_ble_eq_true rfl)) d_Mo_meaning_324 ⟨Nat.le_of_ble_eq_true rfl, Nat.le_of_ble_eq_true rfl⟩) hS (fun q _ h => zz_free hD hS hA q h) (zz_free hD hS hA) (fun r324 u324 t H locs ht hvm hp hP1 hz hk1 hS => ?_)
    rw [ht] at hP1
    rw [← hp] at hv hk
    have hD : va_D A (Wm ty h u324 px) := zz_D hD rfl
    have hP := hP1
    exact B327 _ _ _ r324 u324 hv hk (lv_sub hl [] rfl) hP hD hS
  have B224 : ∀ (H : Heap) (locs : List Loc) (ls : Array Slot) (x3 : Int32) (σ : St), v = f_Mo_meaning_224 x3 σ → k_Mo_meaning_224 x3 σ → lv_has ls 8 [(0, .ref (h 0)), (3, .int x3)] → va_P D classes (Wm ty h σ px) H → va_D A (Wm ty h σ px) → va_S A s.heap H locs → W p l e (headSpec w_Mo_meaning rm_Mo_meaning).room s m args below meth c H locs 0 0 (MQ below (va_Qi (fun r (u : St) => (r, u) = v) (fun u t => va_P D classes (Wm ty h u px) t.heap) A) args s 0 0 A) (F0 m 224 ls []) := by
    intro H locs ls x3 σ hv hk hl hP hD hS
    unfold f_Mo_meaning_224 at hv
    unfold k_Mo_meaning_224 at hk
    refine lv_goto (tgt := 318) hx hb d_Mo_meaning_224 (by decide) ?_
    exact B318 _ _ _ x3 σ hv hk (lv_sub hl [0, 1] rfl) hP hD hS
  have B221 : ∀ (H : Heap) (locs : List Loc) (ls : Array Slot) (x3 : Int32) (s0 : Int32) (s1 : Int32) (σ : St), v = f_Mo_meaning_221 x3 s0 s1 σ → k_Mo_meaning_221 x3 s0 s1 σ → lv_has ls 8 [(0, .ref (h 0)), (3, .int x3)] → va_P D classes (Wm ty h σ px) H → va_D A (Wm ty h σ px) → va_S A s.heap H locs → W p l e (headSpec w_Mo_meaning rm_Mo_meaning).room s m args below meth c H locs 0 0 (MQ below (va_Qi (fun r (u : St) => (r, u) = v) (fun u t => va_P D classes (Wm ty h u px) t.heap) A) args s 0 0 A) (F0 m 221 ls [.int s0, .int s1, .ref (h 0)]) := by
    intro H locs ls x3 s0 s1 σ hv hk hl hP hD hS
    unfold f_Mo_meaning_221 at hv
    unfold k_Mo_meaning_221 at hk
    obtain ⟨hk0, hk⟩ := hk
    refine va_callv (va_runV (As := [.int s1, .int s0]) (rest := []) ⟨hx, hb, hml, hown, hg⟩ (c_Mo_joinAs l D ty h px sa σ H.size s1 s0 hk0) ⟨callB_of 2 hg (gw_C m_1559) rfl rfl rfl (hg _ m_13) (hg _ m_1556) hd_Mo_joinAs ⟨Nat.le_of_ble_eq_true rfl, Nat.le_of_ble_eq_true rfl⟩, hg _ m_1558, hg _ ms_71⟩ (zz_preVW hM hS hA hN hK hP hD 0 rfl rfl) rfl rfl hl.1 rfl (lv_room (Nat.le_of_ble_eq_true rfl)) d_Mo_meaning_221 ⟨Nat.le_of_ble_eq_true rfl, Nat.le_of_ble_eq_true rfl⟩) hS (fun q _ h => zz_free hD hS hA q h) (zz_free hD hS hA) (fun u221 t H locs ht hvm hp hP1 hz hk1 hS => ?_)
    rw [ht] at hP1
    rw [← hp] at hv hk
    have hD : va_D A (Wm ty h u221 px) := zz_D hD rfl
    have hP := hP1
    exact B224 _ _ _ x3 u221 hv hk (lv_sub hl [0, 1] rfl) hP hD hS
  have B204 : ∀ (H : Heap) (locs : List Loc) (ls : Array Slot) (x2 : Int32) (x3 : Int32) (x7 : Int32) (σ : St), v = f_Mo_meaning_204 x2 x3 x7 σ → k_Mo_meaning_204 x2 x3 x7 σ → lv_has ls 8 [(0, .ref (h 0)), (2, .int x2), (3, .int x3), (7, .int x7)] → va_P D classes (Wm ty h σ px) H → va_D A (Wm ty h σ px) → va_S A s.heap H locs → W p l e (headSpec w_Mo_meaning rm_Mo_meaning).room s m args below meth c H locs 0 0 (MQ below (va_Qi (fun r (u : St) => (r, u) = v) (fun u t => va_P D classes (Wm ty h u px) t.heap) A) args s 0 0 A) (F0 m 204 ls []) := by
    intro H locs ls x2 x3 x7 σ hv hk hl hP hD hS
    unfold f_Mo_meaning_204 at hv
    unfold k_Mo_meaning_204 at hk
    refine lv_iload_n hx hb d_Mo_meaning_204 rfl (lv_at hl 1 rfl) ?_
    refine lv_if_eq (tgt := 318) hx hb d_Mo_meaning_205 (by decide) (fun hc => ?_) (fun hc => ?_)
    · have hv := hv.trans (if_pos hc)
      have hk := hk.1 hc
      exact B318 _ _ _ x3 σ hv hk (lv_sub hl [0, 2] rfl) hP hD hS
    · have hv := hv.trans (if_neg hc)
      have hk := hk.2 hc
      refine lv_aload_n hx hb d_Mo_meaning_208 rfl (lv_at hl 0 rfl) ?_
      refine lv_iload hx hb d_Mo_meaning_209 (lv_at hl 3 rfl) ?_
      refine lv_iload_n hx hb d_Mo_meaning_211 rfl (lv_at hl 1 rfl) ?_
      refine lv_iconst (v := 1) hx hb d_Mo_meaning_212 (by decide) ?_
      refine lv_icmp_ne (tgt := 220) hx hb d_Mo_meaning_213 (by decide) (fun hc => ?_) (fun hc => ?_)
      · have hv := hv.trans (if_neg hc)
        have hk := hk.2 hc
        refine lv_iconst (v := 0) hx hb d_Mo_meaning_220 (by decide) ?_
        exact B221 _ _ _ x3 0 x7 σ hv hk (lv_sub hl [0, 2] rfl) hP hD hS
      · have hv := hv.trans (if_pos hc)
        have hk := hk.1 hc
        refine lv_iconst (v := 1) hx hb d_Mo_meaning_216 (by decide) ?_
        refine lv_goto (tgt := 221) hx hb d_Mo_meaning_217 (by decide) ?_
        exact B221 _ _ _ x3 1 x7 σ hv hk (lv_sub hl [0, 2] rfl) hP hD hS
  have B201 : ∀ (H : Heap) (locs : List Loc) (ls : Array Slot) (x2 : Int32) (x3 : Int32) (x7 : Int32) (s0 : Int32) (s1 : Int32) (σ : St), v = f_Mo_meaning_201 x2 x3 x7 s0 s1 σ → k_Mo_meaning_201 x2 x3 x7 s0 s1 σ → lv_has ls 8 [(0, .ref (h 0)), (2, .int x2), (3, .int x3), (7, .int x7)] → va_P D classes (Wm ty h σ px) H → va_D A (Wm ty h σ px) → va_S A s.heap H locs → W p l e (headSpec w_Mo_meaning rm_Mo_meaning).room s m args below meth c H locs 0 0 (MQ below (va_Qi (fun r (u : St) => (r, u) = v) (fun u t => va_P D classes (Wm ty h u px) t.heap) A) args s 0 0 A) (F0 m 201 ls [.int s0, .int s1, .ref (h 0)]) := by
    intro H locs ls x2 x3 x7 s0 s1 σ hv hk hl hP hD hS
    unfold f_Mo_meaning_201 at hv
    unfold k_Mo_meaning_201 at hk
    obtain ⟨hk0, hk⟩ := hk
    refine va_callv (va_runV (As := [.int s1, .int s0]) (rest := []) ⟨hx, hb, hml, hown, hg⟩ (c_Mo_joinAs l D ty h px sa σ H.size s1 s0 hk0) ⟨callB_of 2 hg (gw_C m_1559) rfl rfl rfl (hg _ m_13) (hg _ m_1556) hd_Mo_joinAs ⟨Nat.le_of_ble_eq_true rfl, Nat.le_of_ble_eq_true rfl⟩, hg _ m_1558, hg _ ms_71⟩ (zz_preVW hM hS hA hN hK hP hD 0 rfl rfl) rfl rfl hl.1 rfl (lv_room (Nat.le_of_ble_eq_true rfl)) d_Mo_meaning_201 ⟨Nat.le_of_ble_eq_true rfl, Nat.le_of_ble_eq_true rfl⟩) hS (fun q _ h => zz_free hD hS hA q h) (zz_free hD hS hA) (fun u201 t H locs ht hvm hp hP1 hz hk1 hS => ?_)
    rw [ht] at hP1
    rw [← hp] at hv hk
    have hD : va_D A (Wm ty h u201 px) := zz_D hD rfl
    have hP := hP1
    exact B204 _ _ _ x2 x3 x7 u201 hv hk (lv_sub hl [0, 1, 2, 3] rfl) hP hD hS
  have B274 : ∀ (H : Heap) (locs : List Loc) (ls : Array Slot) (x3 : Int32) (σ : St), v = f_Mo_meaning_274 x3 σ → k_Mo_meaning_274 x3 σ → lv_has ls 8 [(0, .ref (h 0)), (3, .int x3)] → va_P D classes (Wm ty h σ px) H → va_D A (Wm ty h σ px) → va_S A s.heap H locs → W p l e (headSpec w_Mo_meaning rm_Mo_meaning).room s m args below meth c H locs 0 0 (MQ below (va_Qi (fun r (u : St) => (r, u) = v) (fun u t => va_P D classes (Wm ty h u px) t.heap) A) args s 0 0 A) (F0 m 274 ls []) := by
    intro H locs ls x3 σ hv hk hl hP hD hS
    unfold f_Mo_meaning_274 at hv
    unfold k_Mo_meaning_274 at hk
    refine lv_goto (tgt := 318) hx hb d_Mo_meaning_274 (by decide) ?_
    exact B318 _ _ _ x3 σ hv hk (lv_sub hl [0, 1] rfl) hP hD hS
  have B271 : ∀ (H : Heap) (locs : List Loc) (ls : Array Slot) (x3 : Int32) (s0 : Int32) (s1 : Int32) (σ : St), v = f_Mo_meaning_271 x3 s0 s1 σ → k_Mo_meaning_271 x3 s0 s1 σ → lv_has ls 8 [(0, .ref (h 0)), (3, .int x3)] → va_P D classes (Wm ty h σ px) H → va_D A (Wm ty h σ px) → va_S A s.heap H locs → W p l e (headSpec w_Mo_meaning rm_Mo_meaning).room s m args below meth c H locs 0 0 (MQ below (va_Qi (fun r (u : St) => (r, u) = v) (fun u t => va_P D classes (Wm ty h u px) t.heap) A) args s 0 0 A) (F0 m 271 ls [.int s0, .int s1, .ref (h 0)]) := by
    intro H locs ls x3 s0 s1 σ hv hk hl hP hD hS
    unfold f_Mo_meaning_271 at hv
    unfold k_Mo_meaning_271 at hk
    obtain ⟨hk0, hk⟩ := hk
    refine va_callv (va_runV (As := [.int s1, .int s0]) (rest := []) ⟨hx, hb, hml, hown, hg⟩ (c_Mo_joinAs l D ty h px sa σ H.size s1 s0 hk0) ⟨callB_of 2 hg (gw_C m_1559) rfl rfl rfl (hg _ m_13) (hg _ m_1556) hd_Mo_joinAs ⟨Nat.le_of_ble_eq_true rfl, Nat.le_of_ble_eq_true rfl⟩, hg _ m_1558, hg _ ms_71⟩ (zz_preVW hM hS hA hN hK hP hD 0 rfl rfl) rfl rfl hl.1 rfl (lv_room (Nat.le_of_ble_eq_true rfl)) d_Mo_meaning_271 ⟨Nat.le_of_ble_eq_true rfl, Nat.le_of_ble_eq_true rfl⟩) hS (fun q _ h => zz_free hD hS hA q h) (zz_free hD hS hA) (fun u271 t H locs ht hvm hp hP1 hz hk1 hS => ?_)
    rw [ht] at hP1
    rw [← hp] at hv hk
    have hD : va_D A (Wm ty h u271 px) := zz_D hD rfl
    have hP := hP1
    exact B274 _ _ _ x3 u271 hv hk (lv_sub hl [0, 1] rfl) hP hD hS
  have B254 : ∀ (H : Heap) (locs : List Loc) (ls : Array Slot) (x2 : Int32) (x3 : Int32) (x7 : Int32) (σ : St), v = f_Mo_meaning_254 x2 x3 x7 σ → k_Mo_meaning_254 x2 x3 x7 σ → lv_has ls 8 [(0, .ref (h 0)), (2, .int x2), (3, .int x3), (7, .int x7)] → va_P D classes (Wm ty h σ px) H → va_D A (Wm ty h σ px) → va_S A s.heap H locs → W p l e (headSpec w_Mo_meaning rm_Mo_meaning).room s m args below meth c H locs 0 0 (MQ below (va_Qi (fun r (u : St) => (r, u) = v) (fun u t => va_P D classes (Wm ty h u px) t.heap) A) args s 0 0 A) (F0 m 254 ls []) := by
    intro H locs ls x2 x3 x7 σ hv hk hl hP hD hS
    unfold f_Mo_meaning_254 at hv
    unfold k_Mo_meaning_254 at hk
    refine lv_iload_n hx hb d_Mo_meaning_254 rfl (lv_at hl 1 rfl) ?_
    refine lv_iconst (v := 1) hx hb d_Mo_meaning_255 (by decide) ?_
    refine lv_icmp_eq (tgt := 318) hx hb d_Mo_meaning_256 (by decide) (fun hc => ?_) (fun hc => ?_)
    · have hv := hv.trans (if_pos hc)
      have hk := hk.1 hc
      exact B318 _ _ _ x3 σ hv hk (lv_sub hl [0, 2] rfl) hP hD hS
    · have hv := hv.trans (if_neg hc)
      have hk := hk.2 hc
      refine lv_aload_n hx hb d_Mo_meaning_259 rfl (lv_at hl 0 rfl) ?_
      refine lv_iload hx hb d_Mo_meaning_260 (lv_at hl 3 rfl) ?_
      refine lv_iload_n hx hb d_Mo_meaning_262 rfl (lv_at hl 1 rfl) ?_
      refine lv_if_ne (tgt := 270) hx hb d_Mo_meaning_263 (by decide) (fun hc => ?_) (fun hc => ?_)
      · have hv := hv.trans (if_neg hc)
        have hk := hk.2 hc
        refine lv_iconst (v := 0) hx hb d_Mo_meaning_270 (by decide) ?_
        exact B271 _ _ _ x3 0 x7 σ hv hk (lv_sub hl [0, 2] rfl) hP hD hS
      · have hv := hv.trans (if_pos hc)
        have hk := hk.1 hc
        refine lv_iconst (v := 1) hx hb d_Mo_meaning_266 (by decide) ?_
        refine lv_goto (tgt := 271) hx hb d_Mo_meaning_267 (by decide) ?_
        exact B271 _ _ _ x3 1 x7 σ hv hk (lv_sub hl [0, 2] rfl) hP hD hS
  have B251 : ∀ (H : Heap) (locs : List Loc) (ls : Array Slot) (x2 : Int32) (x3 : Int32) (x7 : Int32) (s0 : Int32) (s1 : Int32) (σ : St), v = f_Mo_meaning_251 x2 x3 x7 s0 s1 σ → k_Mo_meaning_251 x2 x3 x7 s0 s1 σ → lv_has ls 8 [(0, .ref (h 0)), (2, .int x2), (3, .int x3), (7, .int x7)] → va_P D classes (Wm ty h σ px) H → va_D A (Wm ty h σ px) → va_S A s.heap H locs → W p l e (headSpec w_Mo_meaning rm_Mo_meaning).room s m args below meth c H locs 0 0 (MQ below (va_Qi (fun r (u : St) => (r, u) = v) (fun u t => va_P D classes (Wm ty h u px) t.heap) A) args s 0 0 A) (F0 m 251 ls [.int s0, .int s1, .ref (h 0)]) := by
    intro H locs ls x2 x3 x7 s0 s1 σ hv hk hl hP hD hS
    unfold f_Mo_meaning_251 at hv
    unfold k_Mo_meaning_251 at hk
    obtain ⟨hk0, hk⟩ := hk
    refine va_callv (va_runV (As := [.int s1, .int s0]) (rest := []) ⟨hx, hb, hml, hown, hg⟩ (c_Mo_joinAs l D ty h px sa σ H.size s1 s0 hk0) ⟨callB_of 2 hg (gw_C m_1559) rfl rfl rfl (hg _ m_13) (hg _ m_1556) hd_Mo_joinAs ⟨Nat.le_of_ble_eq_true rfl, Nat.le_of_ble_eq_true rfl⟩, hg _ m_1558, hg _ ms_71⟩ (zz_preVW hM hS hA hN hK hP hD 0 rfl rfl) rfl rfl hl.1 rfl (lv_room (Nat.le_of_ble_eq_true rfl)) d_Mo_meaning_251 ⟨Nat.le_of_ble_eq_true rfl, Nat.le_of_ble_eq_true rfl⟩) hS (fun q _ h => zz_free hD hS hA q h) (zz_free hD hS hA) (fun u251 t H locs ht hvm hp hP1 hz hk1 hS => ?_)
    rw [ht] at hP1
    rw [← hp] at hv hk
    have hD : va_D A (Wm ty h u251 px) := zz_D hD rfl
    have hP := hP1
    exact B254 _ _ _ x2 x3 x7 u251 hv hk (lv_sub hl [0, 1, 2, 3] rfl) hP hD hS
  have B315 : ∀ (H : Heap) (locs : List Loc) (ls : Array Slot) (x3 : Int32) (s0 : Int32) (s1 : Int32) (σ : St), v = f_Mo_meaning_315 x3 s0 s1 σ → k_Mo_meaning_315 x3 s0 s1 σ → lv_has ls 8 [(0, .ref (h 0)), (3, .int x3)] → va_P D classes (Wm ty h σ px) H → va_D A (Wm ty h σ px) → va_S A s.heap H locs → W p l e (headSpec w_Mo_meaning rm_Mo_meaning).room s m args below meth c H locs 0 0 (MQ below (va_Qi (fun r (u : St) => (r, u) = v) (fun u t => va_P D classes (Wm ty h u px) t.heap) A) args s 0 0 A) (F0 m 315 ls [.int s0, .int s1, .ref (h 0)]) := by
    intro H locs ls x3 s0 s1 σ hv hk hl hP hD hS
    unfold f_Mo_meaning_315 at hv
    unfold k_Mo_meaning_315 at hk
    obtain ⟨hk0, hk⟩ := hk
    refine va_callv (va_runV (As := [.int s1, .int s0]) (rest := []) ⟨hx, hb, hml, hown, hg⟩ (c_Mo_joinAs l D ty h px sa σ H.size s1 s0 hk0) ⟨callB_of 2 hg (gw_C m_1559) rfl rfl rfl (hg _ m_13) (hg _ m_1556) hd_Mo_joinAs ⟨Nat.le_of_ble_eq_true rfl, Nat.le_of_ble_eq_true rfl⟩, hg _ m_1558, hg _ ms_71⟩ (zz_preVW hM hS hA hN hK hP hD 0 rfl rfl) rfl rfl hl.1 rfl (lv_room (Nat.le_of_ble_eq_true rfl)) d_Mo_meaning_315 ⟨Nat.le_of_ble_eq_true rfl, Nat.le_of_ble_eq_true rfl⟩) hS (fun q _ h => zz_free hD hS hA q h) (zz_free hD hS hA) (fun u315 t H locs ht hvm hp hP1 hz hk1 hS => ?_)
    rw [ht] at hP1
    rw [← hp] at hv hk
    have hD : va_D A (Wm ty h u315 px) := zz_D hD rfl
    have hP := hP1
    exact B318 _ _ _ x3 u315 hv hk (lv_sub hl [0, 1] rfl) hP hD hS
  have B310 : ∀ (H : Heap) (locs : List Loc) (ls : Array Slot) (x3 : Int32) (s0 : Int32) (σ : St), v = f_Mo_meaning_310 x3 s0 σ → k_Mo_meaning_310 x3 s0 σ → lv_has ls 8 [(0, .ref (h 0)), (3, .int x3)] → va_P D classes (Wm ty h σ px) H → va_D A (Wm ty h σ px) → va_S A s.heap H locs → W p l e (headSpec w_Mo_meaning rm_Mo_meaning).room s m args below meth c H locs 0 0 (MQ below (va_Qi (fun r (u : St) => (r, u) = v) (fun u t => va_P D classes (Wm ty h u px) t.heap) A) args s 0 0 A) (F0 m 310 ls [.int s0, .ref (h 0)]) := by
    intro H locs ls x3 s0 σ hv hk hl hP hD hS
    unfold f_Mo_meaning_310 at hv
    unfold k_Mo_meaning_310 at hk
    refine lv_iconst (v := 1) hx hb d_Mo_meaning_310 (by decide) ?_
    refine lv_goto (tgt := 315) hx hb d_Mo_meaning_311 (by decide) ?_
    exact B315 _ _ _ x3 1 s0 σ hv hk (lv_sub hl [0, 1] rfl) hP hD hS
  have B298 : ∀ (H : Heap) (locs : List Loc) (ls : Array Slot) (x2 : Int32) (x3 : Int32) (x7 : Int32) (σ : St), v = f_Mo_meaning_298 x2 x3 x7 σ → k_Mo_meaning_298 x2 x3 x7 σ → lv_has ls 8 [(0, .ref (h 0)), (2, .int x2), (3, .int x3), (7, .int x7)] → va_P D classes (Wm ty h σ px) H → va_D A (Wm ty h σ px) → va_S A s.heap H locs → W p l e (headSpec w_Mo_meaning rm_Mo_meaning).room s m args below meth c H locs 0 0 (MQ below (va_Qi (fun r (u : St) => (r, u) = v) (fun u t => va_P D classes (Wm ty h u px) t.heap) A) args s 0 0 A) (F0 m 298 ls []) := by
    intro H locs ls x2 x3 x7 σ hv hk hl hP hD hS
    unfold f_Mo_meaning_298 at hv
    unfold k_Mo_meaning_298 at hk
    refine lv_aload_n hx hb d_Mo_meaning_298 rfl (lv_at hl 0 rfl) ?_
    refine lv_iload hx hb d_Mo_meaning_299 (lv_at hl 3 rfl) ?_
    refine lv_iload_n hx hb d_Mo_meaning_301 rfl (lv_at hl 1 rfl) ?_
    refine lv_if_eq (tgt := 310) hx hb d_Mo_meaning_302 (by decide) (fun hc => ?_) (fun hc => ?_)
    · have hv := hv.trans (if_pos hc)
      have hk := hk.1 hc
      exact B310 _ _ _ x3 x7 σ hv hk (lv_sub hl [0, 2] rfl) hP hD hS
    · have hv := hv.trans (if_neg hc)
      have hk := hk.2 hc
      refine lv_iload_n hx hb d_Mo_meaning_305 rfl (lv_at hl 1 rfl) ?_
      refine lv_iconst (v := 2) hx hb d_Mo_meaning_306 (by decide) ?_
      refine lv_icmp_ne (tgt := 314) hx hb d_Mo_meaning_307 (by decide) (fun hc => ?_) (fun hc => ?_)
      · have hv := hv.trans (if_neg hc)
        have hk := hk.2 hc
        refine lv_iconst (v := 0) hx hb d_Mo_meaning_314 (by decide) ?_
        exact B315 _ _ _ x3 0 x7 σ hv hk (lv_sub hl [0, 2] rfl) hP hD hS
      · have hv := hv.trans (if_pos hc)
        have hk := hk.1 hc
        exact B310 _ _ _ x3 x7 σ hv hk (lv_sub hl [0, 2] rfl) hP hD hS
  have B295 : ∀ (H : Heap) (locs : List Loc) (ls : Array Slot) (x2 : Int32) (x3 : Int32) (x7 : Int32) (s0 : Int32) (s1 : Int32) (σ : St), v = f_Mo_meaning_295 x2 x3 x7 s0 s1 σ → k_Mo_meaning_295 x2 x3 x7 s0 s1 σ → lv_has ls 8 [(0, .ref (h 0)), (2, .int x2), (3, .int x3), (7, .int x7)] → va_P D classes (Wm ty h σ px) H → va_D A (Wm ty h σ px) → va_S A s.heap H locs → W p l e (headSpec w_Mo_meaning rm_Mo_meaning).room s m args below meth c H locs 0 0 (MQ below (va_Qi (fun r (u : St) => (r, u) = v) (fun u t => va_P D classes (Wm ty h u px) t.heap) A) args s 0 0 A) (F0 m 295 ls [.int s0, .int s1, .ref (h 0)]) := by
    intro H locs ls x2 x3 x7 s0 s1 σ hv hk hl hP hD hS
    unfold f_Mo_meaning_295 at hv
    unfold k_Mo_meaning_295 at hk
    obtain ⟨hk0, hk⟩ := hk
    refine va_callv (va_runV (As := [.int s1, .int s0]) (rest := []) ⟨hx, hb, hml, hown, hg⟩ (c_Mo_joinAs l D ty h px sa σ H.size s1 s0 hk0) ⟨callB_of 2 hg (gw_C m_1559) rfl rfl rfl (hg _ m_13) (hg _ m_1556) hd_Mo_joinAs ⟨Nat.le_of_ble_eq_true rfl, Nat.le_of_ble_eq_true rfl⟩, hg _ m_1558, hg _ ms_71⟩ (zz_preVW hM hS hA hN hK hP hD 0 rfl rfl) rfl rfl hl.1 rfl (lv_room (Nat.le_of_ble_eq_true rfl)) d_Mo_meaning_295 ⟨Nat.le_of_ble_eq_true rfl, Nat.le_of_ble_eq_true rfl⟩) hS (fun q _ h => zz_free hD hS hA q h) (zz_free hD hS hA) (fun u295 t H locs ht hvm hp hP1 hz hk1 hS => ?_)
    rw [ht] at hP1
    rw [← hp] at hv hk
    have hD : va_D A (Wm ty h u295 px) := zz_D hD rfl
    have hP := hP1
    exact B298 _ _ _ x2 x3 x7 u295 hv hk (lv_sub hl [0, 1, 2, 3] rfl) hP hD hS
  have B290 : ∀ (H : Heap) (locs : List Loc) (ls : Array Slot) (x2 : Int32) (x3 : Int32) (x7 : Int32) (s0 : Int32) (σ : St), v = f_Mo_meaning_290 x2 x3 x7 s0 σ → k_Mo_meaning_290 x2 x3 x7 s0 σ → lv_has ls 8 [(0, .ref (h 0)), (2, .int x2), (3, .int x3), (7, .int x7)] → va_P D classes (Wm ty h σ px) H → va_D A (Wm ty h σ px) → va_S A s.heap H locs → W p l e (headSpec w_Mo_meaning rm_Mo_meaning).room s m args below meth c H locs 0 0 (MQ below (va_Qi (fun r (u : St) => (r, u) = v) (fun u t => va_P D classes (Wm ty h u px) t.heap) A) args s 0 0 A) (F0 m 290 ls [.int s0, .ref (h 0)]) := by
    intro H locs ls x2 x3 x7 s0 σ hv hk hl hP hD hS
    unfold f_Mo_meaning_290 at hv
    unfold k_Mo_meaning_290 at hk
    refine lv_iconst (v := 1) hx hb d_Mo_meaning_290 (by decide) ?_
    refine lv_goto (tgt := 295) hx hb d_Mo_meaning_291 (by decide) ?_
    exact B295 _ _ _ x2 x3 x7 1 s0 σ hv hk (lv_sub hl [0, 1, 2, 3] rfl) hP hD hS
  have B177 : ∀ (H : Heap) (locs : List Loc) (ls : Array Slot) (x2 : Int32) (x3 : Int32) (x4 : Int32) (x6 : Int32) (x7 : Int32) (σ : St), v = f_Mo_meaning_177 x2 x3 x4 x6 x7 σ → k_Mo_meaning_177 x2 x3 x4 x6 x7 σ → lv_has ls 8 [(0, .ref (h 0)), (2, .int x2), (3, .int x3), (4, .int x4), (6, .int x6), (7, .int x7)] → va_P D classes (Wm ty h σ px) H → va_D A (Wm ty h σ px) → va_S A s.heap H locs → W p l e (headSpec w_Mo_meaning rm_Mo_meaning).room s m args below meth c H locs 0 0 (MQ below (va_Qi (fun r (u : St) => (r, u) = v) (fun u t => va_P D classes (Wm ty h u px) t.heap) A) args s 0 0 A) (F0 m 177 ls []) := by
    intro H locs ls x2 x3 x4 x6 x7 σ hv hk hl hP hD hS
    unfold f_Mo_meaning_177 at hv
    unfold k_Mo_meaning_177 at hk
    refine lv_iload hx hb d_Mo_meaning_177 (lv_at hl 3 rfl) ?_
    refine lv_bipush (v := 8) hx hb d_Mo_meaning_179 (by decide) ?_
    refine lv_icmp_ne (tgt := 227) hx hb d_Mo_meaning_181 (by decide) (fun hc => ?_) (fun hc => ?_)
    · have hv := hv.trans (if_neg hc)
      have hk := hk.2 hc
      refine lv_iload hx hb d_Mo_meaning_227 (lv_at hl 3 rfl) ?_
      refine lv_bipush (v := 9) hx hb d_Mo_meaning_229 (by decide) ?_
      refine lv_icmp_ne (tgt := 277) hx hb d_Mo_meaning_231 (by decide) (fun hc => ?_) (fun hc => ?_)
      · have hv := hv.trans (if_neg hc)
        have hk := hk.2 hc
        refine lv_aload_n hx hb d_Mo_meaning_277 rfl (lv_at hl 0 rfl) ?_
        refine lv_iload hx hb d_Mo_meaning_278 (lv_at hl 4 rfl) ?_
        refine lv_iload_n hx hb d_Mo_meaning_280 rfl (lv_at hl 1 rfl) ?_
        refine lv_iconst (v := 1) hx hb d_Mo_meaning_281 (by decide) ?_
        refine lv_icmp_eq (tgt := 290) hx hb d_Mo_meaning_282 (by decide) (fun hc => ?_) (fun hc => ?_)
        · have hv := hv.trans (if_pos hc)
          have hk := hk.1 hc
          exact B290 _ _ _ x2 x3 x7 x6 σ hv hk (lv_sub hl [0, 1, 2, 5] rfl) hP hD hS
        · have hv := hv.trans (if_neg hc)
          have hk := hk.2 hc
          refine lv_iload_n hx hb d_Mo_meaning_285 rfl (lv_at hl 1 rfl) ?_
          refine lv_iconst (v := 2) hx hb d_Mo_meaning_286 (by decide) ?_
          refine lv_icmp_ne (tgt := 294) hx hb d_Mo_meaning_287 (by decide) (fun hc => ?_) (fun hc => ?_)
          · have hv := hv.trans (if_neg hc)
            have hk := hk.2 hc
            refine lv_iconst (v := 0) hx hb d_Mo_meaning_294 (by decide) ?_
            exact B295 _ _ _ x2 x3 x7 0 x6 σ hv hk (lv_sub hl [0, 1, 2, 5] rfl) hP hD hS
          · have hv := hv.trans (if_pos hc)
            have hk := hk.1 hc
            exact B290 _ _ _ x2 x3 x7 x6 σ hv hk (lv_sub hl [0, 1, 2, 5] rfl) hP hD hS
      · have hv := hv.trans (if_pos hc)
        have hk := hk.1 hc
        refine lv_iload_n hx hb d_Mo_meaning_234 rfl (lv_at hl 1 rfl) ?_
        refine lv_iconst (v := 2) hx hb d_Mo_meaning_235 (by decide) ?_
        refine lv_icmp_eq (tgt := 254) hx hb d_Mo_meaning_236 (by decide) (fun hc => ?_) (fun hc => ?_)
        · have hv := hv.trans (if_pos hc)
          have hk := hk.1 hc
          exact B254 _ _ _ x2 x3 x7 σ hv hk (lv_sub hl [0, 1, 2, 5] rfl) hP hD hS
        · have hv := hv.trans (if_neg hc)
          have hk := hk.2 hc
          refine lv_aload_n hx hb d_Mo_meaning_239 rfl (lv_at hl 0 rfl) ?_
          refine lv_iload hx hb d_Mo_meaning_240 (lv_at hl 4 rfl) ?_
          refine lv_iload_n hx hb d_Mo_meaning_242 rfl (lv_at hl 1 rfl) ?_
          refine lv_if_ne (tgt := 250) hx hb d_Mo_meaning_243 (by decide) (fun hc => ?_) (fun hc => ?_)
          · have hv := hv.trans (if_neg hc)
            have hk := hk.2 hc
            refine lv_iconst (v := 0) hx hb d_Mo_meaning_250 (by decide) ?_
            exact B251 _ _ _ x2 x3 x7 0 x6 σ hv hk (lv_sub hl [0, 1, 2, 5] rfl) hP hD hS
          · have hv := hv.trans (if_pos hc)
            have hk := hk.1 hc
            refine lv_iconst (v := 1) hx hb d_Mo_meaning_246 (by decide) ?_
            refine lv_goto (tgt := 251) hx hb d_Mo_meaning_247 (by decide) ?_
            exact B251 _ _ _ x2 x3 x7 1 x6 σ hv hk (lv_sub hl [0, 1, 2, 5] rfl) hP hD hS
    · have hv := hv.trans (if_pos hc)
      have hk := hk.1 hc
      refine lv_iload_n hx hb d_Mo_meaning_184 rfl (lv_at hl 1 rfl) ?_
      refine lv_iconst (v := 1) hx hb d_Mo_meaning_185 (by decide) ?_
      refine lv_icmp_eq (tgt := 204) hx hb d_Mo_meaning_186 (by decide) (fun hc => ?_) (fun hc => ?_)
      · have hv := hv.trans (if_pos hc)
        have hk := hk.1 hc
        exact B204 _ _ _ x2 x3 x7 σ hv hk (lv_sub hl [0, 1, 2, 5] rfl) hP hD hS
      · have hv := hv.trans (if_neg hc)
        have hk := hk.2 hc
        refine lv_aload_n hx hb d_Mo_meaning_189 rfl (lv_at hl 0 rfl) ?_
        refine lv_iload hx hb d_Mo_meaning_190 (lv_at hl 4 rfl) ?_
        refine lv_iload_n hx hb d_Mo_meaning_192 rfl (lv_at hl 1 rfl) ?_
        refine lv_if_ne (tgt := 200) hx hb d_Mo_meaning_193 (by decide) (fun hc => ?_) (fun hc => ?_)
        · have hv := hv.trans (if_neg hc)
          have hk := hk.2 hc
          refine lv_iconst (v := 0) hx hb d_Mo_meaning_200 (by decide) ?_
          exact B201 _ _ _ x2 x3 x7 0 x6 σ hv hk (lv_sub hl [0, 1, 2, 5] rfl) hP hD hS
        · have hv := hv.trans (if_pos hc)
          have hk := hk.1 hc
          refine lv_iconst (v := 1) hx hb d_Mo_meaning_196 (by decide) ?_
          refine lv_goto (tgt := 201) hx hb d_Mo_meaning_197 (by decide) ?_
          exact B201 _ _ _ x2 x3 x7 1 x6 σ hv hk (lv_sub hl [0, 1, 2, 5] rfl) hP hD hS
  have B174 : ∀ (H : Heap) (locs : List Loc) (ls : Array Slot) (x2 : Int32) (x3 : Int32) (x4 : Int32) (x6 : Int32) (x7 : Int32) (s0 : Int32) (s1 : Int32) (σ : St), v = f_Mo_meaning_174 x2 x3 x4 x6 x7 s0 s1 σ → k_Mo_meaning_174 x2 x3 x4 x6 x7 s0 s1 σ → lv_has ls 8 [(0, .ref (h 0)), (2, .int x2), (3, .int x3), (4, .int x4), (6, .int x6), (7, .int x7)] → va_P D classes (Wm ty h σ px) H → va_D A (Wm ty h σ px) → va_S A s.heap H locs → W p l e (headSpec w_Mo_meaning rm_Mo_meaning).room s m args below meth c H locs 0 0 (MQ below (va_Qi (fun r (u : St) => (r, u) = v) (fun u t => va_P D classes (Wm ty h u px) t.heap) A) args s 0 0 A) (F0 m 174 ls [.int s0, .int s1, .ref (h 0)]) := by
    intro H locs ls x2 x3 x4 x6 x7 s0 s1 σ hv hk hl hP hD hS
    unfold f_Mo_meaning_174 at hv
    unfold k_Mo_meaning_174 at hk
    obtain ⟨hk0, hk⟩ := hk
    refine va_callv (va_runV (As := [.int s1, .int s0]) (rest := []) ⟨hx, hb, hml, hown, hg⟩ (c_Mo_joinAs l D ty h px sa σ H.size s1 s0 hk0) ⟨callB_of 2 hg (gw_C m_1559) rfl rfl rfl (hg _ m_13) (hg _ m_1556) hd_Mo_joinAs ⟨Nat.le_of_ble_eq_true rfl, Nat.le_of_ble_eq_true rfl⟩, hg _ m_1558, hg _ ms_71⟩ (zz_preVW hM hS hA hN hK hP hD 0 rfl rfl) rfl rfl hl.1 rfl (lv_room (Nat.le_of_ble_eq_true rfl)) d_Mo_meaning_174 ⟨Nat.le_of_ble_eq_true rfl, Nat.le_of_ble_eq_true rfl⟩) hS (fun q _ h => zz_free hD hS hA q h) (zz_free hD hS hA) (fun u174 t H locs ht hvm hp hP1 hz hk1 hS => ?_)
    rw [ht] at hP1
    rw [← hp] at hv hk
    have hD : va_D A (Wm ty h u174 px) := zz_D hD rfl
    have hP := hP1
    exact B177 _ _ _ x2 x3 x4 x6 x7 u174 hv hk (lv_sub hl [0, 1, 2, 3, 4, 5] rfl) hP hD hS
  have B123 : ∀ (H : Heap) (locs : List Loc) (ls : Array Slot) (x1 : Int32) (x2 : Int32) (x3 : Int32) (x4 : Int32) (x6 : Int32) (x7 : Int32) (σ : St), v = f_Mo_meaning_123 x1 x2 x3 x4 x6 x7 σ → k_Mo_meaning_123 x1 x2 x3 x4 x6 x7 σ → lv_has ls 8 [(0, .ref (h 0)), (1, .int x1), (2, .int x2), (3, .int x3), (4, .int x4), (6, .int x6), (7, .int x7)] → va_P D classes (Wm ty h σ px) H → va_D A (Wm ty h σ px) → va_S A s.heap H locs → W p l e (headSpec w_Mo_meaning rm_Mo_meaning).room s m args below meth c H locs 0 0 (MQ below (va_Qi (fun r (u : St) => (r, u) = v) (fun u t => va_P D classes (Wm ty h u px) t.heap) A) args s 0 0 A) (F0 m 123 ls []) := by
    intro H locs ls x1 x2 x3 x4 x6 x7 σ hv hk hl hP hD hS
    unfold f_Mo_meaning_123 at hv
    unfold k_Mo_meaning_123 at hk
    refine lv_aload_n hx hb d_Mo_meaning_123 rfl (lv_at hl 0 rfl) ?_
    refine lv_iload_n hx hb d_Mo_meaning_124 rfl (lv_at hl 1 rfl) ?_
    refine lv_iload hx hb d_Mo_meaning_125 (lv_at hl 4 rfl) ?_
    refine lv_bipush (v := 8) hx hb d_Mo_meaning_127 (by decide) ?_
    refine lv_icmp_ne (tgt := 145) hx hb d_Mo_meaning_129 (by decide) (fun hc => ?_) (fun hc => ?_)
    · have hv := hv.trans (if_neg hc)
      have hk := hk.2 hc
      refine lv_iload hx hb d_Mo_meaning_145 (lv_at hl 4 rfl) ?_
      refine lv_bipush (v := 9) hx hb d_Mo_meaning_147 (by decide) ?_
      refine lv_icmp_ne (tgt := 164) hx hb d_Mo_meaning_149 (by decide) (fun hc => ?_) (fun hc => ?_)
      · have hv := hv.trans (if_neg hc)
        have hk := hk.2 hc
        refine lv_iload_n hx hb d_Mo_meaning_164 rfl (lv_at hl 2 rfl) ?_
        refine lv_iconst (v := 1) hx hb d_Mo_meaning_165 (by decide) ?_
        refine lv_icmp_le (tgt := 173) hx hb d_Mo_meaning_166 (by decide) (fun hc => ?_) (fun hc => ?_)
        · have hv := hv.trans (if_pos hc)
          have hk := hk.1 hc
          refine lv_iconst (v := 0) hx hb d_Mo_meaning_173 (by decide) ?_
          exact B174 _ _ _ x2 x3 x4 x6 x7 0 x1 σ hv hk (lv_sub hl [0, 2, 3, 4, 5, 6] rfl) hP hD hS
        · have hv := hv.trans (if_neg hc)
          have hk := hk.2 hc
          refine lv_iconst (v := 1) hx hb d_Mo_meaning_169 (by decide) ?_
          refine lv_goto (tgt := 174) hx hb d_Mo_meaning_170 (by decide) ?_
          exact B174 _ _ _ x2 x3 x4 x6 x7 1 x1 σ hv hk (lv_sub hl [0, 2, 3, 4, 5, 6] rfl) hP hD hS
      · have hv := hv.trans (if_pos hc)
        have hk := hk.1 hc
        refine lv_iload_n hx hb d_Mo_meaning_152 rfl (lv_at hl 2 rfl) ?_
        refine lv_if_le (tgt := 160) hx hb d_Mo_meaning_153 (by decide) (fun hc => ?_) (fun hc => ?_)
        · have hv := hv.trans (if_pos hc)
          have hk := hk.1 hc
          refine lv_iconst (v := 0) hx hb d_Mo_meaning_160 (by decide) ?_
          refine lv_goto (tgt := 174) hx hb d_Mo_meaning_161 (by decide) ?_
          exact B174 _ _ _ x2 x3 x4 x6 x7 0 x1 σ hv hk (lv_sub hl [0, 2, 3, 4, 5, 6] rfl) hP hD hS
        · have hv := hv.trans (if_neg hc)
          have hk := hk.2 hc
          refine lv_iconst (v := 1) hx hb d_Mo_meaning_156 (by decide) ?_
          refine lv_goto (tgt := 174) hx hb d_Mo_meaning_157 (by decide) ?_
          exact B174 _ _ _ x2 x3 x4 x6 x7 1 x1 σ hv hk (lv_sub hl [0, 2, 3, 4, 5, 6] rfl) hP hD hS
    · have hv := hv.trans (if_pos hc)
      have hk := hk.1 hc
      refine lv_iload_n hx hb d_Mo_meaning_132 rfl (lv_at hl 2 rfl) ?_
      refine lv_iconst (v := 2) hx hb d_Mo_meaning_133 (by decide) ?_
      refine lv_icmp_ne (tgt := 141) hx hb d_Mo_meaning_134 (by decide) (fun hc => ?_) (fun hc => ?_)
      · have hv := hv.trans (if_neg hc)
        have hk := hk.2 hc
        refine lv_iconst (v := 0) hx hb d_Mo_meaning_141 (by decide) ?_
        refine lv_goto (tgt := 174) hx hb d_Mo_meaning_142 (by decide) ?_
        exact B174 _ _ _ x2 x3 x4 x6 x7 0 x1 σ hv hk (lv_sub hl [0, 2, 3, 4, 5, 6] rfl) hP hD hS
      · have hv := hv.trans (if_pos hc)
        have hk := hk.1 hc
        refine lv_iconst (v := 1) hx hb d_Mo_meaning_137 (by decide) ?_
        refine lv_goto (tgt := 174) hx hb d_Mo_meaning_138 (by decide) ?_
        exact B174 _ _ _ x2 x3 x4 x6 x7 1 x1 σ hv hk (lv_sub hl [0, 2, 3, 4, 5, 6] rfl) hP hD hS
  have B115 : ∀ (H : Heap) (locs : List Loc) (ls : Array Slot) (x1 : Int32) (x2 : Int32) (x3 : Int32) (x4 : Int32) (x6 : Int32) (σ : St), v = f_Mo_meaning_115 x1 x2 x3 x4 x6 σ → k_Mo_meaning_115 x1 x2 x3 x4 x6 σ → lv_has ls 8 [(0, .ref (h 0)), (1, .int x1), (2, .int x2), (3, .int x3), (4, .int x4), (6, .int x6)] → va_P D classes (Wm ty h σ px) H → va_D A (Wm ty h σ px) → va_S A s.heap H locs → W p l e (headSpec w_Mo_meaning rm_Mo_meaning).room s m args below meth c H locs 0 0 (MQ below (va_Qi (fun r (u : St) => (r, u) = v) (fun u t => va_P D classes (Wm ty h u px) t.heap) A) args s 0 0 A) (F0 m 115 ls []) := by
    intro H locs ls x1 x2 x3 x4 x6 σ hv hk hl hP hD hS
    unfold f_Mo_meaning_115 at hv
    unfold k_Mo_meaning_115 at hk
    refine lv_aload_n hx hb d_Mo_meaning_115 rfl (lv_at hl 0 rfl) ?_
    refine va_get (v := .ref (h 9)) (C := R_Mo) (T := T_Mo) (N := 51) hx hb hg in_Mo hown hK hP 0 rfl rfl 14 (by decide) (hg _ m_1273) (fun _ h9 => h9) rfl d_Mo_meaning_116 ?_
    refine lv_iload_n hx hb d_Mo_meaning_119 rfl (lv_at hl 1 rfl) ?_
    obtain ⟨hk0, hk⟩ := hk
    refine va_iald hx hb hK hP 9 0 rfl rfl hk0 d_Mo_meaning_120 ?_
    refine lv_istore (lv' := [(7, .int (σ.1 9 x1.toNatClampNeg)), (0, .ref (h 0)), (1, .int x1), (2, .int x2), (3, .int x3), (4, .int x4), (6, .int x6)]) hx hb d_Mo_meaning_121 hl (by decide) rfl (fun ls hl => ?_)
    exact B123 _ _ _ x1 x2 x3 x4 x6 (σ.1 9 x1.toNatClampNeg) σ hv hk (lv_sub hl [1, 2, 3, 4, 5, 6, 0] rfl) hP hD hS
  have B97 : ∀ (H : Heap) (locs : List Loc) (ls : Array Slot) (x1 : Int32) (x2 : Int32) (x3 : Int32) (x4 : Int32) (s0 : Int32) (s1 : Int32) (σ : St), v = f_Mo_meaning_97 x1 x2 x3 x4 s0 s1 σ → k_Mo_meaning_97 x1 x2 x3 x4 s0 s1 σ → lv_has ls 8 [(0, .ref (h 0)), (1, .int x1), (2, .int x2), (3, .int x3), (4, .int x4)] → va_P D classes (Wm ty h σ px) H → va_D A (Wm ty h σ px) → va_S A s.heap H locs → W p l e (headSpec w_Mo_meaning rm_Mo_meaning).room s m args below meth c H locs 0 0 (MQ below (va_Qi (fun r (u : St) => (r, u) = v) (fun u t => va_P D classes (Wm ty h u px) t.heap) A) args s 0 0 A) (F0 m 97 ls [.int s0, .int s1]) := by
    intro H locs ls x1 x2 x3 x4 s0 s1 σ hv hk hl hP hD hS
    unfold f_Mo_meaning_97 at hv
    unfold k_Mo_meaning_97 at hk
    refine lv_icmp_le (tgt := 107) hx hb d_Mo_meaning_97 (by decide) (fun hc => ?_) (fun hc => ?_)
    · have hv := hv.trans (if_pos hc)
      have hk := hk.1 hc
      refine lv_aload_n hx hb d_Mo_meaning_107 rfl (lv_at hl 0 rfl) ?_
      refine va_get (v := .ref (h 8)) (C := R_Mo) (T := T_Mo) (N := 51) hx hb hg in_Mo hown hK hP 0 rfl rfl 13 (by decide) (hg _ m_1272) (fun _ h9 => h9) rfl d_Mo_meaning_108 ?_
      refine lv_iload_n hx hb d_Mo_meaning_111 rfl (lv_at hl 1 rfl) ?_
      obtain ⟨hk0, hk⟩ := hk
      refine va_iald hx hb hK hP 8 0 rfl rfl hk0 d_Mo_meaning_112 ?_
      refine lv_istore (lv' := [(6, .int (σ.1 8 x1.toNatClampNeg)), (0, .ref (h 0)), (1, .int x1), (2, .int x2), (3, .int x3), (4, .int x4)]) hx hb d_Mo_meaning_113 hl (by decide) rfl (fun ls hl => ?_)
      exact B115 _ _ _ x1 x2 x3 x4 (σ.1 8 x1.toNatClampNeg) σ hv hk (lv_sub hl [1, 2, 3, 4, 5, 0] rfl) hP hD hS
    · have hv := hv.trans (if_neg hc)
      have hk := hk.2 hc
      exact B100 _ _ _ x3 σ hv hk (lv_sub hl [0, 3] rfl) hP hD hS
  have B74 : ∀ (H : Heap) (locs : List Loc) (ls : Array Slot) (x1 : Int32) (x2 : Int32) (x3 : Int32) (x4 : Int32) (s0 : Int32) (σ : St), v = f_Mo_meaning_74 x1 x2 x3 x4 s0 σ → k_Mo_meaning_74 x1 x2 x3 x4 s0 σ → lv_has ls 8 [(0, .ref (h 0)), (1, .int x1), (2, .int x2), (3, .int x3), (4, .int x4)] → va_P D classes (Wm ty h σ px) H → va_D A (Wm ty h σ px) → va_S A s.heap H locs → W p l e (headSpec w_Mo_meaning rm_Mo_meaning).room s m args below meth c H locs 0 0 (MQ below (va_Qi (fun r (u : St) => (r, u) = v) (fun u t => va_P D classes (Wm ty h u px) t.heap) A) args s 0 0 A) (F0 m 74 ls [.int s0]) := by
    intro H locs ls x1 x2 x3 x4 s0 σ hv hk hl hP hD hS
    unfold f_Mo_meaning_74 at hv
    unfold k_Mo_meaning_74 at hk
    refine lv_istore (lv' := [(5, .int s0), (0, .ref (h 0)), (1, .int x1), (2, .int x2), (3, .int x3), (4, .int x4)]) hx hb d_Mo_meaning_74 hl (by decide) rfl (fun ls hl => ?_)
    refine lv_iload hx hb d_Mo_meaning_76 (lv_at hl 0 rfl) ?_
    refine lv_if_eq (tgt := 100) hx hb d_Mo_meaning_78 (by decide) (fun hc => ?_) (fun hc => ?_)
    · have hv := hv.trans (if_pos hc)
      have hk := hk.1 hc
      exact B100 _ _ _ x3 σ hv hk (lv_sub hl [1, 4] rfl) hP hD hS
    · have hv := hv.trans (if_neg hc)
      have hk := hk.2 hc
      refine lv_iload_n hx hb d_Mo_meaning_81 rfl (lv_at hl 3 rfl) ?_
      refine lv_if_lt (tgt := 100) hx hb d_Mo_meaning_82 (by decide) (fun hc => ?_) (fun hc => ?_)
      · have hv := hv.trans (if_pos hc)
        have hk := hk.1 hc
        exact B100 _ _ _ x3 σ hv hk (lv_sub hl [1, 4] rfl) hP hD hS
      · have hv := hv.trans (if_neg hc)
        have hk := hk.2 hc
        refine lv_iload_n hx hb d_Mo_meaning_85 rfl (lv_at hl 3 rfl) ?_
        refine lv_iload hx hb d_Mo_meaning_86 (lv_at hl 5 rfl) ?_
        refine lv_iconst (v := 5) hx hb d_Mo_meaning_88 (by decide) ?_
        refine lv_icmp_ne (tgt := 96) hx hb d_Mo_meaning_89 (by decide) (fun hc => ?_) (fun hc => ?_)
        · have hv := hv.trans (if_neg hc)
          have hk := hk.2 hc
          refine lv_iconst (v := 2) hx hb d_Mo_meaning_96 (by decide) ?_
          exact B97 _ _ _ x1 x2 x3 x4 2 x2 σ hv hk (lv_sub hl [1, 2, 3, 4, 5] rfl) hP hD hS
        · have hv := hv.trans (if_pos hc)
          have hk := hk.1 hc
          refine lv_iconst (v := 3) hx hb d_Mo_meaning_92 (by decide) ?_
          refine lv_goto (tgt := 97) hx hb d_Mo_meaning_93 (by decide) ?_
          exact B97 _ _ _ x1 x2 x3 x4 3 x2 σ hv hk (lv_sub hl [1, 2, 3, 4, 5] rfl) hP hD hS
  have B69 : ∀ (H : Heap) (locs : List Loc) (ls : Array Slot) (x1 : Int32) (x2 : Int32) (x3 : Int32) (x4 : Int32) (σ : St), v = f_Mo_meaning_69 x1 x2 x3 x4 σ → k_Mo_meaning_69 x1 x2 x3 x4 σ → lv_has ls 8 [(0, .ref (h 0)), (1, .int x1), (2, .int x2), (3, .int x3), (4, .int x4)] → va_P D classes (Wm ty h σ px) H → va_D A (Wm ty h σ px) → va_S A s.heap H locs → W p l e (headSpec w_Mo_meaning rm_Mo_meaning).room s m args below meth c H locs 0 0 (MQ below (va_Qi (fun r (u : St) => (r, u) = v) (fun u t => va_P D classes (Wm ty h u px) t.heap) A) args s 0 0 A) (F0 m 69 ls []) := by
    intro H locs ls x1 x2 x3 x4 σ hv hk hl hP hD hS
    unfold f_Mo_meaning_69 at hv
    unfold k_Mo_meaning_69 at hk
    refine lv_iconst (v := 1) hx hb d_Mo_meaning_69 (by decide) ?_
    refine lv_goto (tgt := 74) hx hb d_Mo_meaning_70 (by decide) ?_
    exact B74 _ _ _ x1 x2 x3 x4 1 σ hv hk (lv_sub hl [0, 1, 2, 3, 4] rfl) hP hD hS
  have B73 : ∀ (H : Heap) (locs : List Loc) (ls : Array Slot) (x1 : Int32) (x2 : Int32) (x3 : Int32) (x4 : Int32) (σ : St), v = f_Mo_meaning_73 x1 x2 x3 x4 σ → k_Mo_meaning_73 x1 x2 x3 x4 σ → lv_has ls 8 [(0, .ref (h 0)), (1, .int x1), (2, .int x2), (3, .int x3), (4, .int x4)] → va_P D classes (Wm ty h σ px) H → va_D A (Wm ty h σ px) → va_S A s.heap H locs → W p l e (headSpec w_Mo_meaning rm_Mo_meaning).room s m args below meth c H locs 0 0 (MQ below (va_Qi (fun r (u : St) => (r, u) = v) (fun u t => va_P D classes (Wm ty h u px) t.heap) A) args s 0 0 A) (F0 m 73 ls []) := by
    intro H locs ls x1 x2 x3 x4 σ hv hk hl hP hD hS
    unfold f_Mo_meaning_73 at hv
    unfold k_Mo_meaning_73 at hk
    refine lv_iconst (v := 0) hx hb d_Mo_meaning_73 (by decide) ?_
    exact B74 _ _ _ x1 x2 x3 x4 0 σ hv hk (lv_sub hl [0, 1, 2, 3, 4] rfl) hP hD hS
  have B36 : ∀ (H : Heap) (locs : List Loc) (ls : Array Slot) (x1 : Int32) (x2 : Int32) (x3 : Int32) (x4 : Int32) (σ : St), v = f_Mo_meaning_36 x1 x2 x3 x4 σ → k_Mo_meaning_36 x1 x2 x3 x4 σ → lv_has ls 8 [(0, .ref (h 0)), (1, .int x1), (2, .int x2), (3, .int x3), (4, .int x4)] → va_P D classes (Wm ty h σ px) H → va_D A (Wm ty h σ px) → va_S A s.heap H locs → W p l e (headSpec w_Mo_meaning rm_Mo_meaning).room s m args below meth c H locs 0 0 (MQ below (va_Qi (fun r (u : St) => (r, u) = v) (fun u t => va_P D classes (Wm ty h u px) t.heap) A) args s 0 0 A) (F0 m 36 ls []) := by
    intro H locs ls x1 x2 x3 x4 σ hv hk hl hP hD hS
    unfold f_Mo_meaning_36 at hv
    unfold k_Mo_meaning_36 at hk
    refine lv_iload hx hb d_Mo_meaning_36 (lv_at hl 4 rfl) ?_
    refine lv_bipush (v := 8) hx hb d_Mo_meaning_38 (by decide) ?_
    refine lv_icmp_eq (tgt := 69) hx hb d_Mo_meaning_40 (by decide) (fun hc => ?_) (fun hc => ?_)
    · have hv := hv.trans (if_pos hc)
      have hk := hk.1 hc
      exact B69 _ _ _ x1 x2 x3 x4 σ hv hk (lv_sub hl [0, 1, 2, 3, 4] rfl) hP hD hS
    · have hv := hv.trans (if_neg hc)
      have hk := hk.2 hc
      refine lv_iload hx hb d_Mo_meaning_43 (lv_at hl 4 rfl) ?_
      refine lv_bipush (v := 9) hx hb d_Mo_meaning_45 (by decide) ?_
      refine lv_icmp_eq (tgt := 69) hx hb d_Mo_meaning_47 (by decide) (fun hc => ?_) (fun hc => ?_)
      · have hv := hv.trans (if_pos hc)
        have hk := hk.1 hc
        exact B69 _ _ _ x1 x2 x3 x4 σ hv hk (lv_sub hl [0, 1, 2, 3, 4] rfl) hP hD hS
      · have hv := hv.trans (if_neg hc)
        have hk := hk.2 hc
        refine lv_iload hx hb d_Mo_meaning_50 (lv_at hl 4 rfl) ?_
        refine lv_iconst (v := 5) hx hb d_Mo_meaning_52 (by decide) ?_
        refine lv_icmp_ne (tgt := 73) hx hb d_Mo_meaning_53 (by decide) (fun hc => ?_) (fun hc => ?_)
        · have hv := hv.trans (if_neg hc)
          have hk := hk.2 hc
          exact B73 _ _ _ x1 x2 x3 x4 σ hv hk (lv_sub hl [0, 1, 2, 3, 4] rfl) hP hD hS
        · have hv := hv.trans (if_pos hc)
          have hk := hk.1 hc
          refine lv_aload_n hx hb d_Mo_meaning_56 rfl (lv_at hl 0 rfl) ?_
          refine lv_aload_n hx hb d_Mo_meaning_57 rfl (lv_at hl 0 rfl) ?_
          refine va_get (v := .ref (h 8)) (C := R_Mo) (T := T_Mo) (N := 51) hx hb hg in_Mo hown hK hP 0 rfl rfl 13 (by decide) (hg _ m_1272) (fun _ h9 => h9) rfl d_Mo_meaning_58 ?_
          refine lv_iload_n hx hb d_Mo_meaning_61 rfl (lv_at hl 1 rfl) ?_
          obtain ⟨hk0, hk⟩ := hk
          refine va_iald hx hb hK hP 8 0 rfl rfl hk0 d_Mo_meaning_62 ?_
          obtain ⟨hk0, hk⟩ := hk
          refine zz_callV (va_runV (As := [.int (σ.1 8 x1.toNatClampNeg)]) (rest := []) ⟨hx, hb, hml, hown, hg⟩ (c_Mo_isTruth l D ty h px sa σ (σ.1 8 x1.toNatClampNeg) hk0) ⟨callB_of 1 hg (gw_C m_1499) rfl rfl rfl (hg _ m_13) (hg _ m_1496) hd_Mo_isTruth ⟨Nat.le_of_ble_eq_true rfl, Nat.le_of_ble_eq_true rfl⟩, hg _ m_1498, hg _ ms_60⟩ (zz_preV (hM.at hS) hN hK hP 0 rfl rfl) rfl rfl hl.1 rfl (lv_room (Nat.le_of_ble_eq_true rfl)) d_Mo_meaning_63 ⟨Nat.le_of_ble_eq_true rfl, Nat.le_of_ble_eq_true rfl⟩) ?_
          refine lv_if_eq (tgt := 73) hx hb d_Mo_meaning_66 (by decide) (fun hc => ?_) (fun hc => ?_)
          · have hv := hv.trans (if_pos hc)
            have hk := hk.1 hc
            exact B73 _ _ _ x1 x2 x3 x4 σ hv hk (lv_sub hl [0, 1, 2, 3, 4] rfl) hP hD hS
          · have hv := hv.trans (if_neg hc)
            have hk := hk.2 hc
            exact B69 _ _ _ x1 x2 x3 x4 σ hv hk (lv_sub hl [0, 1, 2, 3, 4] rfl) hP hD hS
  have B4 : ∀ (H : Heap) (locs : List Loc) (ls : Array Slot) (x1 : Int32) (x2 : Int32) (s0 : Int32) (σ : St), v = f_Mo_meaning_4 x1 x2 s0 σ → k_Mo_meaning_4 x1 x2 s0 σ → lv_has ls 8 [(0, .ref (h 0)), (1, .int x1), (2, .int x2)] → va_P D classes (Wm ty h σ px) H → va_D A (Wm ty h σ px) → va_S A s.heap H locs → W p l e (headSpec w_Mo_meaning rm_Mo_meaning).room s m args below meth c H locs 0 0 (MQ below (va_Qi (fun r (u : St) => (r, u) = v) (fun u t => va_P D classes (Wm ty h u px) t.heap) A) args s 0 0 A) (F0 m 4 ls [.int s0]) := by
    intro H locs ls x1 x2 s0 σ hv hk hl hP hD hS
    unfold f_Mo_meaning_4 at hv
    unfold k_Mo_meaning_4 at hk
    refine lv_if_eq (tgt := 9) hx hb d_Mo_meaning_4 (by decide) (fun hc => ?_) (fun hc => ?_)
    · have hv := hv.trans (if_pos hc)
      have hk := hk.1 hc
      refine lv_sipush (v := 17185) hx hb d_Mo_meaning_9 (by decide) ?_
      refine lv_istore_n (lv' := [(3, .int 17185), (0, .ref (h 0)), (1, .int x1), (2, .int x2)]) hx hb d_Mo_meaning_12 rfl hl (by decide) rfl (fun ls hl => ?_)
      refine lv_aload_n hx hb d_Mo_meaning_13 rfl (lv_at hl 1 rfl) ?_
      refine lv_iload_n hx hb d_Mo_meaning_14 rfl (lv_at hl 2 rfl) ?_
      obtain ⟨hk0, hk⟩ := hk
      refine zz_callV (va_runV (As := [.int x1]) (rest := []) ⟨hx, hb, hml, hown, hg⟩ (c_Mo_isTerm l D ty h px sa σ x1 hk0) ⟨callB_of 1 hg (gw_C m_1519) rfl rfl rfl (hg _ m_13) (hg _ m_1516) hd_Mo_isTerm ⟨Nat.le_of_ble_eq_true rfl, Nat.le_of_ble_eq_true rfl⟩, hg _ m_1518, hg _ ms_64⟩ (zz_preV (hM.at hS) hN hK hP 0 rfl rfl) rfl rfl hl.1 rfl (lv_room (Nat.le_of_ble_eq_true rfl)) d_Mo_meaning_15 ⟨Nat.le_of_ble_eq_true rfl, Nat.le_of_ble_eq_true rfl⟩) ?_
      refine lv_if_ne (tgt := 28) hx hb d_Mo_meaning_18 (by decide) (fun hc => ?_) (fun hc => ?_)
      · have hv := hv.trans (if_neg hc)
        have hk := hk.2 hc
        refine lv_aload_n hx hb d_Mo_meaning_28 rfl (lv_at hl 1 rfl) ?_
        refine va_get (v := .ref (h 5)) (C := R_Mo) (T := T_Mo) (N := 51) hx hb hg in_Mo hown hK hP 0 rfl rfl 10 (by decide) (hg _ m_1269) (fun _ h9 => h9) rfl d_Mo_meaning_29 ?_
        refine lv_iload_n hx hb d_Mo_meaning_32 rfl (lv_at hl 2 rfl) ?_
        obtain ⟨hk0, hk⟩ := hk
        refine va_iald hx hb hK hP 5 0 rfl rfl hk0 d_Mo_meaning_33 ?_
        refine lv_istore (lv' := [(4, .int (σ.1 5 x1.toNatClampNeg)), (3, .int 17185), (0, .ref (h 0)), (1, .int x1), (2, .int x2)]) hx hb d_Mo_meaning_34 hl (by decide) rfl (fun ls hl => ?_)
        exact B36 _ _ _ x1 x2 17185 (σ.1 5 x1.toNatClampNeg) σ hv hk (lv_sub hl [2, 3, 4, 1, 0] rfl) hP hD hS
      · have hv := hv.trans (if_pos hc)
        have hk := hk.1 hc
        refine lv_aload_n hx hb d_Mo_meaning_21 rfl (lv_at hl 1 rfl) ?_
        refine lv_iconst (v := 1) hx hb d_Mo_meaning_22 (by decide) ?_
        refine lv_iload_n hx hb d_Mo_meaning_23 rfl (lv_at hl 0 rfl) ?_
        obtain ⟨hk0, hk⟩ := hk
        refine va_calli (va_runV (As := [.int 1, .int 17185]) (rest := []) ⟨hx, hb, hml, hown, hg⟩ (c_Mo_fails l D ty h px sa σ H.size 1 17185 hk0) ⟨callB_of 2 hg (gw_C m_1507) rfl rfl rfl (hg _ m_13) (hg _ m_1504) hd_Mo_fails ⟨Nat.le_of_ble_eq_true rfl, Nat.le_of_ble_eq_true rfl⟩, hg _ m_1506, hg _ ms_62⟩ (zz_preVW hM hS hA hN hK hP hD 0 rfl rfl) rfl rfl hl.1 rfl (lv_room (Nat.le_of_ble_eq_true rfl)) d_Mo_meaning_24 ⟨Nat.le_of_ble_eq_true rfl, Nat.le_of_ble_eq_true rfl⟩) hS (fun q _ h => zz_free hD hS hA q h) (zz_free hD hS hA) (fun r24 u24 t H locs ht hvm hp hP1 hz hk1 hS => ?_)
        rw [ht] at hP1
        rw [← hp] at hv hk
        have hD : va_D A (Wm ty h u24 px) := zz_D hD rfl
        have hP := hP1
        exact B27 _ _ _ r24 u24 hv hk (lv_sub hl [] rfl) hP hD hS
    · have hv := hv.trans (if_neg hc)
      have hk := hk.2 hc
      refine lv_iconst (v := -1) hx hb d_Mo_meaning_7 (by decide) ?_
      exact W.iret hx hb hr (fun t ht hW => ⟨⟨_, _, rfl, hv.symm, by dsimp only; rw [ht]; exact hP⟩, hS.F ht⟩) hS.2.2 d_Mo_meaning_8
  unfold f_Mo_meaning at hv
  unfold k_Mo_meaning at hk
  refine lv_aload_n hx hb d_Mo_meaning_0 rfl (lv_at hl 0 rfl) ?_
  obtain ⟨hk0, hk⟩ := hk
  refine va_calli (va_runV (As := []) (rest := []) ⟨hx, hb, hml, hown, hg⟩ (c_Mo_begin l D ty h px sa σ s.heap.size  hk0) ⟨callB_of 0 hg (gw_C m_1443) rfl rfl rfl (hg _ m_13) (hg _ m_1440) hd_Mo_begin ⟨Nat.le_of_ble_eq_true rfl, Nat.le_of_ble_eq_true rfl⟩, hg _ m_1442, hg _ ms_49⟩ (zz_preVW hM hS hA hN hK hP hD 0 rfl rfl) rfl rfl hl.1 rfl (lv_room (Nat.le_of_ble_eq_true rfl)) d_Mo_meaning_1 ⟨Nat.le_of_ble_eq_true rfl, Nat.le_of_ble_eq_true rfl⟩) hS (fun q _ h => zz_free hD hS hA q h) (zz_free hD hS hA) (fun r1 u1 t H locs ht hvm hp hP1 hz hk1 hS => ?_)
  rw [ht] at hP1
  rw [← hp] at hv hk
  have hD : va_D A (Wm ty h u1 px) := zz_D hD rfl
  have hP := hP1
  exact B4 _ _ _ a1 a2 r1 u1 hv hk (lv_sub hl [0, 1, 2] rfl) hP hD hS

