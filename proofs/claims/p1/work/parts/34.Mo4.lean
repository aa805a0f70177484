-- ClauseLedgerModel.same(I)I
abbrev b_Mo_same : ByteArray := prog_14_method_39_code
def y_Mo_same : MethodName := ⟨"ClauseLedgerModel", "same", "(I)I"⟩
theorem hd_Mo_same : y_Mo_same.cls ≠ "java/lang/invoke/MethodHandle" ∧ y_Mo_same.cls ≠ "java/lang/invoke/VarHandle" ∧ (parseMethodDescriptor y_Mo_same.desc).map (fun d => d.parameters.length) = some 1 := by decide +kernel
theorem d_Mo_same_0 : decode b_Mo_same 0 = .ok (.aload_n 0, 1) := by decide +kernel
theorem d_Mo_same_1 : decode b_Mo_same 1 = .ok (.invokevirtual 201, 3) := by decide +kernel
theorem d_Mo_same_4 : decode b_Mo_same 4 = .ok (.ifCond .eq 5, 3) := by decide +kernel
theorem d_Mo_same_7 : decode b_Mo_same 7 = .ok (.iconst (-1), 1) := by decide +kernel
theorem d_Mo_same_8 : decode b_Mo_same 8 = .ok (.ireturn, 1) := by decide +kernel
theorem d_Mo_same_9 : decode b_Mo_same 9 = .ok (.sipush 1073, 3) := by decide +kernel
theorem d_Mo_same_12 : decode b_Mo_same 12 = .ok (.istore_n 2, 1) := by decide +kernel
theorem d_Mo_same_13 : decode b_Mo_same 13 = .ok (.aload_n 0, 1) := by decide +kernel
theorem d_Mo_same_14 : decode b_Mo_same 14 = .ok (.iload_n 1, 1) := by decide +kernel
theorem d_Mo_same_15 : decode b_Mo_same 15 = .ok (.invokevirtual 207, 3) := by decide +kernel
theorem d_Mo_same_18 : decode b_Mo_same 18 = .ok (.ifCond .ne 10, 3) := by decide +kernel
theorem d_Mo_same_21 : decode b_Mo_same 21 = .ok (.aload_n 0, 1) := by decide +kernel
theorem d_Mo_same_22 : decode b_Mo_same 22 = .ok (.iconst 1, 1) := by decide +kernel
theorem d_Mo_same_23 : decode b_Mo_same 23 = .ok (.iload_n 2, 1) := by decide +kernel
theorem d_Mo_same_24 : decode b_Mo_same 24 = .ok (.invokevirtual 133, 3) := by decide +kernel
theorem d_Mo_same_27 : decode b_Mo_same 27 = .ok (.ireturn, 1) := by decide +kernel
theorem d_Mo_same_28 : decode b_Mo_same 28 = .ok (.aload_n 0, 1) := by decide +kernel
theorem d_Mo_same_29 : decode b_Mo_same 29 = .ok (.aload_n 0, 1) := by decide +kernel
theorem d_Mo_same_30 : decode b_Mo_same 30 = .ok (.iconst 5, 1) := by decide +kernel
theorem d_Mo_same_31 : decode b_Mo_same 31 = .ok (.iload_n 1, 1) := by decide +kernel
theorem d_Mo_same_32 : decode b_Mo_same 32 = .ok (.iload_n 1, 1) := by decide +kernel
theorem d_Mo_same_33 : decode b_Mo_same 33 = .ok (.invokevirtual 116, 3) := by decide +kernel
theorem d_Mo_same_36 : decode b_Mo_same 36 = .ok (.invokevirtual 210, 3) := by decide +kernel
theorem d_Mo_same_39 : decode b_Mo_same 39 = .ok (.aload_n 0, 1) := by decide +kernel
theorem d_Mo_same_40 : decode b_Mo_same 40 = .ok (.aload_n 0, 1) := by decide +kernel
theorem d_Mo_same_41 : decode b_Mo_same 41 = .ok (.getfield 214, 3) := by decide +kernel
theorem d_Mo_same_44 : decode b_Mo_same 44 = .ok (.iload_n 2, 1) := by decide +kernel
theorem d_Mo_same_45 : decode b_Mo_same 45 = .ok (.invokevirtual 217, 3) := by decide +kernel
theorem d_Mo_same_48 : decode b_Mo_same 48 = .ok (.ireturn, 1) := by decide +kernel
def f_Mo_same_27 (s0 : Int32) (σ : St) : Int32 × St := (s0, σ)
def k_Mo_same_27 (s0 : Int32) (σ : St) : Prop := True
def f_Mo_same_48 (s0 : Int32) (σ : St) : Int32 × St := (s0, σ)
def k_Mo_same_48 (s0 : Int32) (σ : St) : Prop := True
def f_Mo_same_39 (x2 : Int32) (σ : St) : Int32 × St := f_Mo_same_48 ((f_Mo_enter (σ.1 0 25) x2 σ).1) ((f_Mo_enter (σ.1 0 25) x2 σ).2)
def k_Mo_same_39 (x2 : Int32) (σ : St) : Prop := (k_Mo_enter (σ.1 0 25) x2 σ) ∧ (k_Mo_same_48 ((f_Mo_enter (σ.1 0 25) x2 σ).1) ((f_Mo_enter (σ.1 0 25) x2 σ).2))
def f_Mo_same_36 (x2 : Int32) (s0 : Int32) (σ : St) : Int32 × St := f_Mo_same_39 x2 (f_Mo_join s0 σ)
def k_Mo_same_36 (x2 : Int32) (s0 : Int32) (σ : St) : Prop := (k_Mo_join s0 σ) ∧ (k_Mo_same_39 x2 (f_Mo_join s0 σ))
def f_Mo_same_4 (x1 : Int32) (s0 : Int32) (σ : St) : Int32 × St := if s0 = 0 then (if (f_Mo_isTerm x1 σ) = 0 then (f_Mo_same_27 ((f_Mo_fails 1 1073 σ).1) ((f_Mo_fails 1 1073 σ).2)) else (f_Mo_same_36 1073 ((f_Mo_made 5 x1 x1 σ).1) ((f_Mo_made 5 x1 x1 σ).2))) else ((-1), σ)
def k_Mo_same_4 (x1 : Int32) (s0 : Int32) (σ : St) : Prop := (s0 = 0 → ((k_Mo_isTerm x1 σ) ∧ (((f_Mo_isTerm x1 σ) = 0 → ((k_Mo_fails 1 1073 σ) ∧ (k_Mo_same_27 ((f_Mo_fails 1 1073 σ).1) ((f_Mo_fails 1 1073 σ).2)))) ∧ (¬ (f_Mo_isTerm x1 σ) = 0 → ((k_Mo_made 5 x1 x1 σ) ∧ (k_Mo_same_36 1073 ((f_Mo_made 5 x1 x1 σ).1) ((f_Mo_made 5 x1 x1 σ).2))))))) ∧ (¬ s0 = 0 → True)
def f_Mo_same (a1 : Int32) (σ : St) : Int32 × St := f_Mo_same_4 a1 ((f_Mo_begin σ).1) ((f_Mo_begin σ).2)
def k_Mo_same (a1 : Int32) (σ : St) : Prop := (k_Mo_begin σ) ∧ (k_Mo_same_4 a1 ((f_Mo_begin σ).1) ((f_Mo_begin σ).2))
abbrev w_Mo_same : List Cond := Cond.code y_Mo_same b_Mo_same 3 (some .int) :: gw
abbrev rm_Mo_same : Room := { frames := 2, cells := 0, slots := 0, locals := 52 }
set_option maxHeartbeats 4000000 in
set_option maxRecDepth 100000 in
theorem c_Mo_same (l : Launch) (D : va_G) (ty : Nat → ClassId) (h : Nat → Nat) (px : va_W) (sa : Nat → Nat) (σ : St) (sz : Nat) (a1 : Int32) (hk : k_Mo_same a1 σ) : Met l y_Mo_same w_Mo_same rm_Mo_same (va_Pc [.ref (h 0), .int a1] (fun U => U.heap.size = sz ∧ va_P D classes (Wm ty h σ px) U.heap ∧ va_K D classes (Ta ty) U ∧ NW U ∧ MK sa (va_A (Wm ty h σ px) sz) U U.heap ∧ va_D (fun _ => True) (Wm ty h σ px))) (va_Qi (fun r (u : St) => (r, u) = f_Mo_same a1 σ) (fun u t => va_P D classes (Wm ty h u px) t.heap) (va_A (Wm ty h σ px) sz)) 0 0 (va_A (Wm ty h σ px) sz) := by
  refine Met.ofW (cc := b_Mo_same) (maxL := 3) (ret := (some .int)) (by decide) rfl ?_
  intro p e s m args below meth c s₁ B hml hv
  obtain ⟨ha, hsz, hP, hK, hN, hM, hD0⟩ := hv
  have hx := B.exec
  have hb := B.bytes
  have hr := B.returns
  have hg : ∀ w ∈ gw, w.before args s = true := fun w h9 => atoms_spec (ws := w_Mo_same) B.pre w (List.mem_cons_of_mem _ h9)
  have hown : s.vm.findClass "ClauseLedgerModel" = some m.cls := findClass_of_methodNamed B.named
  have hlocks := B.notSynchronized
  subst hsz
  have hD := hD0.self (sz := s.heap.size)
  generalize hAe : va_A (Wm ty h σ px) s.heap.size = A at hD hM ⊢
  have hA : ∀ q : Nat, s.heap.size ≤ q → A q := fun q h9 => by rw [← hAe]; exact Or.inr h9
  have hS : va_S A s.heap s.heap [] := va_S.rf
  have he : entryFrame m args 3 = entryFrame m ([.ref (h 0), .int a1] : List Value).toArray 3 := by rw [ha]
  rw [he, lg_entry_eq]
  have hl := lv_entry ([.ref (h 0), .int a1]) (n := 3) (Nat.le_of_ble_eq_true rfl)
  generalize (lg_sl ([.ref (h 0), .int a1]) ++ List.replicate (3 - (lg_sl ([.ref (h 0), .int a1])).length) Slot.unset).toArray = ls at hl ⊢
  have hl : lv_has ls 3 [(0, .ref (h 0)), (1, .int a1)] := hl
  generalize hv : f_Mo_same a1 σ = v
  replace hv := hv.symm
  have B27 : ∀ (H : Heap) (locs : List Loc) (ls : Array Slot) (s0 : Int32) (σ : St), v = f_Mo_same_27 s0 σ → k_Mo_same_27 s0 σ → lv_has ls 3 [] → va_P D classes (Wm ty h σ px) H → va_D A (Wm ty h σ px) → va_S A s.heap H locs → W p l e (headSpec w_Mo_same rm_Mo_same).room s m args below meth c H locs 0 0 (MQ below (va_Qi (fun r (u : St) => (r, u) = v) (fun u t => va_P D classes (Wm ty h u px) t.heap) A) args s 0 0 A) (F0 m 27 ls [.int s0]) := by
    intro H locs ls s0 σ hv hk hl hP hD hS
    unfold f_Mo_same_27 at hv
    unfold k_Mo_same_27 at hk
    exact W.iret hx hb hr (fun t ht hW => ⟨⟨_, _, rfl, hv.symm, by dsimp only; rw [ht]; exact hP⟩, hS.F ht⟩) hS.2.2 d_Mo_same_27
  have B48 : ∀ (H : Heap) (locs : List Loc) (ls : Array Slot) (s0 : Int32) (σ : St), v = f_Mo_same_48 s0 σ → k_Mo_same_48 s0 σ → lv_has ls 3 [] → va_P D classes (Wm ty h σ px) H → va_D A (Wm ty h σ px) → va_S A s.heap H locs → W p l e (headSpec w_Mo_same rm_Mo_same).room s m args below meth c H locs 0 0 (MQ below (va_Qi (fun r (u : St) => (r, u) = v) (fun u t => va_P D classes (Wm ty h u px) t.heap) A) args s 0 0 A) (F0 m 48 ls [.int s0]) := by
    intro H locs ls s0 σ hv hk hl hP hD hS
    unfold f_Mo_same_48 at hv
    unfold k_Mo_same_48 at hk
    exact W.iret hx hb hr (fun t ht hW => ⟨⟨_, _, rfl, hv.symm, by dsimp only; rw [ht]; exact hP⟩, hS.F ht⟩) hS.2.2 d_Mo_same_48
  have B39 : ∀ (H : Heap) (locs : List Loc) (ls : Array Slot) (x2 : Int32) (σ : St), v = f_Mo_same_39 x2 σ → k_Mo_same_39 x2 σ → lv_has ls 3 [(0, .ref (h 0)), (2, .int x2)] → va_P D classes (Wm ty h σ px) H → va_D A (Wm ty h σ px) → va_S A s.heap H locs → W p l e (headSpec w_Mo_same rm_Mo_same).room s m args below meth c H locs 0 0 (MQ below (va_Qi (fun r (u : St) => (r, u) = v) (fun u t => va_P D classes (Wm ty h u px) t.heap) A) args s 0 0 A) (F0 m 39 ls []) := by
    intro H locs ls x2 σ hv hk hl hP hD hS
    unfold f_Mo_same_39 at hv
    unfold k_Mo_same_39 at hk
    refine lv_aload_n hx hb d_Mo_same_39 rfl (lv_at hl 0 rfl) ?_
    refine lv_aload_n hx hb d_Mo_same_40 rfl (lv_at hl 0 rfl) ?_
    refine va_get (v := .int (σ.1 0 25)) (C := R_Mo) (T := T_Mo) (N := 51) hx hb hg in_Mo hown hK hP 0 rfl rfl 25 (by decide) (hg _ m_1284) (fun _ h9 => h9) rfl d_Mo_same_41 ?_
    refine lv_iload_n hx hb d_Mo_same_44 rfl (lv_at hl 1 rfl) ?_
    obtain ⟨hk0, hk⟩ := hk
    refine va_calli (va_runV (As := [.int (σ.1 0 25), .int x2]) (rest := []) ⟨hx, hb, hml, hown, hg⟩ (c_Mo_enter l D ty h px sa σ H.size (σ.1 0 25) x2 hk0) ⟨callB_of 2 hg (gw_C m_1527) rfl rfl rfl (hg _ m_13) (hg _ m_1524) hd_Mo_enter ⟨Nat.le_of_ble_eq_true rfl, Nat.le_of_ble_eq_true rfl⟩, hg _ m_1526, hg _ ms_66⟩ (zz_preVW hM hS hA hN hK hP hD 0 rfl rfl) rfl rfl hl.1 rfl (lv_room (Nat.le_of_ble_eq_true rfl)) d_Mo_same_45 ⟨Nat.le_of_ble_eq_true rfl, Nat.le_of_ble_eq_true rfl⟩) hS (fun q _ h => zz_free hD hS hA q h) (zz_free hD hS hA) (fun r45 u45 t H locs ht hvm hp hP1 hz hk1 hS => ?_)
    rw [ht] at hP1
    rw [← hp] at hv hk
    have hD : va_D A (Wm ty h u45 px) := zz_D hD rfl
    have hP := hP1
    exact B48 _ _ _ r45 u45 hv hk (lv_sub hl [] rfl) hP hD hS
  have B36 : ∀ (H : Heap) (locs : List Loc) (ls : Array Slot) (x2 : Int32) (s0 : Int32) (σ : St), v = f_Mo_same_36 x2 s0 σ → k_Mo_same_36 x2 s0 σ → lv_has ls 3 [(0, .ref (h 0)), (2, .int x2)] → va_P D classes (Wm ty h σ px) H → va_D A (Wm ty h σ px) → va_S A s.heap H locs → W p l e (headSpec w_Mo_same rm_Mo_same).room s m args below meth c H locs 0 0 (MQ below (va_Qi (fun r (u : St) => (r, u) = v) (fun u t => va_P D classes (Wm ty h u px) t.heap) A) args s 0 0 A) (F0 m 36 ls [.int s0, .ref (h 0)]) := by
    intro H locs ls x2 s0 σ hv hk hl hP hD hS
    unfold f_Mo_same_36 at hv
    unfold k_Mo_same_36 at hk
    obtain ⟨hk0, hk⟩ := hk
    refine va_callv (va_runV (As := [.int s0]) (rest := []) ⟨hx, hb, hml, hown, hg⟩ (c_Mo_join l D ty h px sa σ H.size s0 hk0) ⟨callB_of 1 hg (gw_C m_1523) rfl rfl rfl (hg _ m_13) (hg _ m_1520) hd_Mo_join ⟨Nat.le_of_ble_eq_true rfl, Nat.le_of_ble_eq_true rfl⟩, hg _ m_1522, hg _ ms_65⟩ (zz_preVW hM hS hA hN hK hP hD 0 rfl rfl) rfl rfl hl.1 rfl (lv_room (Nat.le_of_ble_eq_true rfl)) d_Mo_same_36 ⟨Nat.le_of_ble_eq_true rfl, Nat.le_of_ble_eq_true rfl⟩) hS (fun q _ h => zz_free hD hS hA q h) (zz_free hD hS hA) (fun u36 t H locs ht hvm hp hP1 hz hk1 hS => ?_)
    rw [ht] at hP1
    rw [← hp] at hv hk
    have hD : va_D A (Wm ty h u36 px) := zz_D hD rfl
    have hP := hP1
    exact B39 _ _ _ x2 u36 hv hk (lv_sub hl [0, 1] rfl) hP hD hS
  have B4 : ∀ (H : Heap) (locs : List Loc) (ls : Array Slot) (x1 : Int32) (s0 : Int32) (σ : St), v = f_Mo_same_4 x1 s0 σ → k_Mo_same_4 x1 s0 σ → lv_has ls 3 [(0, .ref (h 0)), (1, .int x1)] → va_P D classes (Wm ty h σ px) H → va_D A (Wm ty h σ px) → va_S A s.heap H locs → W p l e (headSpec w_Mo_same rm_Mo_same).room s m args below meth c H locs 0 0 (MQ below (va_Qi (fun r (u : St) => (r, u) = v) (fun u t => va_P D classes (Wm ty h u px) t.heap) A) args s 0 0 A) (F0 m 4 ls [.int s0]) := by
    intro H locs ls x1 s0 σ hv hk hl hP hD hS
    unfold f_Mo_same_4 at hv
    unfold k_Mo_same_4 at hk
    refine lv_if_eq (tgt := 9) hx hb d_Mo_same_4 (by decide) (fun hc => ?_) (fun hc => ?_)
    · have hv := hv.trans (if_pos hc)
      have hk := hk.1 hc
      refine lv_sipush (v := 1073) hx hb d_Mo_same_9 (by decide) ?_
      refine lv_istore_n (lv' := [(2, .int 1073), (0, .ref (h 0)), (1, .int x1)]) hx hb d_Mo_same_12 rfl hl (by decide) rfl (fun ls hl => ?_)
      refine lv_aload_n hx hb d_Mo_same_13 rfl (lv_at hl 1 rfl) ?_
      refine lv_iload_n hx hb d_Mo_same_14 rfl (lv_at hl 2 rfl) ?_
      obtain ⟨hk0, hk⟩ := hk
      refine zz_callV (va_runV (As := [.int x1]) (rest := []) ⟨hx, hb, hml, hown, hg⟩ (c_Mo_isTerm l D ty h px sa σ x1 hk0) ⟨callB_of 1 hg (gw_C m_1519) rfl rfl rfl (hg _ m_13) (hg _ m_1516) hd_Mo_isTerm ⟨Nat.le_of_ble_eq_true rfl, Nat.le_of_ble_eq_true rfl⟩, hg _ m_1518, hg _ ms_64⟩ (zz_preV (hM.at hS) hN hK hP 0 rfl rfl) rfl rfl hl.1 rfl (lv_room (Nat.le_of_ble_eq_true rfl)) d_Mo_same_15 ⟨Nat.le_of_ble_eq_true rfl, Nat.le_of_ble_eq_true rfl⟩) ?_
      refine lv_if_ne (tgt := 28) hx hb d_Mo_same_18 (by decide) (fun hc => ?_) (fun hc => ?_)
      · have hv := hv.trans (if_neg hc)
        have hk := hk.2 hc
        refine lv_aload_n hx hb d_Mo_same_28 rfl (lv_at hl 1 rfl) ?_
        refine lv_aload_n hx hb d_Mo_same_29 rfl (lv_at hl 1 rfl) ?_
        refine lv_iconst (v := 5) hx hb d_Mo_same_30 (by decide) ?_
        refine lv_iload_n hx hb d_Mo_same_31 rfl (lv_at hl 2 rfl) ?_
        refine lv_iload_n hx hb d_Mo_same_32 rfl (lv_at hl 2 rfl) ?_
        obtain ⟨hk0, hk⟩ := hk
        refine va_calli (va_runV (As := [.int 5, .int x1, .int x1]) (rest := [.ref (h 0)]) ⟨hx, hb, hml, hown, hg⟩ (c_Mo_made l D ty h px sa σ H.size 5 x1 x1 hk0) ⟨callB_of 3 hg (gw_C m_1503) rfl rfl rfl (hg _ m_13) (hg _ m_1500) hd_Mo_made ⟨Nat.le_of_ble_eq_true rfl, Nat.le_of_ble_eq_true rfl⟩, hg _ m_1502, hg _ ms_61⟩ (zz_preVW hM hS hA hN hK hP hD 0 rfl rfl) rfl rfl hl.1 rfl (lv_room (Nat.le_of_ble_eq_true rfl)) d_Mo_same_33 ⟨Nat.le_of_ble_eq_true rfl, Nat.le_of_ble_eq_true rfl⟩) hS (fun q _ h => zz_free hD hS hA q h) (zz_free hD hS hA) (fun r33 u33 t H locs ht hvm hp hP1 hz hk1 hS => ?_)
        rw [ht] at hP1
        rw [← hp] at hv hk
        have hD : va_D A (Wm ty h u33 px) := zz_D hD rfl
        have hP := hP1
        exact B36 _ _ _ 1073 r33 u33 hv hk (lv_sub hl [1, 0] rfl) hP hD hS
      · have hv := hv.trans (if_pos hc)
        have hk := hk.1 hc
        refine lv_aload_n hx hb d_Mo_same_21 rfl (lv_at hl 1 rfl) ?_
        refine lv_iconst (v := 1) hx hb d_Mo_same_22 (by decide) ?_
        refine lv_iload_n hx hb d_Mo_same_23 rfl (lv_at hl 0 rfl) ?_
        obtain ⟨hk0, hk⟩ := hk
        refine va_calli (va_runV (As := [.int 1, .int 1073]) (rest := []) ⟨hx, hb, hml, hown, hg⟩ (c_Mo_fails l D ty h px sa σ H.size 1 1073 hk0) ⟨callB_of 2 hg (gw_C m_1507) rfl rfl rfl (hg _ m_13) (hg _ m_1504) hd_Mo_fails ⟨Nat.le_of_ble_eq_true rfl, Nat.le_of_ble_eq_true rfl⟩, hg _ m_1506, hg _ ms_62⟩ (zz_preVW hM hS hA hN hK hP hD 0 rfl rfl) rfl rfl hl.1 rfl (lv_room (Nat.le_of_ble_eq_true rfl)) d_Mo_same_24 ⟨Nat.le_of_ble_eq_true rfl, Nat.le_of_ble_eq_true rfl⟩) hS (fun q _ h => zz_free hD hS hA q h) (zz_free hD hS hA) (fun r24 u24 t H locs ht hvm hp hP1 hz hk1 hS => ?_)
        rw [ht] at hP1
        rw [← hp] at hv hk
        have hD : va_D A (Wm ty h u24 px) := zz_D hD rfl
        have hP := hP1
        exact B27 _ _ _ r24 u24 hv hk (lv_sub hl [] rfl) hP hD hS
    · have hv := hv.trans (if_neg hc)
      have hk := hk.2 hc
      refine lv_iconst (v := -1) hx hb d_Mo_same_7 (by decide) ?_
      exact W.iret hx hb hr (fun t ht hW => ⟨⟨_, _, rfl, hv.symm, by dsimp only; rw [ht]; exact hP⟩, hS.F ht⟩) hS.2.2 d_Mo_same_8
  unfold f_Mo_same at hv
  unfold k_Mo_same at hk
  refine lv_aload_n hx hb d_Mo_same_0 rfl (lv_at hl 0 rfl) ?_
  obtain ⟨hk0, hk⟩ := hk
  refine va_calli (va_runV (As := []) (rest := []) ⟨hx, hb, hml, hown, hg⟩ (c_Mo_begin l D ty h px sa σ s.heap.size  hk0) ⟨callB_of 0 hg (gw_C m_1443) rfl rfl rfl (hg _ m_13) (hg _ m_1440) hd_Mo_begin ⟨Nat.le_of_ble_eq_true rfl, Nat.le_of_ble_eq_true rfl⟩, hg _ m_1442, hg _ ms_49⟩ (zz_preVW hM hS hA hN hK hP hD 0 rfl rfl) rfl rfl hl.1 rfl (lv_room (Nat.le_of_ble_eq_true rfl)) d_Mo_same_1 ⟨Nat.le_of_ble_eq_true rfl, Nat.le_of_ble_eq_true rfl⟩) hS (fun q _ h => zz_free hD hS hA q h) (zz_free hD hS hA) (fun r1 u1 t H locs ht hvm hp hP1 hz hk1 hS => ?_)
  rw [ht] at hP1
  rw [← hp] at hv hk
  have hD : va_D A (Wm ty h u1 px) := zz_D hD rfl
  have hP := hP1
  exact B4 _ _ _ a1 r1 u1 hv hk (lv_sub hl [0, 1] rfl) hP hD hS

-- ClauseLedgerModel.chain(II)I
abbrev b_Mo_chain : ByteArray := prog_14_method_40_code
def y_Mo_chain : MethodName := ⟨"ClauseLedgerModel", "chain", "(II)I"⟩
theorem hd_Mo_chain : y_Mo_chain.cls ≠ "java/lang/invoke/MethodHandle" ∧ y_Mo_chain.cls ≠ "java/lang/invoke/VarHandle" ∧ (parseMethodDescriptor y_Mo_chain.desc).map (fun d => d.parameters.length) = some 2 := by decide +kernel
theorem d_Mo_chain_0 : decode b_Mo_chain 0 = .ok (.aload_n 0, 1) := by decide +kernel
theorem d_Mo_chain_1 : decode b_Mo_chain 1 = .ok (.invokevirtual 201, 3) := by decide +kernel
theorem d_Mo_chain_4 : decode b_Mo_chain 4 = .ok (.ifCond .eq 5, 3) := by decide +kernel
theorem d_Mo_chain_7 : decode b_Mo_chain 7 = .ok (.iconst (-1), 1) := by decide +kernel
theorem d_Mo_chain_8 : decode b_Mo_chain 8 = .ok (.ireturn, 1) := by decide +kernel
theorem d_Mo_chain_9 : decode b_Mo_chain 9 = .ok (.sipush 17185, 3) := by decide +kernel
theorem d_Mo_chain_12 : decode b_Mo_chain 12 = .ok (.istore_n 3, 1) := by decide +kernel
theorem d_Mo_chain_13 : decode b_Mo_chain 13 = .ok (.aload_n 0, 1) := by decide +kernel
theorem d_Mo_chain_14 : decode b_Mo_chain 14 = .ok (.iload_n 1, 1) := by decide +kernel
theorem d_Mo_chain_15 : decode b_Mo_chain 15 = .ok (.invokevirtual 207, 3) := by decide +kernel
theorem d_Mo_chain_18 : decode b_Mo_chain 18 = .ok (.ifCond .eq 11, 3) := by decide +kernel
theorem d_Mo_chain_21 : decode b_Mo_chain 21 = .ok (.aload_n 0, 1) := by decide +kernel
theorem d_Mo_chain_22 : decode b_Mo_chain 22 = .ok (.iload_n 2, 1) := by decide +kernel
theorem d_Mo_chain_23 : decode b_Mo_chain 23 = .ok (.invokevirtual 207, 3) := by decide +kernel
theorem d_Mo_chain_26 : decode b_Mo_chain 26 = .ok (.ifCond .ne 10, 3) := by decide +kernel
theorem d_Mo_chain_29 : decode b_Mo_chain 29 = .ok (.aload_n 0, 1) := by decide +kernel
theorem d_Mo_chain_30 : decode b_Mo_chain 30 = .ok (.iconst 1, 1) := by decide +kernel
theorem d_Mo_chain_31 : decode b_Mo_chain 31 = .ok (.iload_n 3, 1) := by decide +kernel
theorem d_Mo_chain_32 : decode b_Mo_chain 32 = .ok (.invokevirtual 133, 3) := by decide +kernel
theorem d_Mo_chain_35 : decode b_Mo_chain 35 = .ok (.ireturn, 1) := by decide +kernel
theorem d_Mo_chain_36 : decode b_Mo_chain 36 = .ok (.aload_n 0, 1) := by decide +kernel
theorem d_Mo_chain_37 : decode b_Mo_chain 37 = .ok (.getfield 26, 3) := by decide +kernel
theorem d_Mo_chain_40 : decode b_Mo_chain 40 = .ok (.iload_n 1, 1) := by decide +kernel
theorem d_Mo_chain_41 : decode b_Mo_chain 41 = .ok (.iaload, 1) := by decide +kernel
theorem d_Mo_chain_42 : decode b_Mo_chain 42 = .ok (.iconst 5, 1) := by decide +kernel
theorem d_Mo_chain_43 : decode b_Mo_chain 43 = .ok (.if_icmp .ne 28, 3) := by decide +kernel
theorem d_Mo_chain_46 : decode b_Mo_chain 46 = .ok (.aload_n 0, 1) := by decide +kernel
theorem d_Mo_chain_47 : decode b_Mo_chain 47 = .ok (.getfield 26, 3) := by decide +kernel
theorem d_Mo_chain_50 : decode b_Mo_chain 50 = .ok (.iload_n 2, 1) := by decide +kernel
theorem d_Mo_chain_51 : decode b_Mo_chain 51 = .ok (.iaload, 1) := by decide +kernel
theorem d_Mo_chain_52 : decode b_Mo_chain 52 = .ok (.iconst 5, 1) := by decide +kernel
theorem d_Mo_chain_53 : decode b_Mo_chain 53 = .ok (.if_icmp .ne 18, 3) := by decide +kernel
theorem d_Mo_chain_56 : decode b_Mo_chain 56 = .ok (.aload_n 0, 1) := by decide +kernel
theorem d_Mo_chain_57 : decode b_Mo_chain 57 = .ok (.getfield 38, 3) := by decide +kernel
theorem d_Mo_chain_60 : decode b_Mo_chain 60 = .ok (.iload_n 1, 1) := by decide +kernel
theorem d_Mo_chain_61 : decode b_Mo_chain 61 = .ok (.iaload, 1) := by decide +kernel
theorem d_Mo_chain_62 : decode b_Mo_chain 62 = .ok (.aload_n 0, 1) := by decide +kernel
theorem d_Mo_chain_63 : decode b_Mo_chain 63 = .ok (.getfield 35, 3) := by decide +kernel
theorem d_Mo_chain_66 : decode b_Mo_chain 66 = .ok (.iload_n 2, 1) := by decide +kernel
theorem d_Mo_chain_67 : decode b_Mo_chain 67 = .ok (.iaload, 1) := by decide +kernel
theorem d_Mo_chain_68 : decode b_Mo_chain 68 = .ok (.if_icmp .eq 10, 3) := by decide +kernel
theorem d_Mo_chain_71 : decode b_Mo_chain 71 = .ok (.aload_n 0, 1) := by decide +kernel
theorem d_Mo_chain_72 : decode b_Mo_chain 72 = .ok (.iconst 2, 1) := by decide +kernel
theorem d_Mo_chain_73 : decode b_Mo_chain 73 = .ok (.iload_n 3, 1) := by decide +kernel
theorem d_Mo_chain_74 : decode b_Mo_chain 74 = .ok (.invokevirtual 133, 3) := by decide +kernel
theorem d_Mo_chain_77 : decode b_Mo_chain 77 = .ok (.ireturn, 1) := by decide +kernel
theorem d_Mo_chain_78 : decode b_Mo_chain 78 = .ok (.aload_n 0, 1) := by decide +kernel
theorem d_Mo_chain_79 : decode b_Mo_chain 79 = .ok (.iload_n 1, 1) := by decide +kernel
theorem d_Mo_chain_80 : decode b_Mo_chain 80 = .ok (.iconst 0, 1) := by decide +kernel
theorem d_Mo_chain_81 : decode b_Mo_chain 81 = .ok (.invokevirtual 233, 3) := by decide +kernel
theorem d_Mo_chain_84 : decode b_Mo_chain 84 = .ok (.aload_n 0, 1) := by decide +kernel
theorem d_Mo_chain_85 : decode b_Mo_chain 85 = .ok (.iload_n 2, 1) := by decide +kernel
theorem d_Mo_chain_86 : decode b_Mo_chain 86 = .ok (.iconst 0, 1) := by decide +kernel
theorem d_Mo_chain_87 : decode b_Mo_chain 87 = .ok (.invokevirtual 233, 3) := by decide +kernel
theorem d_Mo_chain_90 : decode b_Mo_chain 90 = .ok (.aload_n 0, 1) := by decide +kernel
theorem d_Mo_chain_91 : decode b_Mo_chain 91 = .ok (.aload_n 0, 1) := by decide +kernel
theorem d_Mo_chain_92 : decode b_Mo_chain 92 = .ok (.iconst 5, 1) := by decide +kernel
theorem d_Mo_chain_93 : decode b_Mo_chain 93 = .ok (.aload_n 0, 1) := by decide +kernel
theorem d_Mo_chain_94 : decode b_Mo_chain 94 = .ok (.getfield 35, 3) := by decide +kernel
theorem d_Mo_chain_97 : decode b_Mo_chain 97 = .ok (.iload_n 1, 1) := by decide +kernel
theorem d_Mo_chain_98 : decode b_Mo_chain 98 = .ok (.iaload, 1) := by decide +kernel
theorem d_Mo_chain_99 : decode b_Mo_chain 99 = .ok (.aload_n 0, 1) := by decide +kernel
theorem d_Mo_chain_100 : decode b_Mo_chain 100 = .ok (.getfield 38, 3) := by decide +kernel
theorem d_Mo_chain_103 : decode b_Mo_chain 103 = .ok (.iload_n 2, 1) := by decide +kernel
theorem d_Mo_chain_104 : decode b_Mo_chain 104 = .ok (.iaload, 1) := by decide +kernel
theorem d_Mo_chain_105 : decode b_Mo_chain 105 = .ok (.invokevirtual 116, 3) := by decide +kernel
theorem d_Mo_chain_108 : decode b_Mo_chain 108 = .ok (.invokevirtual 210, 3) := by decide +kernel
theorem d_Mo_chain_111 : decode b_Mo_chain 111 = .ok (.aload_n 0, 1) := by decide +kernel
theorem d_Mo_chain_112 : decode b_Mo_chain 112 = .ok (.aload_n 0, 1) := by decide +kernel
theorem d_Mo_chain_113 : decode b_Mo_chain 113 = .ok (.getfield 214, 3) := by decide +kernel
theorem d_Mo_chain_116 : decode b_Mo_chain 116 = .ok (.iload_n 3, 1) := by decide +kernel
theorem d_Mo_chain_117 : decode b_Mo_chain 117 = .ok (.invokevirtual 217, 3) := by decide +kernel
theorem d_Mo_chain_120 : decode b_Mo_chain 120 = .ok (.ireturn, 1) := by decide +kernel
def f_Mo_chain_35 (s0 : Int32) (σ : St) : Int32 × St := (s0, σ)
def k_Mo_chain_35 (s0 : Int32) (σ : St) : Prop := True
def f_Mo_chain_29 (x3 : Int32) (σ : St) : Int32 × St := f_Mo_chain_35 ((f_Mo_fails 1 x3 σ).1) ((f_Mo_fails 1 x3 σ).2)
def k_Mo_chain_29 (x3 : Int32) (σ : St) : Prop := (k_Mo_fails 1 x3 σ) ∧ (k_Mo_chain_35 ((f_Mo_fails 1 x3 σ).1) ((f_Mo_fails 1 x3 σ).2))
def f_Mo_chain_77 (s0 : Int32) (σ : St) : Int32 × St := (s0, σ)
def k_Mo_chain_77 (s0 : Int32) (σ : St) : Prop := True
def f_Mo_chain_71 (x3 : Int32) (σ : St) : Int32 × St := f_Mo_chain_77 ((f_Mo_fails 2 x3 σ).1) ((f_Mo_fails 2 x3 σ).2)
def k_Mo_chain_71 (x3 : Int32) (σ : St) : Prop := (k_Mo_fails 2 x3 σ) ∧ (k_Mo_chain_77 ((f_Mo_fails 2 x3 σ).1) ((f_Mo_fails 2 x3 σ).2))
def f_Mo_chain_120 (s0 : Int32) (σ : St) : Int32 × St := (s0, σ)
def k_Mo_chain_120 (s0 : Int32) (σ : St) : Prop := True
def f_Mo_chain_111 (x3 : Int32) (σ : St) : Int32 × St := f_Mo_chain_120 ((f_Mo_enter (σ.1 0 25) x3 σ).1) ((f_Mo_enter (σ.1 0 25) x3 σ).2)
def k_Mo_chain_111 (x3 : Int32) (σ : St) : Prop := (k_Mo_enter (σ.1 0 25) x3 σ) ∧ (k_Mo_chain_120 ((f_Mo_enter (σ.1 0 25) x3 σ).1) ((f_Mo_enter (σ.1 0 25) x3 σ).2))
def f_Mo_chain_108 (x3 : Int32) (s0 : Int32) (σ : St) : Int32 × St := f_Mo_chain_111 x3 (f_Mo_join s0 σ)
def k_Mo_chain_108 (x3 : Int32) (s0 : Int32) (σ : St) : Prop := (k_Mo_join s0 σ) ∧ (k_Mo_chain_111 x3 (f_Mo_join s0 σ))
def f_Mo_chain_90 (x1 : Int32) (x2 : Int32) (x3 : Int32) (σ : St) : Int32 × St := f_Mo_chain_108 x3 ((f_Mo_made 5 (σ.1 8 x1.toNatClampNeg) (σ.1 9 x2.toNatClampNeg) σ).1) ((f_Mo_made 5 (σ.1 8 x1.toNatClampNeg) (σ.1 9 x2.toNatClampNeg) σ).2)
def k_Mo_chain_90 (x1 : Int32) (x2 : Int32) (x3 : Int32) (σ : St) : Prop := vp_in x1 400 ∧ (vp_in x2 400 ∧ ((k_Mo_made 5 (σ.1 8 x1.toNatClampNeg) (σ.1 9 x2.toNatClampNeg) σ) ∧ (k_Mo_chain_108 x3 ((f_Mo_made 5 (σ.1 8 x1.toNatClampNeg) (σ.1 9 x2.toNatClampNeg) σ).1) ((f_Mo_made 5 (σ.1 8 x1.toNatClampNeg) (σ.1 9 x2.toNatClampNeg) σ).2))))
def f_Mo_chain_84 (x1 : Int32) (x2 : Int32) (x3 : Int32) (σ : St) : Int32 × St := f_Mo_chain_90 x1 x2 x3 (f_Mo_joinAs x2 0 σ)
def k_Mo_chain_84 (x1 : Int32) (x2 : Int32) (x3 : Int32) (σ : St) : Prop := (k_Mo_joinAs x2 0 σ) ∧ (k_Mo_chain_90 x1 x2 x3 (f_Mo_joinAs x2 0 σ))
def f_Mo_chain_4 (x1 : Int32) (x2 : Int32) (s0 : Int32) (σ : St) : Int32 × St := if s0 = 0 then (if (f_Mo_isTerm x1 σ) = 0 then (f_Mo_chain_29 17185 σ) else (if (f_Mo_isTerm x2 σ) = 0 then (f_Mo_chain_29 17185 σ) else (if (σ.1 5 x1.toNatClampNeg) = 5 then (if (σ.1 5 x2.toNatClampNeg) = 5 then (if (σ.1 9 x1.toNatClampNeg) = (σ.1 8 x2.toNatClampNeg) then (f_Mo_chain_84 x1 x2 17185 (f_Mo_joinAs x1 0 σ)) else (f_Mo_chain_71 17185 σ)) else (f_Mo_chain_71 17185 σ)) else (f_Mo_chain_71 17185 σ)))) else ((-1), σ)
def k_Mo_chain_4 (x1 : Int32) (x2 : Int32) (s0 : Int32) (σ : St) : Prop := (s0 = 0 → ((k_Mo_isTerm x1 σ) ∧ (((f_Mo_isTerm x1 σ) = 0 → (k_Mo_chain_29 17185 σ)) ∧ (¬ (f_Mo_isTerm x1 σ) = 0 → ((k_Mo_isTerm x2 σ) ∧ (((f_Mo_isTerm x2 σ) = 0 → (k_Mo_chain_29 17185 σ)) ∧ (¬ (f_Mo_isTerm x2 σ) = 0 → (vp_in x1 400 ∧ (((σ.1 5 x1.toNatClampNeg) = 5 → (vp_in x2 400 ∧ (((σ.1 5 x2.toNatClampNeg) = 5 → (vp_in x1 400 ∧ (vp_in x2 400 ∧ (((σ.1 9 x1.toNatClampNeg) = (σ.1 8 x2.toNatClampNeg) → ((k_Mo_joinAs x1 0 σ) ∧ (k_Mo_chain_84 x1 x2 17185 (f_Mo_joinAs x1 0 σ)))) ∧ (¬ (σ.1 9 x1.toNatClampNeg) = (σ.1 8 x2.toNatClampNeg) → (k_Mo_chain_71 17185 σ)))))) ∧ (¬ (σ.1 5 x2.toNatClampNeg) = 5 → (k_Mo_chain_71 17185 σ))))) ∧ (¬ (σ.1 5 x1.toNatClampNeg) = 5 → (k_Mo_chain_71 17185 σ))))))))))) ∧ (¬ s0 = 0 → True)
def f_Mo_chain (a1 : Int32) (a2 : Int32) (σ : St) : Int32 × St := f_Mo_chain_4 a1 a2 ((f_Mo_begin σ).1) ((f_Mo_begin σ).2)
def k_Mo_chain (a1 : Int32) (a2 : Int32) (σ : St) : Prop := (k_Mo_begin σ) ∧ (k_Mo_chain_4 a1 a2 ((f_Mo_begin σ).1) ((f_Mo_begin σ).2))
abbrev w_Mo_chain : List Cond := Cond.code y_Mo_chain b_Mo_chain 4 (some .int) :: gw
abbrev rm_Mo_chain : Room := { frames := 4, cells := 0, slots := 0, locals := 96 }
set_option maxHeartbeats 4000000 in
set_option maxRecDepth 100000 in
theorem c_Mo_chain (l : Launch) (D : va_G) (ty : Nat → ClassId) (h : Nat → Nat) (px : va_W) (sa : Nat → Nat) (σ : St) (sz : Nat) (a1 : Int32) (a2 : Int32) (hk : k_Mo_chain a1 a2 σ) : Met l y_Mo_chain w_Mo_chain rm_Mo_chain (va_Pc [.ref (h 0), .int a1, .int a2] (fun U => U.heap.size = sz ∧ va_P D classes (Wm ty h σ px) U.heap ∧ va_K D classes (Ta ty) U ∧ NW U ∧ MK sa (va_A (Wm ty h σ px) sz) U U.heap ∧ va_D (fun _ => True) (Wm ty h σ px))) (va_Qi (fun r (u : St) => (r, u) = f_Mo_chain a1 a2 σ) (fun u t => va_P D classes (Wm ty h u px) t.heap) (va_A (Wm ty h σ px) sz)) 0 0 (va_A (Wm ty h σ px) sz) := by
  refine Met.ofW (cc := b_Mo_chain) (maxL := 4) (ret := (some .int)) (by decide) rfl ?_
  intro p e s m args below meth c s₁ B hml hv
  obtain ⟨ha, hsz, hP, hK, hN, hM, hD0⟩ := hv
  have hx := B.exec
  have hb := B.bytes
  have hr := B.returns
  have hg : ∀ w ∈ gw, w.before args s = true := fun w h9 => atoms_spec (ws := w_Mo_chain) B.pre w (List.mem_cons_of_mem _ h9)
  have hown : s.vm.findClass "ClauseLedgerModel" = some m.cls := findClass_of_methodNamed B.named
  have hlocks := B.notSynchronized
  subst hsz
  have hD := hD0.self (sz := s.heap.size)
  generalize hAe : va_A (Wm ty h σ px) s.heap.size = A at hD hM ⊢
  have hA : ∀ q : Nat, s.heap.size ≤ q → A q := fun q h9 => by rw [← hAe]; exact Or.inr h9
  have hS : va_S A s.heap s.heap [] := va_S.rf
  have he : entryFrame m args 4 = entryFrame m ([.ref (h 0), .int a1, .int a2] : List Value).toArray 4 := by rw [ha]
  rw [he, lg_entry_eq]
  have hl := lv_entry ([.ref (h 0), .int a1, .int a2]) (n := 4) (Nat.le_of_ble_eq_true rfl)
  generalize (lg_sl ([.ref (h 0), .int a1, .int a2]) ++ List.replicate (4 - (lg_sl ([.ref (h 0), .int a1, .int a2])).length) Slot.unset).toArray = ls at hl ⊢
  have hl : lv_has ls 4 [(0, .ref (h 0)), (1, .int a1), (2, .int a2)] := hl
  generalize hv : f_Mo_chain a1 a2 σ = v
  replace hv := hv.symm
  have B35 : ∀ (H : Heap) (locs : List Loc) (ls : Array Slot) (s0 : Int32) (σ : St), v = f_Mo_chain_35 s0 σ → k_Mo_chain_35 s0 σ → lv_has ls 4 [] → va_P D classes (Wm ty h σ px) H → va_D A (Wm ty h σ px) → va_S A s.heap H locs → W p l e (headSpec w_Mo_chain rm_Mo_chain).room s m args below meth c H locs 0 0 (MQ below (va_Qi (fun r (u : St) => (r, u) = v) (fun u t => va_P D classes (Wm ty h u px) t.heap) A) args s 0 0 A) (F0 m 35 ls [.int s0]) := by
    intro H locs ls s0 σ hv hk hl hP hD hS
    unfold f_Mo_chain_35 at hv
    unfold k_Mo_chain_35 at hk
    exact W.iret hx hb hr (fun t ht hW => ⟨⟨_, _, rfl, hv.symm, by dsimp only; rw [ht]; exact hP⟩, hS.F ht⟩) hS.2.2 d_Mo_chain_35
  have B29 : ∀ (H : Heap) (locs : List Loc) (ls : Array Slot) (x3 : Int32) (σ : St), v = f_Mo_chain_29 x3 σ → k_Mo_chain_29 x3 σ → lv_has ls 4 [(0, .ref (h 0)), (3, .int x3)] → va_P D classes (Wm ty h σ px) H → va_D A (Wm ty h σ px) → va_S A s.heap H locs → W p l e (headSpec w_Mo_chain rm_Mo_chain).room s m args below meth c H locs 0 0 (MQ below (va_Qi (fun r (u : St) => (r, u) = v) (fun u t => va_P D classes (Wm ty h u px) t.heap) A) args s 0 0 A) (F0 m 29 ls []) := by
    intro H locs ls x3 σ hv hk hl hP hD hS
    unfold f_Mo_chain_29 at hv
    unfold k_Mo_chain_29 at hk
    refine lv_aload_n hx hb d_Mo_chain_29 rfl (lv_at hl 0 rfl) ?_
    refine lv_iconst (v := 1) hx hb d_Mo_chain_30 (by decide) ?_
    refine lv_iload_n hx hb d_Mo_chain_31 rfl (lv_at hl 1 rfl) ?_
    obtain ⟨hk0, hk⟩ := hk
    refine va_calli (va_runV (As := [.int 1, .int x3]) (rest := []) ⟨hx, hb, hml, hown, hg⟩ (c_Mo_fails l D ty h px sa σ H.size 1 x3 hk0) ⟨callB_of 2 hg (gw_C m_1507) rfl rfl rfl (hg _ m_13) (hg _ m_1504) hd_Mo_fails ⟨Nat.le_of_ble_eq_true rfl, Nat.le_of_ble_eq_true rfl⟩, hg _ m_1506, hg _ ms_62⟩ (zz_preVW hM hS hA hN hK hP hD 0 rfl rfl) rfl rfl hl.1 rfl (lv_room (Nat.le_of_ble_eq_true rfl)) d_Mo_chain_32 ⟨Nat.le_of_ble_eq_true rfl, Nat.le_of_ble_eq_true rfl⟩) hS (fun q _ h => zz_free hD hS hA q h) (zz_free hD hS hA) (fun r32 u32 t H locs ht hvm hp hP1 hz hk1 hS => ?_)
    rw [ht] at hP1
    rw [← hp] at hv hk
    have hD : va_D A (Wm ty h u32 px) := zz_D hD rfl
    have hP := hP1
    exact B35 _ _ _ r32 u32 hv hk (lv_sub hl [] rfl) hP hD hS
  have B77 : ∀ (H : Heap) (locs : List Loc) (ls : Array Slot) (s0 : Int32) (σ : St), v = f_Mo_chain_77 s0 σ → k_Mo_chain_77 s0 σ → lv_has ls 4 [] → va_P D classes (Wm ty h σ px) H → va_D A (Wm ty h σ px) → va_S A s.heap H locs → W p l e (headSpec w_Mo_chain rm_Mo_chain).room s m args below meth c H locs 0 0 (MQ below (va_Qi (fun r (u : St) => (r, u) = v) (fun u t => va_P D classes (Wm ty h u px) t.heap) A) args s 0 0 A) (F0 m 77 ls [.int s0]) := by
    intro H locs ls s0 σ hv hk hl hP hD hS
    unfold f_Mo_chain_77 at hv
    unfold k_Mo_chain_77 at hk
    exact W.iret hx hb hr (fun t ht hW => ⟨⟨_, _, rfl, hv.symm, by dsimp only; rw [ht]; exact hP⟩, hS.F ht⟩) hS.2.2 d_Mo_chain_77
  have B71 : ∀ (H : Heap) (locs : List Loc) (ls : Array Slot) (x3 : Int32) (σ : St), v = f_Mo_chain_71 x3 σ → k_Mo_chain_71 x3 σ → lv_has ls 4 [(0, .ref (h 0)), (3, .int x3)] → va_P D classes (Wm ty h σ px) H → va_D A (Wm ty h σ px) → va_S A s.heap H locs → W p l e (headSpec w_Mo_chain rm_Mo_chain).room s m args below meth c H locs 0 0 (MQ below (va_Qi (fun r (u : St) => (r, u) = v) (fun u t => va_P D classes (Wm ty h u px) t.heap) A) args s 0 0 A) (F0 m 71 ls []) := by
    intro H locs ls x3 σ hv hk hl hP hD hS
    unfold f_Mo_chain_71 at hv
    unfold k_Mo_chain_71 at hk
    refine lv_aload_n hx hb d_Mo_chain_71 rfl (lv_at hl 0 rfl) ?_
    refine lv_iconst (v := 2) hx hb d_Mo_chain_72 (by decide) ?_
    refine lv_iload_n hx hb d_Mo_chain_73 rfl (lv_at hl 1 rfl) ?_
    obtain ⟨hk0, hk⟩ := hk
    refine va_calli (va_runV (As := [.int 2, .int x3]) (rest := []) ⟨hx, hb, hml, hown, hg⟩ (c_Mo_fails l D ty h px sa σ H.size 2 x3 hk0) ⟨callB_of 2 hg (gw_C m_1507) rfl rfl rfl (hg _ m_13) (hg _ m_1504) hd_Mo_fails ⟨Nat.le_of_ble_eq_true rfl, Nat.le_of_ble_eq_true rfl⟩, hg _ m_1506, hg _ ms_62⟩ (zz_preVW hM hS hA hN hK hP hD 0 rfl rfl) rfl rfl hl.1 rfl (lv_room (Nat.le_of_ble_eq_true rfl)) d_Mo_chain_74 ⟨Nat.le_of_ble_eq_true rfl, Nat.le_of_ble_eq_true rfl⟩) hS (fun q _ h => zz_free hD hS hA q h) (zz_free hD hS hA) (fun r74 u74 t H locs ht hvm hp hP1 hz hk1 hS => ?_)
    rw [ht] at hP1
    rw [← hp] at hv hk
    have hD : va_D A (Wm ty h u74 px) := zz_D hD rfl
    have hP := hP1
    exact B77 _ _ _ r74 u74 hv hk (lv_sub hl [] rfl) hP hD hS
  have B120 : ∀ (H : Heap) (locs : List Loc) (ls : Array Slot) (s0 : Int32) (σ : St), v = f_Mo_chain_120 s0 σ → k_Mo_chain_120 s0 σ → lv_has ls 4 [] → va_P D classes (Wm ty h σ px) H → va_D A (Wm ty h σ px) → va_S A s.heap H locs → W p l e (headSpec w_Mo_chain rm_Mo_chain).room s m args below meth c H locs 0 0 (MQ below (va_Qi (fun r (u : St) => (r, u) = v) (fun u t => va_P D classes (Wm ty h u px) t.heap) A) args s 0 0 A) (F0 m 120 ls [.int s0]) := by
    intro H locs ls s0 σ hv hk hl hP hD hS
    unfold f_Mo_chain_120 at hv
    unfold k_Mo_chain_120 at hk
    exact W.iret hx hb hr (fun t ht hW => ⟨⟨_, _, rfl, hv.symm, by dsimp only; rw [ht]; exact hP⟩, hS.F ht⟩) hS.2.2 d_Mo_chain_120
  have B111 : ∀ (H : Heap) (locs : List Loc) (ls : Array Slot) (x3 : Int32) (σ : St), v = f_Mo_chain_111 x3 σ → k_Mo_chain_111 x3 σ → lv_has ls 4 [(0, .ref (h 0)), (3, .int x3)] → va_P D classes (Wm ty h σ px) H → va_D A (Wm ty h σ px) → va_S A s.heap H locs → W p l e (headSpec w_Mo_chain rm_Mo_chain).room s m args below meth c H locs 0 0 (MQ below (va_Qi (fun r (u : St) => (r, u) = v) (fun u t => va_P D classes (Wm ty h u px) t.heap) A) args s 0 0 A) (F0 m 111 ls []) := by
    intro H locs ls x3 σ hv hk hl hP hD hS
    unfold f_Mo_chain_111 at hv
    unfold k_Mo_chain_111 at hk
    refine lv_aload_n hx hb d_Mo_chain_111 rfl (lv_at hl 0 rfl) ?_
    refine lv_aload_n hx hb d_Mo_chain_112 rfl (lv_at hl 0 rfl) ?_
    refine va_get (v := .int (σ.1 0 25)) (C := R_Mo) (T := T_Mo) (N := 51) hx hb hg in_Mo hown hK hP 0 rfl rfl 25 (by decide) (hg _ m_1284) (fun _ h9 => h9) rfl d_Mo_chain_113 ?_
    refine lv_iload_n hx hb d_Mo_chain_116 rfl (lv_at hl 1 rfl) ?_
    obtain ⟨hk0, hk⟩ := hk
    refine va_calli (va_runV (As := [.int (σ.1 0 25), .int x3]) (rest := []) ⟨hx, hb, hml, hown, hg⟩ (c_Mo_enter l D ty h px sa σ H.size (σ.1 0 25) x3 hk0) ⟨callB_of 2 hg (gw_C m_1527) rfl rfl rfl (hg _ m_13) (hg _ m_1524) hd_Mo_enter ⟨Nat.le_of_ble_eq_true rfl, Nat.le_of_ble_eq_true rfl⟩, hg _ m_1526, hg _ ms_66⟩ (zz_preVW hM hS hA hN hK hP hD 0 rfl rfl) rfl rfl hl.1 rfl (lv_room (Nat.le_of_ble_eq_true rfl)) d_Mo_chain_117 ⟨Nat.le_of_ble_eq_true rfl, Nat.le_of_ble_eq_true rfl⟩) hS (fun q _ h => zz_free hD hS hA q h) (zz_free hD hS hA) (fun r117 u117 t H locs ht hvm hp hP1 hz hk1 hS => ?_)
    rw [ht] at hP1
    rw [← hp] at hv hk
    have hD : va_D A (Wm ty h u117 px) := zz_D hD rfl
    have hP := hP1
    exact B120 _ _ _ r117 u117 hv hk (lv_sub hl [] rfl) hP hD hS
  have B108 : ∀ (H : Heap) (locs : List Loc) (ls : Array Slot) (x3 : Int32) (s0 : Int32) (σ : St), v = f_Mo_chain_108 x3 s0 σ → k_Mo_chain_108 x3 s0 σ → lv_has ls 4 [(0, .ref (h 0)), (3, .int x3)] → va_P D classes (Wm ty h σ px) H → va_D A (Wm ty h σ px) → va_S A s.heap H locs → W p l e (headSpec w_Mo_chain rm_Mo_chain).room s m args below meth c H locs 0 0 (MQ below (va_Qi (fun r (u : St) => (r, u) = v) (fun u t => va_P D classes (Wm ty h u px) t.heap) A) args s 0 0 A) (F0 m 108 ls [.int s0, .ref (h 0)]) := by
    intro H locs ls x3 s0 σ hv hk hl hP hD hS
    unfold f_Mo_chain_108 at hv
    unfold k_Mo_chain_108 at hk
    obtain ⟨hk0, hk⟩ := hk
    refine va_callv (va_runV (As := [.int s0]) (rest := []) ⟨hx, hb, hml, hown, hg⟩ (c_Mo_join l D ty h px sa σ H.size s0 hk0) ⟨callB_of 1 hg (gw_C m_1523) rfl rfl rfl (hg _ m_13) (hg _ m_1520) hd_Mo_join ⟨Nat.le_of_ble_eq_true rfl, Nat.le_of_ble_eq_true rfl⟩, hg _ m_1522, hg _ ms_65⟩ (zz_preVW hM hS hA hN hK hP hD 0 rfl rfl) rfl rfl hl.1 rfl (lv_room (Nat.le_of_ble_eq_true rfl)) d_Mo_chain_108 ⟨Nat.le_of_ble_eq_true rfl, Nat.le_of_ble_eq_true rfl⟩) hS (fun q _ h => zz_free hD hS hA q h) (zz_free hD hS hA) (fun u108 t H locs ht hvm hp hP1 hz hk1 hS => ?_)
    rw [ht] at hP1
    rw [← hp] at hv hk
    have hD : va_D A (Wm ty h u108 px) := zz_D hD rfl
    have hP := hP1
    exact B111 _ _ _ x3 u108 hv hk (lv_sub hl [0, 1] rfl) hP hD hS
  have B90 : ∀ (H : Heap) (locs : List Loc) (ls : Array Slot) (x1 : Int32) (x2 : Int32) (x3 : Int32) (σ : St), v = f_Mo_chain_90 x1 x2 x3 σ → k_Mo_chain_90 x1 x2 x3 σ → lv_has ls 4 [(0, .ref (h 0)), (1, .int x1), (2, .int x2), (3, .int x3)] → va_P D classes (Wm ty h σ px) H → va_D A (Wm ty h σ px) → va_S A s.heap H locs → W p l e (headSpec w_Mo_chain rm_Mo_chain).room s m args below meth c H locs 0 0 (MQ below (va_Qi (fun r (u : St) => (r, u) = v) (fun u t => va_P D classes (Wm ty h u px) t.heap) A) args s 0 0 A) (F0 m 90 ls []) := by
    intro H locs ls x1 x2 x3 σ hv hk hl hP hD hS
    unfold f_Mo_chain_90 at hv
    unfold k_Mo_chain_90 at hk
    refine lv_aload_n hx hb d_Mo_chain_90 rfl (lv_at hl 0 rfl) ?_
    refine lv_aload_n hx hb d_Mo_chain_91 rfl (lv_at hl 0 rfl) ?_
    refine lv_iconst (v := 5) hx hb d_Mo_chain_92 (by decide) ?_
    refine lv_aload_n hx hb d_Mo_chain_93 rfl (lv_at hl 0 rfl) ?_
    refine va_get (v := .ref (h 8)) (C := R_Mo) (T := T_Mo) (N := 51) hx hb hg in_Mo hown hK hP 0 rfl rfl 13 (by decide) (hg _ m_1272) (fun _ h9 => h9) rfl d_Mo_chain_94 ?_
    refine lv_iload_n hx hb d_Mo_chain_97 rfl (lv_at hl 1 rfl) ?_
    obtain ⟨hk0, hk⟩ := hk
    refine va_iald hx hb hK hP 8 0 rfl rfl hk0 d_Mo_chain_98 ?_
    refine lv_aload_n hx hb d_Mo_chain_99 rfl (lv_at hl 0 rfl) ?_
    refine va_get (v := .ref (h 9)) (C := R_Mo) (T := T_Mo) (N := 51) hx hb hg in_Mo hown hK hP 0 rfl rfl 14 (by decide) (hg _ m_1273) (fun _ h9 => h9) rfl d_Mo_chain_100 ?_
    refine lv_iload_n hx hb d_Mo_chain_103 rfl (lv_at hl 2 rfl) ?_
    obtain ⟨hk0, hk⟩ := hk
    refine va_iald hx hb hK hP 9 0 rfl rfl hk0 d_Mo_chain_104 ?_
    obtain ⟨hk0, hk⟩ := hk
    refine va_calli (va_runV (As := [.int 5, .int (σ.1 8 x1.toNatClampNeg), .int (σ.1 9 x2.toNatClampNeg)]) (rest := [.ref (h 0)]) ⟨hx, hb, hml, hown, hg⟩ (c_Mo_made l D ty h px sa σ H.size 5 (σ.1 8 x1.toNatClampNeg) (σ.1 9 x2.toNatClampNeg) hk0) ⟨callB_of 3 hg (gw_C m_1503) rfl rfl rfl (hg _ m_13) (hg _ m_1500) hd_Mo_made ⟨Nat.le_of_ble_eq_true rfl, Nat.le_of_ble_eq_true rfl⟩, hg _ m_1502, hg _ ms_61⟩ (zz_preVW hM hS hA hN hK hP hD 0 rfl rfl) rfl rfl hl.1 rfl (lv_room (Nat.le_of_ble_eq_true rfl)) d_Mo_chain_105 ⟨Nat.le_of_ble_eq_true rfl, Nat.le_of_ble_eq_true rfl⟩) hS (fun q _ h => zz_free hD hS hA q h) (zz_free hD hS hA) (fun r105 u105 t H locs ht hvm hp hP1 hz hk1 hS => ?_)
    rw [ht] at hP1
    rw [← hp] at hv hk
    have hD : va_D A (Wm ty h u105 px) := zz_D hD rfl
    have hP := hP1
    exact B108 _ _ _ x3 r105 u105 hv hk (lv_sub hl [0, 3] rfl) hP hD hS
  have B84 : ∀ (H : Heap) (locs : List Loc) (ls : Array Slot) (x1 : Int32) (x2 : Int32) (x3 : Int32) (σ : St), v = f_Mo_chain_84 x1 x2 x3 σ → k_Mo_chain_84 x1 x2 x3 σ → lv_has ls 4 [(0, .ref (h 0)), (1, .int x1), (2, .int x2), (3, .int x3)] → va_P D classes (Wm ty h σ px) H → va_D A (Wm ty h σ px) → va_S A s.heap H locs → W p l e (headSpec w_Mo_chain rm_Mo_chain).room s m args below meth c H locs 0 0 (MQ below (va_Qi (fun r (u : St) => (r, u) = v) (fun u t => va_P D classes (Wm ty h u px) t.heap) A) args s 0 0 A) (F0 m 84 ls []) := by
    intro H locs ls x1 x2 x3 σ hv hk hl hP hD hS
    unfold f_Mo_chain_84 at hv
    unfold k_Mo_chain_84 at hk
    refine lv_aload_n hx hb d_Mo_chain_84 rfl (lv_at hl 0 rfl) ?_
    refine lv_iload_n hx hb d_Mo_chain_85 rfl (lv_at hl 2 rfl) ?_
    refine lv_iconst (v := 0) hx hb d_Mo_chain_86 (by decide) ?_
    obtain ⟨hk0, hk⟩ := hk
    refine va_callv (va_runV (As := [.int x2, .int 0]) (rest := []) ⟨hx, hb, hml, hown, hg⟩ (c_Mo_joinAs l D ty h px sa σ H.size x2 0 hk0) ⟨callB_of 2 hg (gw_C m_1559) rfl rfl rfl (hg _ m_13) (hg _ m_1556) hd_Mo_joinAs ⟨Nat.le_of_ble_eq_true rfl, Nat.le_of_ble_eq_true rfl⟩, hg _ m_1558, hg _ ms_71⟩ (zz_preVW hM hS hA hN hK hP hD 0 rfl rfl) rfl rfl hl.1 rfl (lv_room (Nat.le_of_ble_eq_true rfl)) d_Mo_chain_87 ⟨Nat.le_of_ble_eq_true rfl, Nat.le_of_ble_eq_true rfl⟩) hS (fun q _ h => zz_free hD hS hA q h) (zz_free hD hS hA) (fun u87 t H locs ht hvm hp hP1 hz hk1 hS => ?_)
    rw [ht] at hP1
    rw [← hp] at hv hk
    have hD : va_D A (Wm ty h u87 px) := zz_D hD rfl
    have hP := hP1
    exact B90 _ _ _ x1 x2 x3 u87 hv hk (lv_sub hl [0, 1, 2, 3] rfl) hP hD hS
  have B4 : ∀ (H : Heap) (locs : List Loc) (ls : Array Slot) (x1 : Int32) (x2 : Int32) (s0 : Int32) (σ : St), v = f_Mo_chain_4 x1 x2 s0 σ → k_Mo_chain_4 x1 x2 s0 σ → lv_has ls 4 [(0, .ref (h 0)), (1, .int x1), (2, .int x2)] → va_P D classes (Wm ty h σ px) H → va_D A (Wm ty h σ px) → va_S A s.heap H locs → W p l e (headSpec w_Mo_chain rm_Mo_chain).room s m args below meth c H locs 0 0 (MQ below (va_Qi (fun r (u : St) => (r, u) = v) (fun u t => va_P D classes (Wm ty h u px) t.heap) A) args s 0 0 A) (F0 m 4 ls [.int s0]) := by
    intro H locs ls x1 x2 s0 σ hv hk hl hP hD hS
    unfold f_Mo_chain_4 at hv
    unfold k_Mo_chain_4 at hk
    refine lv_if_eq (tgt := 9) hx hb d_Mo_chain_4 (by decide) (fun hc => ?_) (fun hc => ?_)
    · have hv := hv.trans (if_pos hc)
      have hk := hk.1 hc
      refine lv_sipush (v := 17185) hx hb d_Mo_chain_9 (by decide) ?_
      refine lv_istore_n (lv' := [(3, .int 17185), (0, .ref (h 0)), (1, .int x1), (2, .int x2)]) hx hb d_Mo_chain_12 rfl hl (by decide) rfl (fun ls hl => ?_)
      refine lv_aload_n hx hb d_Mo_chain_13 rfl (lv_at hl 1 rfl) ?_
      refine lv_iload_n hx hb d_Mo_chain_14 rfl (lv_at hl 2 rfl) ?_
      obtain ⟨hk0, hk⟩ := hk
      refine zz_callV (va_runV (As := [.int x1]) (rest := []) ⟨hx, hb, hml, hown, hg⟩ (c_Mo_isTerm l D ty h px sa σ x1 hk0) ⟨callB_of 1 hg (gw_C m_1519) rfl rfl rfl (hg _ m_13) (hg _ m_1516) hd_Mo_isTerm ⟨Nat.le_of_ble_eq_true rfl, Nat.le_of_ble_eq_true rfl⟩, hg _ m_1518, hg _ ms_64⟩ (zz_preV (hM.at hS) hN hK hP 0 rfl rfl) rfl rfl hl.1 rfl (lv_room (Nat.le_of_ble_eq_true rfl)) d_Mo_chain_15 ⟨Nat.le_of_ble_eq_true rfl, Nat.le_of_ble_eq_true rfl⟩) ?_
      refine lv_if_eq (tgt := 29) hx hb d_Mo_chain_18 (by decide) (fun hc => ?_) (fun hc => ?_)
      · have hv := hv.trans (if_pos hc)
        have hk := hk.1 hc
        exact B29 _ _ _ 17185 σ hv hk (lv_sub hl [1, 0] rfl) hP hD hS
      · have hv := hv.trans (if_neg hc)
        have hk := hk.2 hc
        refine lv_aload_n hx hb d_Mo_chain_21 rfl (lv_at hl 1 rfl) ?_
        refine lv_iload_n hx hb d_Mo_chain_22 rfl (lv_at hl 3 rfl) ?_
        obtain ⟨hk0, hk⟩ := hk
        refine zz_callV (va_runV (As := [.int x2]) (rest := []) ⟨hx, hb, hml, hown, hg⟩ (c_Mo_isTerm l D ty h px sa σ x2 hk0) ⟨callB_of 1 hg (gw_C m_1519) rfl rfl rfl (hg _ m_13) (hg _ m_1516) hd_Mo_isTerm ⟨Nat.le_of_ble_eq_true rfl, Nat.le_of_ble_eq_true rfl⟩, hg _ m_1518, hg _ ms_64⟩ (zz_preV (hM.at hS) hN hK hP 0 rfl rfl) rfl rfl hl.1 rfl (lv_room (Nat.le_of_ble_eq_true rfl)) d_Mo_chain_23 ⟨Nat.le_of_ble_eq_true rfl, Nat.le_of_ble_eq_true rfl⟩) ?_
        refine lv_if_ne (tgt := 36) hx hb d_Mo_chain_26 (by decide) (fun hc => ?_) (fun hc => ?_)
        · have hv := hv.trans (if_neg hc)
          have hk := hk.2 hc
          refine lv_aload_n hx hb d_Mo_chain_36 rfl (lv_at hl 1 rfl) ?_
          refine va_get (v := .ref (h 5)) (C := R_Mo) (T := T_Mo) (N := 51) hx hb hg in_Mo hown hK hP 0 rfl rfl 10 (by decide) (hg _ m_1269) (fun _ h9 => h9) rfl d_Mo_chain_37 ?_
          refine lv_iload_n hx hb d_Mo_chain_40 rfl (lv_at hl 2 rfl) ?_
          obtain ⟨hk0, hk⟩ := hk
          refine va_iald hx hb hK hP 5 0 rfl rfl hk0 d_Mo_chain_41 ?_
          refine lv_iconst (v := 5) hx hb d_Mo_chain_42 (by decide) ?_
          refine lv_icmp_ne (tgt := 71) hx hb d_Mo_chain_43 (by decide) (fun hc => ?_) (fun hc => ?_)
          · have hv := hv.trans (if_neg hc)
            have hk := hk.2 hc
            exact B71 _ _ _ 17185 σ hv hk (lv_sub hl [1, 0] rfl) hP hD hS
          · have hv := hv.trans (if_pos hc)
            have hk := hk.1 hc
            refine lv_aload_n hx hb d_Mo_chain_46 rfl (lv_at hl 1 rfl) ?_
            refine va_get (v := .ref (h 5)) (C := R_Mo) (T := T_Mo) (N := 51) hx hb hg in_Mo hown hK hP 0 rfl rfl 10 (by decide) (hg _ m_1269) (fun _ h9 => h9) rfl d_Mo_chain_47 ?_
            refine lv_iload_n hx hb d_Mo_chain_50 rfl (lv_at hl 3 rfl) ?_
            obtain ⟨hk0, hk⟩ := hk
            refine va_iald hx hb hK hP 5 0 rfl rfl hk0 d_Mo_chain_51 ?_
            refine lv_iconst (v := 5) hx hb d_Mo_chain_52 (by decide) ?_
            refine lv_icmp_ne (tgt := 71) hx hb d_Mo_chain_53 (by decide) (fun hc => ?_) (fun hc => ?_)
            · have hv := hv.trans (if_neg hc)
              have hk := hk.2 hc
              exact B71 _ _ _ 17185 σ hv hk (lv_sub hl [1, 0] rfl) hP hD hS
            · have hv := hv.trans (if_pos hc)
              have hk := hk.1 hc
              refine lv_aload_n hx hb d_Mo_chain_56 rfl (lv_at hl 1 rfl) ?_
              refine va_get (v := .ref (h 9)) (C := R_Mo) (T := T_Mo) (N := 51) hx hb hg in_Mo hown hK hP 0 rfl rfl 14 (by decide) (hg _ m_1273) (fun _ h9 => h9) rfl d_Mo_chain_57 ?_
              refine lv_iload_n hx hb d_Mo_chain_60 rfl (lv_at hl 2 rfl) ?_
              obtain ⟨hk0, hk⟩ := hk
              refine va_iald hx hb hK hP 9 0 rfl rfl hk0 d_Mo_chain_61 ?_
              refine lv_aload_n hx hb d_Mo_chain_62 rfl (lv_at hl 1 rfl) ?_
              refine va_get (v := .ref (h 8)) (C := R_Mo) (T := T_Mo) (N := 51) hx hb hg in_Mo hown hK hP 0 rfl rfl 13 (by decide) (hg _ m_1272) (fun _ h9 => h9) rfl d_Mo_chain_63 ?_
              refine lv_iload_n hx hb d_Mo_chain_66 rfl (lv_at hl 3 rfl) ?_
              obtain ⟨hk0, hk⟩ := hk
              refine va_iald hx hb hK hP 8 0 rfl rfl hk0 d_Mo_chain_67 ?_
              refine lv_icmp_eq (tgt := 78) hx hb d_Mo_chain_68 (by decide) (fun hc => ?_) (fun hc => ?_)
              · have hv := hv.trans (if_pos hc)
                have hk := hk.1 hc
                refine lv_aload_n hx hb d_Mo_chain_78 rfl (lv_at hl 1 rfl) ?_
                refine lv_iload_n hx hb d_Mo_chain_79 rfl (lv_at hl 2 rfl) ?_
                refine lv_iconst (v := 0) hx hb d_Mo_chain_80 (by decide) ?_
                obtain ⟨hk0, hk⟩ := hk
                refine va_callv (va_runV (As := [.int x1, .int 0]) (rest := []) ⟨hx, hb, hml, hown, hg⟩ (c_Mo_joinAs l D ty h px sa σ H.size x1 0 hk0) ⟨callB_of 2 hg (gw_C m_1559) rfl rfl rfl (hg _ m_13) (hg _ m_1556) hd_Mo_joinAs ⟨Nat.le_of_ble_eq_true rfl, Nat.le_of_ble_eq_true rfl⟩, hg _ m_1558, hg _ ms_71⟩ (zz_preVW hM hS hA hN hK hP hD 0 rfl rfl) rfl rfl hl.1 rfl (lv_room (Nat.le_of_ble_eq_true rfl)) d_Mo_chain_81 ⟨Nat.le_of_ble_eq_true rfl, Nat.le_of_ble_eq_true rfl⟩) hS (fun q _ h => zz_free hD hS hA q h) (zz_free hD hS hA) (fun u81 t H locs ht hvm hp hP1 hz hk1 hS => ?_)
                rw [ht] at hP1
                rw [← hp] at hv hk
                have hD : va_D A (Wm ty h u81 px) := zz_D hD rfl
                have hP := hP1
                exact B84 _ _ _ x1 x2 17185 u81 hv hk (lv_sub hl [1, 2, 3, 0] rfl) hP hD hS
              · have hv := hv.trans (if_neg hc)
                have hk := hk.2 hc
                exact B71 _ _ _ 17185 σ hv hk (lv_sub hl [1, 0] rfl) hP hD hS
        · have hv := hv.trans (if_pos hc)
          have hk := hk.1 hc
          exact B29 _ _ _ 17185 σ hv hk (lv_sub hl [1, 0] rfl) hP hD hS
    · have hv := hv.trans (if_neg hc)
      have hk := hk.2 hc
      refine lv_iconst (v := -1) hx hb d_Mo_chain_7 (by decide) ?_
      exact W.iret hx hb hr (fun t ht hW => ⟨⟨_, _, rfl, hv.symm, by dsimp only; rw [ht]; exact hP⟩, hS.F ht⟩) hS.2.2 d_Mo_chain_8
  unfold f_Mo_chain at hv
  unfold k_Mo_chain at hk
  refine lv_aload_n hx hb d_Mo_chain_0 rfl (lv_at hl 0 rfl) ?_
  obtain ⟨hk0, hk⟩ := hk
  refine va_calli (va_runV (As := []) (rest := []) ⟨hx, hb, hml, hown, hg⟩ (c_Mo_begin l D ty h px sa σ s.heap.size  hk0) ⟨callB_of 0 hg (gw_C m_1443) rfl rfl rfl (hg _ m_13) (hg _ m_1440) hd_Mo_begin ⟨Nat.le_of_ble_eq_true rfl, Nat.le_of_ble_eq_true rfl⟩, hg _ m_1442, hg _ ms_49⟩ (zz_preVW hM hS hA hN hK hP hD 0 rfl rfl) rfl rfl hl.1 rfl (lv_room (Nat.le_of_ble_eq_true rfl)) d_Mo_chain_1 ⟨Nat.le_of_ble_eq_true rfl, Nat.le_of_ble_eq_true rfl⟩) hS (fun q _ h => zz_free hD hS hA q h) (zz_free hD hS hA) (fun r1 u1 t H locs ht hvm hp hP1 hz hk1 hS => ?_)
  rw [ht] at hP1
  rw [← hp] at hv hk
  have hD : va_D A (Wm ty h u1 px) := zz_D hD rfl
  have hP := hP1
  exact B4 _ _ _ a1 a2 r1 u1 hv hk (lv_sub hl [0, 1, 2] rfl) hP hD hS

-- ClauseLedgerModel.turn(I)I
abbrev b_Mo_turn : ByteArray := prog_14_method_41_code
def y_Mo_turn : MethodName := ⟨"ClauseLedgerModel", "turn", "(I)I"⟩
theorem hd_Mo_turn : y_Mo_turn.cls ≠ "java/lang/invoke/MethodHandle" ∧ y_Mo_turn.cls ≠ "java/lang/invoke/VarHandle" ∧ (parseMethodDescriptor y_Mo_turn.desc).map (fun d => d.parameters.length) = some 1 := by decide +kernel
theorem d_Mo_turn_0 : decode b_Mo_turn 0 = .ok (.aload_n 0, 1) := by decide +kernel
theorem d_Mo_turn_1 : decode b_Mo_turn 1 = .ok (.invokevirtual 201, 3) := by decide +kernel
theorem d_Mo_turn_4 : decode b_Mo_turn 4 = .ok (.ifCond .eq 5, 3) := by decide +kernel
theorem d_Mo_turn_7 : decode b_Mo_turn 7 = .ok (.iconst (-1), 1) := by decide +kernel
theorem d_Mo_turn_8 : decode b_Mo_turn 8 = .ok (.ireturn, 1) := by decide +kernel
theorem d_Mo_turn_9 : decode b_Mo_turn 9 = .ok (.sipush 17185, 3) := by decide +kernel
theorem d_Mo_turn_12 : decode b_Mo_turn 12 = .ok (.istore_n 2, 1) := by decide +kernel
theorem d_Mo_turn_13 : decode b_Mo_turn 13 = .ok (.aload_n 0, 1) := by decide +kernel
theorem d_Mo_turn_14 : decode b_Mo_turn 14 = .ok (.iload_n 1, 1) := by decide +kernel
theorem d_Mo_turn_15 : decode b_Mo_turn 15 = .ok (.invokevirtual 207, 3) := by decide +kernel
theorem d_Mo_turn_18 : decode b_Mo_turn 18 = .ok (.ifCond .ne 10, 3) := by decide +kernel
theorem d_Mo_turn_21 : decode b_Mo_turn 21 = .ok (.aload_n 0, 1) := by decide +kernel
theorem d_Mo_turn_22 : decode b_Mo_turn 22 = .ok (.iconst 1, 1) := by decide +kernel
theorem d_Mo_turn_23 : decode b_Mo_turn 23 = .ok (.iload_n 2, 1) := by decide +kernel
theorem d_Mo_turn_24 : decode b_Mo_turn 24 = .ok (.invokevirtual 133, 3) := by decide +kernel
theorem d_Mo_turn_27 : decode b_Mo_turn 27 = .ok (.ireturn, 1) := by decide +kernel
theorem d_Mo_turn_28 : decode b_Mo_turn 28 = .ok (.aload_n 0, 1) := by decide +kernel
theorem d_Mo_turn_29 : decode b_Mo_turn 29 = .ok (.getfield 26, 3) := by decide +kernel
theorem d_Mo_turn_32 : decode b_Mo_turn 32 = .ok (.iload_n 1, 1) := by decide +kernel
theorem d_Mo_turn_33 : decode b_Mo_turn 33 = .ok (.iaload, 1) := by decide +kernel
theorem d_Mo_turn_34 : decode b_Mo_turn 34 = .ok (.iconst 5, 1) := by decide +kernel
theorem d_Mo_turn_35 : decode b_Mo_turn 35 = .ok (.if_icmp .eq 10, 3) := by decide +kernel
theorem d_Mo_turn_38 : decode b_Mo_turn 38 = .ok (.aload_n 0, 1) := by decide +kernel
theorem d_Mo_turn_39 : decode b_Mo_turn 39 = .ok (.iconst 2, 1) := by decide +kernel
theorem d_Mo_turn_40 : decode b_Mo_turn 40 = .ok (.iload_n 2, 1) := by decide +kernel
theorem d_Mo_turn_41 : decode b_Mo_turn 41 = .ok (.invokevirtual 133, 3) := by decide +kernel
theorem d_Mo_turn_44 : decode b_Mo_turn 44 = .ok (.ireturn, 1) := by decide +kernel
theorem d_Mo_turn_45 : decode b_Mo_turn 45 = .ok (.aload_n 0, 1) := by decide +kernel
theorem d_Mo_turn_46 : decode b_Mo_turn 46 = .ok (.iload_n 1, 1) := by decide +kernel
theorem d_Mo_turn_47 : decode b_Mo_turn 47 = .ok (.iconst 0, 1) := by decide +kernel
theorem d_Mo_turn_48 : decode b_Mo_turn 48 = .ok (.invokevirtual 233, 3) := by decide +kernel
theorem d_Mo_turn_51 : decode b_Mo_turn 51 = .ok (.aload_n 0, 1) := by decide +kernel
theorem d_Mo_turn_52 : decode b_Mo_turn 52 = .ok (.aload_n 0, 1) := by decide +kernel
theorem d_Mo_turn_53 : decode b_Mo_turn 53 = .ok (.iconst 5, 1) := by decide +kernel
theorem d_Mo_turn_54 : decode b_Mo_turn 54 = .ok (.aload_n 0, 1) := by decide +kernel
theorem d_Mo_turn_55 : decode b_Mo_turn 55 = .ok (.getfield 38, 3) := by decide +kernel
theorem d_Mo_turn_58 : decode b_Mo_turn 58 = .ok (.iload_n 1, 1) := by decide +kernel
theorem d_Mo_turn_59 : decode b_Mo_turn 59 = .ok (.iaload, 1) := by decide +kernel
theorem d_Mo_turn_60 : decode b_Mo_turn 60 = .ok (.aload_n 0, 1) := by decide +kernel
theorem d_Mo_turn_61 : decode b_Mo_turn 61 = .ok (.getfield 35, 3) := by decide +kernel
theorem d_Mo_turn_64 : decode b_Mo_turn 64 = .ok (.iload_n 1, 1) := by decide +kernel
theorem d_Mo_turn_65 : decode b_Mo_turn 65 = .ok (.iaload, 1) := by decide +kernel
theorem d_Mo_turn_66 : decode b_Mo_turn 66 = .ok (.invokevirtual 116, 3) := by decide +kernel
theorem d_Mo_turn_69 : decode b_Mo_turn 69 = .ok (.invokevirtual 210, 3) := by decide +kernel
theorem d_Mo_turn_72 : decode b_Mo_turn 72 = .ok (.aload_n 0, 1) := by decide +kernel
theorem d_Mo_turn_73 : decode b_Mo_turn 73 = .ok (.aload_n 0, 1) := by decide +kernel
theorem d_Mo_turn_74 : decode b_Mo_turn 74 = .ok (.getfield 214, 3) := by decide +kernel
theorem d_Mo_turn_77 : decode b_Mo_turn 77 = .ok (.iload_n 2, 1) := by decide +kernel
theorem d_Mo_turn_78 : decode b_Mo_turn 78 = .ok (.invokevirtual 217, 3) := by decide +kernel
theorem d_Mo_turn_81 : decode b_Mo_turn 81 = .ok (.ireturn, 1) := by decide +kernel
def f_Mo_turn_27 (s0 : Int32) (σ : St) : Int32 × St := (s0, σ)
def k_Mo_turn_27 (s0 : Int32) (σ : St) : Prop := True
def f_Mo_turn_44 (s0 : Int32) (σ : St) : Int32 × St := (s0, σ)
def k_Mo_turn_44 (s0 : Int32) (σ : St) : Prop := True
def f_Mo_turn_81 (s0 : Int32) (σ : St) : Int32 × St := (s0, σ)
def k_Mo_turn_81 (s0 : Int32) (σ : St) : Prop := True
def f_Mo_turn_72 (x2 : Int32) (σ : St) : Int32 × St := f_Mo_turn_81 ((f_Mo_enter (σ.1 0 25) x2 σ).1) ((f_Mo_enter (σ.1 0 25) x2 σ).2)
def k_Mo_turn_72 (x2 : Int32) (σ : St) : Prop := (k_Mo_enter (σ.1 0 25) x2 σ) ∧ (k_Mo_turn_81 ((f_Mo_enter (σ.1 0 25) x2 σ).1) ((f_Mo_enter (σ.1 0 25) x2 σ).2))
def f_Mo_turn_69 (x2 : Int32) (s0 : Int32) (σ : St) : Int32 × St := f_Mo_turn_72 x2 (f_Mo_join s0 σ)
def k_Mo_turn_69 (x2 : Int32) (s0 : Int32) (σ : St) : Prop := (k_Mo_join s0 σ) ∧ (k_Mo_turn_72 x2 (f_Mo_join s0 σ))
def f_Mo_turn_51 (x1 : Int32) (x2 : Int32) (σ : St) : Int32 × St := f_Mo_turn_69 x2 ((f_Mo_made 5 (σ.1 9 x1.toNatClampNeg) (σ.1 8 x1.toNatClampNeg) σ).1) ((f_Mo_made 5 (σ.1 9 x1.toNatClampNeg) (σ.1 8 x1.toNatClampNeg) σ).2)
def k_Mo_turn_51 (x1 : Int32) (x2 : Int32) (σ : St) : Prop := vp_in x1 400 ∧ (vp_in x1 400 ∧ ((k_Mo_made 5 (σ.1 9 x1.toNatClampNeg) (σ.1 8 x1.toNatClampNeg) σ) ∧ (k_Mo_turn_69 x2 ((f_Mo_made 5 (σ.1 9 x1.toNatClampNeg) (σ.1 8 x1.toNatClampNeg) σ).1) ((f_Mo_made 5 (σ.1 9 x1.toNatClampNeg) (σ.1 8 x1.toNatClampNeg) σ).2))))
def f_Mo_turn_4 (x1 : Int32) (s0 : Int32) (σ : St) : Int32 × St := if s0 = 0 then (if (f_Mo_isTerm x1 σ) = 0 then (f_Mo_turn_27 ((f_Mo_fails 1 17185 σ).1) ((f_Mo_fails 1 17185 σ).2)) else (if (σ.1 5 x1.toNatClampNeg) = 5 then (f_Mo_turn_51 x1 17185 (f_Mo_joinAs x1 0 σ)) else (f_Mo_turn_44 ((f_Mo_fails 2 17185 σ).1) ((f_Mo_fails 2 17185 σ).2)))) else ((-1), σ)
def k_Mo_turn_4 (x1 : Int32) (s0 : Int32) (σ : St) : Prop := (s0 = 0 → ((k_Mo_isTerm x1 σ) ∧ (((f_Mo_isTerm x1 σ) = 0 → ((k_Mo_fails 1 17185 σ) ∧ (k_Mo_turn_27 ((f_Mo_fails 1 17185 σ).1) ((f_Mo_fails 1 17185 σ).2)))) ∧ (¬ (f_Mo_isTerm x1 σ) = 0 → (vp_in x1 400 ∧ (((σ.1 5 x1.toNatClampNeg) = 5 → ((k_Mo_joinAs x1 0 σ) ∧ (k_Mo_turn_51 x1 17185 (f_Mo_joinAs x1 0 σ)))) ∧ (¬ (σ.1 5 x1.toNatClampNeg) = 5 → ((k_Mo_fails 2 17185 σ) ∧ (k_Mo_turn_44 ((f_Mo_fails 2 17185 σ).1) ((f_Mo_fails 2 17185 σ).2)))))))))) ∧ (¬ s0 = 0 → True)
def f_Mo_turn (a1 : Int32) (σ : St) : Int32 × St := f_Mo_turn_4 a1 ((f_Mo_begin σ).1) ((f_Mo_begin σ).2)
def k_Mo_turn (a1 : Int32) (σ : St) : Prop := (k_Mo_begin σ) ∧ (k_Mo_turn_4 a1 ((f_Mo_begin σ).1) ((f_Mo_begin σ).2))
abbrev w_Mo_turn : List Cond := Cond.code y_Mo_turn b_Mo_turn 3 (some .int) :: gw
abbrev rm_Mo_turn : Room := { frames := 4, cells := 0, slots := 0, locals := 96 }
set_option maxHeartbeats 4000000 in
set_option maxRecDepth 100000 in
theorem c_Mo_turn (l : Launch) (D : va_G) (ty : Nat → ClassId) (h : Nat → Nat) (px : va_W) (sa : Nat → Nat) (σ : St) (sz : Nat) (a1 : Int32) (hk : k_Mo_turn a1 σ) : Met l y_Mo_turn w_Mo_turn rm_Mo_turn (va_Pc [.ref (h 0), .int a1] (fun U => U.heap.size = sz ∧ va_P D classes (Wm ty h σ px) U.heap ∧ va_K D classes (Ta ty) U ∧ NW U ∧ MK sa (va_A (Wm ty h σ px) sz) U U.heap ∧ va_D (fun _ => True) (Wm ty h σ px))) (va_Qi (fun r (u : St) => (r, u) = f_Mo_turn a1 σ) (fun u t => va_P D classes (Wm ty h u px) t.heap) (va_A (Wm ty h σ px) sz)) 0 0 (va_A (Wm ty h σ px) sz) := by
  refine Met.ofW (cc := b_Mo_turn) (maxL := 3) (ret := (some .int)) (by decide) rfl ?_
  intro p e s m args below meth c s₁ B hml hv
  obtain ⟨ha, hsz, hP, hK, hN, hM, hD0⟩ := hv
  have hx := B.exec
  have hb := B.bytes
  have hr := B.returns
  have hg : ∀ w ∈ gw, w.before args s = true := fun w h9 => atoms_spec (ws := w_Mo_turn) B.pre w (List.mem_cons_of_mem _ h9)
  have hown : s.vm.findClass "ClauseLedgerModel" = some m.cls := findClass_of_methodNamed B.named
  have hlocks := B.notSynchronized
  subst hsz
  have hD := hD0.self (sz := s.heap.size)
  generalize hAe : va_A (Wm ty h σ px) s.heap.size = A at hD hM ⊢
  have hA : ∀ q : Nat, s.heap.size ≤ q → A q := fun q h9 => by rw [← hAe]; exact Or.inr h9
  have hS : va_S A s.heap s.heap [] := va_S.rf
  have he : entryFrame m args 3 = entryFrame m ([.ref (h 0), .int a1] : List Value).toArray 3 := by rw [ha]
  rw [he, lg_entry_eq]
  have hl := lv_entry ([.ref (h 0), .int a1]) (n := 3) (Nat.le_of_ble_eq_true rfl)
  generalize (lg_sl ([.ref (h 0), .int a1]) ++ List.replicate (3 - (lg_sl ([.ref (h 0), .int a1])).length) Slot.unset).toArray = ls at hl ⊢
  have hl : lv_has ls 3 [(0, .ref (h 0)), (1, .int a1)] := hl
  generalize hv : f_Mo_turn a1 σ = v
  replace hv := hv.symm
  have B27 : ∀ (H : Heap) (locs : List Loc) (ls : Array Slot) (s0 : Int32) (σ : St), v = f_Mo_turn_27 s0 σ → k_Mo_turn_27 s0 σ → lv_has ls 3 [] → va_P D classes (Wm ty h σ px) H → va_D A (Wm ty h σ px) → va_S A s.heap H locs → W p l e (headSpec w_Mo_turn rm_Mo_turn).room s m args below meth c H locs 0 0 (MQ below (va_Qi (fun r (u : St) => (r, u) = v) (fun u t => va_P D classes (Wm ty h u px) t.heap) A) args s 0 0 A) (F0 m 27 ls [.int s0]) := by
    intro H locs ls s0 σ hv hk hl hP hD hS
    unfold f_Mo_turn_27 at hv
    unfold k_Mo_turn_27 at hk
    exact W.iret hx hb hr (fun t ht hW => ⟨⟨_, _, rfl, hv.symm, by dsimp only; rw [ht]; exact hP⟩, hS.F ht⟩) hS.2.2 d_Mo_turn_27
  have B44 : ∀ (H : Heap) (locs : List Loc) (ls : Array Slot) (s0 : Int32) (σ : St), v = f_Mo_turn_44 s0 σ → k_Mo_turn_44 s0 σ → lv_has ls 3 [] → va_P D classes (Wm ty h σ px) H → va_D A (Wm ty h σ px) → va_S A s.heap H locs → W p l e (headSpec w_Mo_turn rm_Mo_turn).room s m args below meth c H locs 0 0 (MQ below (va_Qi (fun r (u : St) => (r, u) = v) (fun u t => va_P D classes (Wm ty h u px) t.heap) A) args s 0 0 A) (F0 m 44 ls [.int s0]) := by
    intro H locs ls s0 σ hv hk hl hP hD hS
    unfold f_Mo_turn_44 at hv
    unfold k_Mo_turn_44 at hk
    exact W.iret hx hb hr (fun t ht hW => ⟨⟨_, _, rfl, hv.symm, by dsimp only; rw [ht]; exact hP⟩, hS.F ht⟩) hS.2.2 d_Mo_turn_44
  have B81 : ∀ (H : Heap) (locs : List Loc) (ls : Array Slot) (s0 : Int32) (σ : St), v = f_Mo_turn_81 s0 σ → k_Mo_turn_81 s0 σ → lv_has ls 3 [] → va_P D classes (Wm ty h σ px) H → va_D A (Wm ty h σ px) → va_S A s.heap H locs → W p l e (headSpec w_Mo_turn rm_Mo_turn).room s m args below meth c H locs 0 0 (MQ below (va_Qi (fun r (u : St) => (r, u) = v) (fun u t => va_P D classes (Wm ty h u px) t.heap) A) args s 0 0 A) (F0 m 81 ls [.int s0]) := by
    intro H locs ls s0 σ hv hk hl hP hD hS
    unfold f_Mo_turn_81 at hv
    unfold k_Mo_turn_81 at hk
    exact W.iret hx hb hr (fun t ht hW => ⟨⟨_, _, rfl, hv.symm, by dsimp only; rw [ht]; exact hP⟩, hS.F ht⟩) hS.2.2 d_Mo_turn_81
  have B72 : ∀ (H : Heap) (locs : List Loc) (ls : Array Slot) (x2 : Int32) (σ : St), v = f_Mo_turn_72 x2 σ → k_Mo_turn_72 x2 σ → lv_has ls 3 [(0, .ref (h 0)), (2, .int x2)] → va_P D classes (Wm ty h σ px) H → va_D A (Wm ty h σ px) → va_S A s.heap H locs → W p l e (headSpec w_Mo_turn rm_Mo_turn).room s m args below meth c H locs 0 0 (MQ below (va_Qi (fun r (u : St) => (r, u) = v) (fun u t => va_P D classes (Wm ty h u px) t.heap) A) args s 0 0 A) (F0 m 72 ls []) := by
    intro H locs ls x2 σ hv hk hl hP hD hS
    unfold f_Mo_turn_72 at hv
    unfold k_Mo_turn_72 at hk
    refine lv_aload_n hx hb d_Mo_turn_72 rfl (lv_at hl 0 rfl) ?_
    refine lv_aload_n hx hb d_Mo_turn_73 rfl (lv_at hl 0 rfl) ?_
    refine va_get (v := .int (σ.1 0 25)) (C := R_Mo) (T := T_Mo) (N := 51) hx hb hg in_Mo hown hK hP 0 rfl rfl 25 (by decide) (hg _ m_1284) (fun _ h9 => h9) rfl d_Mo_turn_74 ?_
    refine lv_iload_n hx hb d_Mo_turn_77 rfl (lv_at hl 1 rfl) ?_
    obtain ⟨hk0, hk⟩ := hk
    refine va_calli (va_runV (As := [.int (σ.1 0 25), .int x2]) (rest := []) ⟨hx, hb, hml, hown, hg⟩ (c_Mo_enter l D ty h px sa σ H.size (σ.1 0 25) x2 hk0) ⟨callB_of 2 hg (gw_C m_1527) rfl rfl rfl (hg _ m_13) (hg _ m_1524) hd_Mo_enter ⟨Nat.le_of_ble_eq_true rfl, Nat.le_of_ble_eq_true rfl⟩, hg _ m_1526, hg _ ms_66⟩ (zz_preVW hM hS hA hN hK hP hD 0 rfl rfl) rfl rfl hl.1 rfl (lv_room (Nat.le_of_ble_eq_true rfl)) d_Mo_turn_78 ⟨Nat.le_of_ble_eq_true rfl, Nat.le_of_ble_eq_true rfl⟩) hS (fun q _ h => zz_free hD hS hA q h) (zz_free hD hS hA) (fun r78 u78 t H locs ht hvm hp hP1 hz hk1 hS => ?_)
    rw [ht] at hP1
    rw [← hp] at hv hk
    have hD : va_D A (Wm ty h u78 px) := zz_D hD rfl
    have hP := hP1
    exact B81 _ _ _ r78 u78 hv hk (lv_sub hl [] rfl) hP hD hS
  have B69 : ∀ (H : Heap) (locs : List Loc) (ls : Array Slot) (x2 : Int32) (s0 : Int32) (σ : St), v = f_Mo_turn_69 x2 s0 σ → k_Mo_turn_69 x2 s0 σ → lv_has ls 3 [(0, .ref (h 0)), (2, .int x2)] → va_P D classes (Wm ty h σ px) H → va_D A (Wm ty h σ px) → va_S A s.heap H locs → W p l e (headSpec w_Mo_turn rm_Mo_turn).room s m args below meth c H locs 0 0 (MQ below (va_Qi (fun r (u : St) => (r, u) = v) (fun u t => va_P D classes (Wm ty h u px) t.heap) A) args s 0 0 A) (F0 m 69 ls [.int s0, .ref (h 0)]) := by
    intro H locs ls x2 s0 σ hv hk hl hP hD hS
    unfold f_Mo_turn_69 at hv
    unfold k_Mo_turn_69 at hk
    obtain ⟨hk0, hk⟩ := hk
    refine va_callv (va_runV (As := [.int s0]) (rest := []) ⟨hx, hb, hml, hown, hg⟩ (c_Mo_join l D ty h px sa σ H.size s0 hk0) ⟨callB_of 1 hg (gw_C m_1523) rfl rfl rfl (hg _ m_13) (hg _ m_1520) hd_Mo_join ⟨Nat.le_of_ble_eq_true rfl, Nat.le_of_ble_eq_true rfl⟩, hg _ m_1522, hg _ ms_65⟩ (zz_preVW hM hS hA hN hK hP hD 0 rfl rfl) rfl rfl hl.1 rfl (lv_room (Nat.le_of_ble_eq_true rfl)) d_Mo_turn_69 ⟨Nat.le_of_ble_eq_true rfl, Nat.le_of_ble_eq_true rfl⟩) hS (fun q _ h => zz_free hD hS hA q h) (zz_free hD hS hA) (fun u69 t H locs ht hvm hp hP1 hz hk1 hS => ?_)
    rw [ht] at hP1
    rw [← hp] at hv hk
    have hD : va_D A (Wm ty h u69 px) := zz_D hD rfl
    have hP := hP1
    exact B72 _ _ _ x2 u69 hv hk (lv_sub hl [0, 1] rfl) hP hD hS
  have B51 : ∀ (H : Heap) (locs : List Loc) (ls : Array Slot) (x1 : Int32) (x2 : Int32) (σ : St), v = f_Mo_turn_51 x1 x2 σ → k_Mo_turn_51 x1 x2 σ → lv_has ls 3 [(0, .ref (h 0)), (1, .int x1), (2, .int x2)] → va_P D classes (Wm ty h σ px) H → va_D A (Wm ty h σ px) → va_S A s.heap H locs → W p l e (headSpec w_Mo_turn rm_Mo_turn).room s m args below meth c H locs 0 0 (MQ below (va_Qi (fun r (u : St) => (r, u) = v) (fun u t => va_P D classes (Wm ty h u px) t.heap) A) args s 0 0 A) (F0 m 51 ls []) := by
    intro H locs ls x1 x2 σ hv hk hl hP hD hS
    unfold f_Mo_turn_51 at hv
    unfold k_Mo_turn_51 at hk
    refine lv_aload_n hx hb d_Mo_turn_51 rfl (lv_at hl 0 rfl) ?_
    refine lv_aload_n hx hb d_Mo_turn_52 rfl (lv_at hl 0 rfl) ?_
    refine lv_iconst (v := 5) hx hb d_Mo_turn_53 (by decide) ?_
    refine lv_aload_n hx hb d_Mo_turn_54 rfl (lv_at hl 0 rfl) ?_
    refine va_get (v := .ref (h 9)) (C := R_Mo) (T := T_Mo) (N := 51) hx hb hg in_Mo hown hK hP 0 rfl rfl 14 (by decide) (hg _ m_1273) (fun _ h9 => h9) rfl d_Mo_turn_55 ?_
    refine lv_iload_n hx hb d_Mo_turn_58 rfl (lv_at hl 1 rfl) ?_
    obtain ⟨hk0, hk⟩ := hk
    refine va_iald hx hb hK hP 9 0 rfl rfl hk0 d_Mo_turn_59 ?_
    refine lv_aload_n hx hb d_Mo_turn_60 rfl (lv_at hl 0 rfl) ?_
    refine va_get (v := .ref (h 8)) (C := R_Mo) (T := T_Mo) (N := 51) hx hb hg in_Mo hown hK hP 0 rfl rfl 13 (by decide) (hg _ m_1272) (fun _ h9 => h9) rfl d_Mo_turn_61 ?_
    refine lv_iload_n hx hb d_Mo_turn_64 rfl (lv_at hl 1 rfl) ?_
    obtain ⟨hk0, hk⟩ := hk
    refine va_iald hx hb hK hP 8 0 rfl rfl hk0 d_Mo_turn_65 ?_
    obtain ⟨hk0, hk⟩ := hk
    refine va_calli (va_runV (As := [.int 5, .int (σ.1 9 x1.toNatClampNeg), .int (σ.1 8 x1.toNatClampNeg)]) (rest := [.ref (h 0)]) ⟨hx, hb, hml, hown, hg⟩ (c_Mo_made l D ty h px sa σ H.size 5 (σ.1 9 x1.toNatClampNeg) (σ.1 8 x1.toNatClampNeg) hk0) ⟨callB_of 3 hg (gw_C m_1503) rfl rfl rfl (hg _ m_13) (hg _ m_1500) hd_Mo_made ⟨Nat.le_of_ble_eq_true rfl, Nat.le_of_ble_eq_true rfl⟩, hg _ m_1502, hg _ ms_61⟩ (zz_preVW hM hS hA hN hK hP hD 0 rfl rfl) rfl rfl hl.1 rfl (lv_room (Nat.le_of_ble_eq_true rfl)) d_Mo_turn_66 ⟨Nat.le_of_ble_eq_true rfl, Nat.le_of_ble_eq_true rfl⟩) hS (fun q _ h => zz_free hD hS hA q h) (zz_free hD hS hA) (fun r66 u66 t H locs ht hvm hp hP1 hz hk1 hS => ?_)
    rw [ht] at hP1
    rw [← hp] at hv hk
    have hD : va_D A (Wm ty h u66 px) := zz_D hD rfl
    have hP := hP1
    exact B69 _ _ _ x2 r66 u66 hv hk (lv_sub hl [0, 2] rfl) hP hD hS
  have B4 : ∀ (H : Heap) (locs : List Loc) (ls : Array Slot) (x1 : Int32) (s0 : Int32) (σ : St), v = f_Mo_turn_4 x1 s0 σ → k_Mo_turn_4 x1 s0 σ → lv_has ls 3 [(0, .ref (h 0)), (1, .int x1)] → va_P D classes (Wm ty h σ px) H → va_D A (Wm ty h σ px) → va_S A s.heap H locs → W p l e (headSpec w_Mo_turn rm_Mo_turn).room s m args below meth c H locs 0 0 (MQ below (va_Qi (fun r (u : St) => (r, u) = v) (fun u t => va_P D classes (Wm ty h u px) t.heap) A) args s 0 0 A) (F0 m 4 ls [.int s0]) := by
    intro H locs ls x1 s0 σ hv hk hl hP hD hS
    unfold f_Mo_turn_4 at hv
    unfold k_Mo_turn_4 at hk
    refine lv_if_eq (tgt := 9) hx hb d_Mo_turn_4 (by decide) (fun hc => ?_) (fun hc => ?_)
    · have hv := hv.trans (if_pos hc)
      have hk := hk.1 hc
      refine lv_sipush (v := 17185) hx hb d_Mo_turn_9 (by decide) ?_
      refine lv_istore_n (lv' := [(2, .int 17185), (0, .ref (h 0)), (1, .int x1)]) hx hb d_Mo_turn_12 rfl hl (by decide) rfl (fun ls hl => ?_)
      refine lv_aload_n hx hb d_Mo_turn_13 rfl (lv_at hl 1 rfl) ?_
      refine lv_iload_n hx hb d_Mo_turn_14 rfl (lv_at hl 2 rfl) ?_
      obtain ⟨hk0, hk⟩ := hk
      refine zz_callV (va_runV (As := [.int x1]) (rest := []) ⟨hx, hb, hml, hown, hg⟩ (c_Mo_isTerm l D ty h px sa σ x1 hk0) ⟨callB_of 1 hg (gw_C m_1519) rfl rfl rfl (hg _ m_13) (hg _ m_1516) hd_Mo_isTerm ⟨Nat.le_of_ble_eq_true rfl, Nat.le_of_ble_eq_true rfl⟩, hg _ m_1518, hg _ ms_64⟩ (zz_preV (hM.at hS) hN hK hP 0 rfl rfl) rfl rfl hl.1 rfl (lv_room (Nat.le_of_ble_eq_true rfl)) d_Mo_turn_15 ⟨Nat.le_of_ble_eq_true rfl, Nat.le_of_ble_eq_true rfl⟩) ?_
      refine lv_if_ne (tgt := 28) hx hb d_Mo_turn_18 (by decide) (fun hc => ?_) (fun hc => ?_)
      · have hv := hv.trans (if_neg hc)
        have hk := hk.2 hc
        refine lv_aload_n hx hb d_Mo_turn_28 rfl (lv_at hl 1 rfl) ?_
        refine va_get (v := .ref (h 5)) (C := R_Mo) (T := T_Mo) (N := 51) hx hb hg in_Mo hown hK hP 0 rfl rfl 10 (by decide) (hg _ m_1269) (fun _ h9 => h9) rfl d_Mo_turn_29 ?_
        refine lv_iload_n hx hb d_Mo_turn_32 rfl (lv_at hl 2 rfl) ?_
        obtain ⟨hk0, hk⟩ := hk
        refine va_iald hx hb hK hP 5 0 rfl rfl hk0 d_Mo_turn_33 ?_
        refine lv_iconst (v := 5) hx hb d_Mo_turn_34 (by decide) ?_
        refine lv_icmp_eq (tgt := 45) hx hb d_Mo_turn_35 (by decide) (fun hc => ?_) (fun hc => ?_)
        · have hv := hv.trans (if_pos hc)
          have hk := hk.1 hc
          refine lv_aload_n hx hb d_Mo_turn_45 rfl (lv_at hl 1 rfl) ?_
          refine lv_iload_n hx hb d_Mo_turn_46 rfl (lv_at hl 2 rfl) ?_
          refine lv_iconst (v := 0) hx hb d_Mo_turn_47 (by decide) ?_
          obtain ⟨hk0, hk⟩ := hk
          refine va_callv (va_runV (As := [.int x1, .int 0]) (rest := []) ⟨hx, hb, hml, hown, hg⟩ (c_Mo_joinAs l D ty h px sa σ H.size x1 0 hk0) ⟨callB_of 2 hg (gw_C m_1559) rfl rfl rfl (hg _ m_13) (hg _ m_1556) hd_Mo_joinAs ⟨Nat.le_of_ble_eq_true rfl, Nat.le_of_ble_eq_true rfl⟩, hg _ m_1558, hg _ ms_71⟩ (zz_preVW hM hS hA hN hK hP hD 0 rfl rfl) rfl rfl hl.1 rfl (lv_room (Nat.le_of_ble_eq_true rfl)) d_Mo_turn_48 ⟨Nat.le_of_ble_eq_true rfl, Nat.le_of_ble_eq_true rfl⟩) hS (fun q _ h => zz_free hD hS hA q h) (zz_free hD hS hA) (fun u48 t H locs ht hvm hp hP1 hz hk1 hS => ?_)
          rw [ht] at hP1
          rw [← hp] at hv hk
          have hD : va_D A (Wm ty h u48 px) := zz_D hD rfl
          have hP := hP1
          exact B51 _ _ _ x1 17185 u48 hv hk (lv_sub hl [1, 2, 0] rfl) hP hD hS
        · have hv := hv.trans (if_neg hc)
          have hk := hk.2 hc
          refine lv_aload_n hx hb d_Mo_turn_38 rfl (lv_at hl 1 rfl) ?_
          refine lv_iconst (v := 2) hx hb d_Mo_turn_39 (by decide) ?_
          refine lv_iload_n hx hb d_Mo_turn_40 rfl (lv_at hl 0 rfl) ?_
          obtain ⟨hk0, hk⟩ := hk
          refine va_calli (va_runV (As := [.int 2, .int 17185]) (rest := []) ⟨hx, hb, hml, hown, hg⟩ (c_Mo_fails l D ty h px sa σ H.size 2 17185 hk0) ⟨callB_of 2 hg (gw_C m_1507) rfl rfl rfl (hg _ m_13) (hg _ m_1504) hd_Mo_fails ⟨Nat.le_of_ble_eq_true rfl, Nat.le_of_ble_eq_true rfl⟩, hg _ m_1506, hg _ ms_62⟩ (zz_preVW hM hS hA hN hK hP hD 0 rfl rfl) rfl rfl hl.1 rfl (lv_room (Nat.le_of_ble_eq_true rfl)) d_Mo_turn_41 ⟨Nat.le_of_ble_eq_true rfl, Nat.le_of_ble_eq_true rfl⟩) hS (fun q _ h => zz_free hD hS hA q h) (zz_free hD hS hA) (fun r41 u41 t H locs ht hvm hp hP1 hz hk1 hS => ?_)
          rw [ht] at hP1
          rw [← hp] at hv hk
          have hD : va_D A (Wm ty h u41 px) := zz_D hD rfl
          have hP := hP1
          exact B44 _ _ _ r41 u41 hv hk (lv_sub hl [] rfl) hP hD hS
      · have hv := hv.trans (if_pos hc)
        have hk := hk.1 hc
        refine lv_aload_n hx hb d_Mo_turn_21 rfl (lv_at hl 1 rfl) ?_
        refine lv_iconst (v := 1) hx hb d_Mo_turn_22 (by decide) ?_
        refine lv_iload_n hx hb d_Mo_turn_23 rfl (lv_at hl 0 rfl) ?_
        obtain ⟨hk0, hk⟩ := hk
        refine va_calli (va_runV (As := [.int 1, .int 17185]) (rest := []) ⟨hx, hb, hml, hown, hg⟩ (c_Mo_fails l D ty h px sa σ H.size 1 17185 hk0) ⟨callB_of 2 hg (gw_C m_1507) rfl rfl rfl (hg _ m_13) (hg _ m_1504) hd_Mo_fails ⟨Nat.le_of_ble_eq_true rfl, Nat.le_of_ble_eq_true rfl⟩, hg _ m_1506, hg _ ms_62⟩ (zz_preVW hM hS hA hN hK hP hD 0 rfl rfl) rfl rfl hl.1 rfl (lv_room (Nat.le_of_ble_eq_true rfl)) d_Mo_turn_24 ⟨Nat.le_of_ble_eq_true rfl, Nat.le_of_ble_eq_true rfl⟩) hS (fun q _ h => zz_free hD hS hA q h) (zz_free hD hS hA) (fun r24 u24 t H locs ht hvm hp hP1 hz hk1 hS => ?_)
        rw [ht] at hP1
        rw [← hp] at hv hk
        have hD : va_D A (Wm ty h u24 px) := zz_D hD rfl
        have hP := hP1
        exact B27 _ _ _ r24 u24 hv hk (lv_sub hl [] rfl) hP hD hS
    · have hv := hv.trans (if_neg hc)
      have hk := hk.2 hc
      refine lv_iconst (v := -1) hx hb d_Mo_turn_7 (by decide) ?_
      exact W.iret hx hb hr (fun t ht hW => ⟨⟨_, _, rfl, hv.symm, by dsimp only; rw [ht]; exact hP⟩, hS.F ht⟩) hS.2.2 d_Mo_turn_8
  unfold f_Mo_turn at hv
  unfold k_Mo_turn at hk
  refine lv_aload_n hx hb d_Mo_turn_0 rfl (lv_at hl 0 rfl) ?_
  obtain ⟨hk0, hk⟩ := hk
  refine va_calli (va_runV (As := []) (rest := []) ⟨hx, hb, hml, hown, hg⟩ (c_Mo_begin l D ty h px sa σ s.heap.size  hk0) ⟨callB_of 0 hg (gw_C m_1443) rfl rfl rfl (hg _ m_13) (hg _ m_1440) hd_Mo_begin ⟨Nat.le_of_ble_eq_true rfl, Nat.le_of_ble_eq_true rfl⟩, hg _ m_1442, hg _ ms_49⟩ (zz_preVW hM hS hA hN hK hP hD 0 rfl rfl) rfl rfl hl.1 rfl (lv_room (Nat.le_of_ble_eq_true rfl)) d_Mo_turn_1 ⟨Nat.le_of_ble_eq_true rfl, Nat.le_of_ble_eq_true rfl⟩) hS (fun q _ h => zz_free hD hS hA q h) (zz_free hD hS hA) (fun r1 u1 t H locs ht hvm hp hP1 hz hk1 hS => ?_)
  rw [ht] at hP1
  rw [← hp] at hv hk
  have hD : va_D A (Wm ty h u1 px) := zz_D hD rfl
  have hP := hP1
  exact B4 _ _ _ a1 r1 u1 hv hk (lv_sub hl [0, 1] rfl) hP hD hS

-- ClauseLedgerModel.joinUnequal(II)V
abbrev b_Mo_joinUnequal : ByteArray := prog_14_method_42_code
def y_Mo_joinUnequal : MethodName := ⟨"ClauseLedgerModel", "joinUnequal", "(II)V"⟩
theorem hd_Mo_joinUnequal : y_Mo_joinUnequal.cls ≠ "java/lang/invoke/MethodHandle" ∧ y_Mo_joinUnequal.cls ≠ "java/lang/invoke/VarHandle" ∧ (parseMethodDescriptor y_Mo_joinUnequal.desc).map (fun d => d.parameters.length) = some 2 := by decide +kernel
theorem d_Mo_joinUnequal_0 : decode b_Mo_joinUnequal 0 = .ok (.iload_n 1, 1) := by decide +kernel
theorem d_Mo_joinUnequal_1 : decode b_Mo_joinUnequal 1 = .ok (.iload_n 2, 1) := by decide +kernel
theorem d_Mo_joinUnequal_2 : decode b_Mo_joinUnequal 2 = .ok (.if_icmp .ne 4, 3) := by decide +kernel
theorem d_Mo_joinUnequal_5 : decode b_Mo_joinUnequal 5 = .ok (.return_, 1) := by decide +kernel
theorem d_Mo_joinUnequal_6 : decode b_Mo_joinUnequal 6 = .ok (.aload_n 0, 1) := by decide +kernel
theorem d_Mo_joinUnequal_7 : decode b_Mo_joinUnequal 7 = .ok (.iconst 5, 1) := by decide +kernel
theorem d_Mo_joinUnequal_8 : decode b_Mo_joinUnequal 8 = .ok (.iload_n 1, 1) := by decide +kernel
theorem d_Mo_joinUnequal_9 : decode b_Mo_joinUnequal 9 = .ok (.iload_n 2, 1) := by decide +kernel
theorem d_Mo_joinUnequal_10 : decode b_Mo_joinUnequal 10 = .ok (.invokevirtual 116, 3) := by decide +kernel
theorem d_Mo_joinUnequal_13 : decode b_Mo_joinUnequal 13 = .ok (.istore_n 3, 1) := by decide +kernel
theorem d_Mo_joinUnequal_14 : decode b_Mo_joinUnequal 14 = .ok (.aload_n 0, 1) := by decide +kernel
theorem d_Mo_joinUnequal_15 : decode b_Mo_joinUnequal 15 = .ok (.iload_n 3, 1) := by decide +kernel
theorem d_Mo_joinUnequal_16 : decode b_Mo_joinUnequal 16 = .ok (.iconst 0, 1) := by decide +kernel
theorem d_Mo_joinUnequal_17 : decode b_Mo_joinUnequal 17 = .ok (.invokevirtual 233, 3) := by decide +kernel
theorem d_Mo_joinUnequal_20 : decode b_Mo_joinUnequal 20 = .ok (.return_, 1) := by decide +kernel
def f_Mo_joinUnequal_20 (σ : St) : St := σ
def k_Mo_joinUnequal_20 (σ : St) : Prop := True
def f_Mo_joinUnequal_13 (s0 : Int32) (σ : St) : St := f_Mo_joinUnequal_20 (f_Mo_joinAs s0 0 σ)
def k_Mo_joinUnequal_13 (s0 : Int32) (σ : St) : Prop := (k_Mo_joinAs s0 0 σ) ∧ (k_Mo_joinUnequal_20 (f_Mo_joinAs s0 0 σ))
def f_Mo_joinUnequal (a1 : Int32) (a2 : Int32) (σ : St) : St := if a1 = a2 then σ else (f_Mo_joinUnequal_13 ((f_Mo_made 5 a1 a2 σ).1) ((f_Mo_made 5 a1 a2 σ).2))
def k_Mo_joinUnequal (a1 : Int32) (a2 : Int32) (σ : St) : Prop := (a1 = a2 → True) ∧ (¬ a1 = a2 → ((k_Mo_made 5 a1 a2 σ) ∧ (k_Mo_joinUnequal_13 ((f_Mo_made 5 a1 a2 σ).1) ((f_Mo_made 5 a1 a2 σ).2))))
abbrev w_Mo_joinUnequal : List Cond := Cond.code y_Mo_joinUnequal b_Mo_joinUnequal 4 none :: gw
abbrev rm_Mo_joinUnequal : Room := { frames := 4, cells := 0, slots := 0, locals := 96 }
set_option maxHeartbeats 4000000 in
set_option maxRecDepth 100000 in
theorem c_Mo_joinUnequal (l : Launch) (D : va_G) (ty : Nat → ClassId) (h : Nat → Nat) (px : va_W) (sa : Nat → Nat) (σ : St) (sz : Nat) (a1 : Int32) (a2 : Int32) (hk : k_Mo_joinUnequal a1 a2 σ) : Met l y_Mo_joinUnequal w_Mo_joinUnequal rm_Mo_joinUnequal (va_Pc [.ref (h 0), .int a1, .int a2] (fun U => U.heap.size = sz ∧ va_P D classes (Wm ty h σ px) U.heap ∧ va_K D classes (Ta ty) U ∧ NW U ∧ MK sa (va_A (Wm ty h σ px) sz) U U.heap ∧ va_D (fun _ => True) (Wm ty h σ px))) (va_Qv (fun u : St => u = f_Mo_joinUnequal a1 a2 σ) (fun u t => va_P D classes (Wm ty h u px) t.heap) (va_A (Wm ty h σ px) sz)) 0 0 (va_A (Wm ty h σ px) sz) := by
  refine Met.ofW (cc := b_Mo_joinUnequal) (maxL := 4) (ret := none) (by decide) rfl ?_
  intro p e s m args below meth c s₁ B hml hv
  obtain ⟨ha, hsz, hP, hK, hN, hM, hD0⟩ := hv
  have hx := B.exec
  have hb := B.bytes
  have hr := B.returns
  have hg : ∀ w ∈ gw, w.before args s = true := fun w h9 => atoms_spec (ws := w_Mo_joinUnequal) B.pre w (List.mem_cons_of_mem _ h9)
  have hown : s.vm.findClass "ClauseLedgerModel" = some m.cls := findClass_of_methodNamed B.named
  have hlocks := B.notSynchronized
  subst hsz
  have hD := hD0.self (sz := s.heap.size)
  generalize hAe : va_A (Wm ty h σ px) s.heap.size = A at hD hM ⊢
  have hA : ∀ q : Nat, s.heap.size ≤ q → A q := fun q h9 => by rw [← hAe]; exact Or.inr h9
  have hS : va_S A s.heap s.heap [] := va_S.rf
  have he : entryFrame m args 4 = entryFrame m ([.ref (h 0), .int a1, .int a2] : List Value).toArray 4 := by rw [ha]
  rw [he, lg_entry_eq]
  have hl := lv_entry ([.ref (h 0), .int a1, .int a2]) (n := 4) (Nat.le_of_ble_eq_true rfl)
  generalize (lg_sl ([.ref (h 0), .int a1, .int a2]) ++ List.replicate (4 - (lg_sl ([.ref (h 0), .int a1, .int a2])).length) Slot.unset).toArray = ls at hl ⊢
  have hl : lv_has ls 4 [(0, .ref (h 0)), (1, .int a1), (2, .int a2)] := hl
  generalize hv : f_Mo_joinUnequal a1 a2 σ = v
  replace hv := hv.symm
  have B20 : ∀ (H : Heap) (locs : List Loc) (ls : Array Slot) (σ : St), v = f_Mo_joinUnequal_20 σ → k_Mo_joinUnequal_20 σ → lv_has ls 4 [] → va_P D classes (Wm ty h σ px) H → va_D A (Wm ty h σ px) → va_S A s.heap H locs → W p l e (headSpec w_Mo_joinUnequal rm_Mo_joinUnequal).room s m args below meth c H locs 0 0 (MQ below (va_Qv (fun u : St => u = v) (fun u t => va_P D classes (Wm ty h u px) t.heap) A) args s 0 0 A) (F0 m 20 ls []) := by
    intro H locs ls σ hv hk hl hP hD hS
    unfold f_Mo_joinUnequal_20 at hv
    unfold k_Mo_joinUnequal_20 at hk
    exact W.vret hx hb hr (fun t ht hW => ⟨⟨_, rfl, hv.symm, by dsimp only; rw [ht]; exact hP⟩, hS.F ht⟩) hS.2.2 d_Mo_joinUnequal_20
  have B13 : ∀ (H : Heap) (locs : List Loc) (ls : Array Slot) (s0 : Int32) (σ : St), v = f_Mo_joinUnequal_13 s0 σ → k_Mo_joinUnequal_13 s0 σ → lv_has ls 4 [(0, .ref (h 0))] → va_P D classes (Wm ty h σ px) H → va_D A (Wm ty h σ px) → va_S A s.heap H locs → W p l e (headSpec w_Mo_joinUnequal rm_Mo_joinUnequal).room s m args below meth c H locs 0 0 (MQ below (va_Qv (fun u : St => u = v) (fun u t => va_P D classes (Wm ty h u px) t.heap) A) args s 0 0 A) (F0 m 13 ls [.int s0]) := by
    intro H locs ls s0 σ hv hk hl hP hD hS
    unfold f_Mo_joinUnequal_13 at hv
    unfold k_Mo_joinUnequal_13 at hk
    refine lv_istore_n (lv' := [(3, .int s0), (0, .ref (h 0))]) hx hb d_Mo_joinUnequal_13 rfl hl (by decide) rfl (fun ls hl => ?_)
    refine lv_aload_n hx hb d_Mo_joinUnequal_14 rfl (lv_at hl 1 rfl) ?_
    refine lv_iload_n hx hb d_Mo_joinUnequal_15 rfl (lv_at hl 0 rfl) ?_
    refine lv_iconst (v := 0) hx hb d_Mo_joinUnequal_16 (by decide) ?_
    obtain ⟨hk0, hk⟩ := hk
    refine va_callv (va_runV (As := [.int s0, .int 0]) (rest := []) ⟨hx, hb, hml, hown, hg⟩ (c_Mo_joinAs l D ty h px sa σ H.size s0 0 hk0) ⟨callB_of 2 hg (gw_C m_1559) rfl rfl rfl (hg _ m_13) (hg _ m_1556) hd_Mo_joinAs ⟨Nat.le_of_ble_eq_true rfl, Nat.le_of_ble_eq_true rfl⟩, hg _ m_1558, hg _ ms_71⟩ (zz_preVW hM hS hA hN hK hP hD 0 rfl rfl) rfl rfl hl.1 rfl (lv_room (Nat.le_of_ble_eq_true rfl)) d_Mo_joinUnequal_17 ⟨Nat.le_of_ble_eq_true rfl, Nat.le_of_ble_eq_true rfl⟩) hS (fun q _ h => zz_free hD hS hA q h) (zz_free hD hS hA) (fun u17 t H locs ht hvm hp hP1 hz hk1 hS => ?_)
    rw [ht] at hP1
    rw [← hp] at hv hk
    have hD : va_D A (Wm ty h u17 px) := zz_D hD rfl
    have hP := hP1
    exact B20 _ _ _  u17 hv hk (lv_sub hl [] rfl) hP hD hS
  unfold f_Mo_joinUnequal at hv
  unfold k_Mo_joinUnequal at hk
  refine lv_iload_n hx hb d_Mo_joinUnequal_0 rfl (lv_at hl 1 rfl) ?_
  refine lv_iload_n hx hb d_Mo_joinUnequal_1 rfl (lv_at hl 2 rfl) ?_
  refine lv_icmp_ne (tgt := 6) hx hb d_Mo_joinUnequal_2 (by decide) (fun hc => ?_) (fun hc => ?_)
  · have hv := hv.trans (if_neg hc)
    have hk := hk.2 hc
    refine lv_aload_n hx hb d_Mo_joinUnequal_6 rfl (lv_at hl 0 rfl) ?_
    refine lv_iconst (v := 5) hx hb d_Mo_joinUnequal_7 (by decide) ?_
    refine lv_iload_n hx hb d_Mo_joinUnequal_8 rfl (lv_at hl 1 rfl) ?_
    refine lv_iload_n hx hb d_Mo_joinUnequal_9 rfl (lv_at hl 2 rfl) ?_
    obtain ⟨hk0, hk⟩ := hk
    refine va_calli (va_runV (As := [.int 5, .int a1, .int a2]) (rest := []) ⟨hx, hb, hml, hown, hg⟩ (c_Mo_made l D ty h px sa σ s.heap.size 5 a1 a2 hk0) ⟨callB_of 3 hg (gw_C m_1503) rfl rfl rfl (hg _ m_13) (hg _ m_1500) hd_Mo_made ⟨Nat.le_of_ble_eq_true rfl, Nat.le_of_ble_eq_true rfl⟩, hg _ m_1502, hg _ ms_61⟩ (zz_preVW hM hS hA hN hK hP hD 0 rfl rfl) rfl rfl hl.1 rfl (lv_room (Nat.le_of_ble_eq_true rfl)) d_Mo_joinUnequal_10 ⟨Nat.le_of_ble_eq_true rfl, Nat.le_of_ble_eq_true rfl⟩) hS (fun q _ h => zz_free hD hS hA q h) (zz_free hD hS hA) (fun r10 u10 t H locs ht hvm hp hP1 hz hk1 hS => ?_)
    rw [ht] at hP1
    rw [← hp] at hv hk
    have hD : va_D A (Wm ty h u10 px) := zz_D hD rfl
    have hP := hP1
    exact B13 _ _ _ r10 u10 hv hk (lv_sub hl [0] rfl) hP hD hS
  · have hv := hv.trans (if_pos hc)
    have hk := hk.1 hc
    exact W.vret hx hb hr (fun t ht hW => ⟨⟨_, rfl, hv.symm, by dsimp only; rw [ht]; exact hP⟩, hS.F ht⟩) hS.2.2 d_Mo_joinUnequal_5

-- ClauseLedgerModel.replace(II)I
abbrev b_Mo_replace : ByteArray := prog_14_method_43_code
def y_Mo_replace : MethodName := ⟨"ClauseLedgerModel", "replace", "(II)I"⟩
theorem hd_Mo_replace : y_Mo_replace.cls ≠ "java/lang/invoke/MethodHandle" ∧ y_Mo_replace.cls ≠ "java/lang/invoke/VarHandle" ∧ (parseMethodDescriptor y_Mo_replace.desc).map (fun d => d.parameters.length) = some 2 := by decide +kernel
theorem d_Mo_replace_0 : decode b_Mo_replace 0 = .ok (.aload_n 0, 1) := by decide +kernel
theorem d_Mo_replace_1 : decode b_Mo_replace 1 = .ok (.invokevirtual 201, 3) := by decide +kernel
theorem d_Mo_replace_4 : decode b_Mo_replace 4 = .ok (.ifCond .eq 5, 3) := by decide +kernel
theorem d_Mo_replace_7 : decode b_Mo_replace 7 = .ok (.iconst (-1), 1) := by decide +kernel
theorem d_Mo_replace_8 : decode b_Mo_replace 8 = .ok (.ireturn, 1) := by decide +kernel
theorem d_Mo_replace_9 : decode b_Mo_replace 9 = .ok (.sipush 17185, 3) := by decide +kernel
theorem d_Mo_replace_12 : decode b_Mo_replace 12 = .ok (.istore_n 3, 1) := by decide +kernel
theorem d_Mo_replace_13 : decode b_Mo_replace 13 = .ok (.aload_n 0, 1) := by decide +kernel
theorem d_Mo_replace_14 : decode b_Mo_replace 14 = .ok (.iload_n 1, 1) := by decide +kernel
theorem d_Mo_replace_15 : decode b_Mo_replace 15 = .ok (.invokevirtual 207, 3) := by decide +kernel
theorem d_Mo_replace_18 : decode b_Mo_replace 18 = .ok (.ifCond .eq 11, 3) := by decide +kernel
theorem d_Mo_replace_21 : decode b_Mo_replace 21 = .ok (.aload_n 0, 1) := by decide +kernel
theorem d_Mo_replace_22 : decode b_Mo_replace 22 = .ok (.iload_n 2, 1) := by decide +kernel
theorem d_Mo_replace_23 : decode b_Mo_replace 23 = .ok (.invokevirtual 207, 3) := by decide +kernel
theorem d_Mo_replace_26 : decode b_Mo_replace 26 = .ok (.ifCond .ne 10, 3) := by decide +kernel
theorem d_Mo_replace_29 : decode b_Mo_replace 29 = .ok (.aload_n 0, 1) := by decide +kernel
theorem d_Mo_replace_30 : decode b_Mo_replace 30 = .ok (.iconst 1, 1) := by decide +kernel
theorem d_Mo_replace_31 : decode b_Mo_replace 31 = .ok (.iload_n 3, 1) := by decide +kernel
theorem d_Mo_replace_32 : decode b_Mo_replace 32 = .ok (.invokevirtual 133, 3) := by decide +kernel
theorem d_Mo_replace_35 : decode b_Mo_replace 35 = .ok (.ireturn, 1) := by decide +kernel
theorem d_Mo_replace_36 : decode b_Mo_replace 36 = .ok (.aload_n 0, 1) := by decide +kernel
theorem d_Mo_replace_37 : decode b_Mo_replace 37 = .ok (.getfield 26, 3) := by decide +kernel
theorem d_Mo_replace_40 : decode b_Mo_replace 40 = .ok (.iload_n 1, 1) := by decide +kernel
theorem d_Mo_replace_41 : decode b_Mo_replace 41 = .ok (.iaload, 1) := by decide +kernel
theorem d_Mo_replace_42 : decode b_Mo_replace 42 = .ok (.istore 4, 2) := by decide +kernel
theorem d_Mo_replace_44 : decode b_Mo_replace 44 = .ok (.iload 4, 2) := by decide +kernel
theorem d_Mo_replace_46 : decode b_Mo_replace 46 = .ok (.aload_n 0, 1) := by decide +kernel
theorem d_Mo_replace_47 : decode b_Mo_replace 47 = .ok (.getfield 26, 3) := by decide +kernel
theorem d_Mo_replace_50 : decode b_Mo_replace 50 = .ok (.iload_n 2, 1) := by decide +kernel
theorem d_Mo_replace_51 : decode b_Mo_replace 51 = .ok (.iaload, 1) := by decide +kernel
theorem d_Mo_replace_52 : decode b_Mo_replace 52 = .ok (.if_icmp .ne 50, 3) := by decide +kernel
theorem d_Mo_replace_55 : decode b_Mo_replace 55 = .ok (.iload 4, 2) := by decide +kernel
theorem d_Mo_replace_57 : decode b_Mo_replace 57 = .ok (.iconst 1, 1) := by decide +kernel
theorem d_Mo_replace_58 : decode b_Mo_replace 58 = .ok (.if_icmp .eq 44, 3) := by decide +kernel
theorem d_Mo_replace_61 : decode b_Mo_replace 61 = .ok (.iload 4, 2) := by decide +kernel
theorem d_Mo_replace_63 : decode b_Mo_replace 63 = .ok (.iconst 2, 1) := by decide +kernel
theorem d_Mo_replace_64 : decode b_Mo_replace 64 = .ok (.if_icmp .eq 38, 3) := by decide +kernel
theorem d_Mo_replace_67 : decode b_Mo_replace 67 = .ok (.iload 4, 2) := by decide +kernel
theorem d_Mo_replace_69 : decode b_Mo_replace 69 = .ok (.bipush 10, 2) := by decide +kernel
theorem d_Mo_replace_71 : decode b_Mo_replace 71 = .ok (.if_icmp .eq 31, 3) := by decide +kernel
theorem d_Mo_replace_74 : decode b_Mo_replace 74 = .ok (.aload_n 0, 1) := by decide +kernel
theorem d_Mo_replace_75 : decode b_Mo_replace 75 = .ok (.getfield 41, 3) := by decide +kernel
theorem d_Mo_replace_78 : decode b_Mo_replace 78 = .ok (.iload_n 1, 1) := by decide +kernel
theorem d_Mo_replace_79 : decode b_Mo_replace 79 = .ok (.iaload, 1) := by decide +kernel
theorem d_Mo_replace_80 : decode b_Mo_replace 80 = .ok (.aload_n 0, 1) := by decide +kernel
theorem d_Mo_replace_81 : decode b_Mo_replace 81 = .ok (.getfield 41, 3) := by decide +kernel
theorem d_Mo_replace_84 : decode b_Mo_replace 84 = .ok (.iload_n 2, 1) := by decide +kernel
theorem d_Mo_replace_85 : decode b_Mo_replace 85 = .ok (.iaload, 1) := by decide +kernel
theorem d_Mo_replace_86 : decode b_Mo_replace 86 = .ok (.if_icmp .ne 16, 3) := by decide +kernel
theorem d_Mo_replace_89 : decode b_Mo_replace 89 = .ok (.aload_n 0, 1) := by decide +kernel
theorem d_Mo_replace_90 : decode b_Mo_replace 90 = .ok (.getfield 35, 3) := by decide +kernel
theorem d_Mo_replace_93 : decode b_Mo_replace 93 = .ok (.iload_n 1, 1) := by decide +kernel
theorem d_Mo_replace_94 : decode b_Mo_replace 94 = .ok (.iaload, 1) := by decide +kernel
theorem d_Mo_replace_95 : decode b_Mo_replace 95 = .ok (.ifCond .lt 7, 3) := by decide +kernel
theorem d_Mo_replace_98 : decode b_Mo_replace 98 = .ok (.iconst 1, 1) := by decide +kernel
theorem d_Mo_replace_99 : decode b_Mo_replace 99 = .ok (.goto 4, 3) := by decide +kernel
theorem d_Mo_replace_102 : decode b_Mo_replace 102 = .ok (.iconst 0, 1) := by decide +kernel
theorem d_Mo_replace_103 : decode b_Mo_replace 103 = .ok (.istore 5, 2) := by decide +kernel
theorem d_Mo_replace_105 : decode b_Mo_replace 105 = .ok (.iload 5, 2) := by decide +kernel
theorem d_Mo_replace_107 : decode b_Mo_replace 107 = .ok (.ifCond .eq 66, 3) := by decide +kernel
theorem d_Mo_replace_110 : decode b_Mo_replace 110 = .ok (.aload_n 0, 1) := by decide +kernel
theorem d_Mo_replace_111 : decode b_Mo_replace 111 = .ok (.getfield 29, 3) := by decide +kernel
theorem d_Mo_replace_114 : decode b_Mo_replace 114 = .ok (.aload_n 0, 1) := by decide +kernel
theorem d_Mo_replace_115 : decode b_Mo_replace 115 = .ok (.getfield 35, 3) := by decide +kernel
theorem d_Mo_replace_118 : decode b_Mo_replace 118 = .ok (.iload_n 1, 1) := by decide +kernel
theorem d_Mo_replace_119 : decode b_Mo_replace 119 = .ok (.iaload, 1) := by decide +kernel
theorem d_Mo_replace_120 : decode b_Mo_replace 120 = .ok (.iaload, 1) := by decide +kernel
theorem d_Mo_replace_121 : decode b_Mo_replace 121 = .ok (.aload_n 0, 1) := by decide +kernel
theorem d_Mo_replace_122 : decode b_Mo_replace 122 = .ok (.getfield 29, 3) := by decide +kernel
theorem d_Mo_replace_125 : decode b_Mo_replace 125 = .ok (.aload_n 0, 1) := by decide +kernel
theorem d_Mo_replace_126 : decode b_Mo_replace 126 = .ok (.getfield 35, 3) := by decide +kernel
theorem d_Mo_replace_129 : decode b_Mo_replace 129 = .ok (.iload_n 2, 1) := by decide +kernel
theorem d_Mo_replace_130 : decode b_Mo_replace 130 = .ok (.iaload, 1) := by decide +kernel
theorem d_Mo_replace_131 : decode b_Mo_replace 131 = .ok (.iaload, 1) := by decide +kernel
theorem d_Mo_replace_132 : decode b_Mo_replace 132 = .ok (.if_icmp .ne 41, 3) := by decide +kernel
theorem d_Mo_replace_135 : decode b_Mo_replace 135 = .ok (.aload_n 0, 1) := by decide +kernel
theorem d_Mo_replace_136 : decode b_Mo_replace 136 = .ok (.getfield 38, 3) := by decide +kernel
theorem d_Mo_replace_139 : decode b_Mo_replace 139 = .ok (.iload_n 1, 1) := by decide +kernel
theorem d_Mo_replace_140 : decode b_Mo_replace 140 = .ok (.iaload, 1) := by decide +kernel
theorem d_Mo_replace_141 : decode b_Mo_replace 141 = .ok (.ifCond .lt 28, 3) := by decide +kernel
theorem d_Mo_replace_144 : decode b_Mo_replace 144 = .ok (.aload_n 0, 1) := by decide +kernel
theorem d_Mo_replace_145 : decode b_Mo_replace 145 = .ok (.getfield 29, 3) := by decide +kernel
theorem d_Mo_replace_148 : decode b_Mo_replace 148 = .ok (.aload_n 0, 1) := by decide +kernel
theorem d_Mo_replace_149 : decode b_Mo_replace 149 = .ok (.getfield 38, 3) := by decide +kernel
theorem d_Mo_replace_152 : decode b_Mo_replace 152 = .ok (.iload_n 1, 1) := by decide +kernel
theorem d_Mo_replace_153 : decode b_Mo_replace 153 = .ok (.iaload, 1) := by decide +kernel
theorem d_Mo_replace_154 : decode b_Mo_replace 154 = .ok (.iaload, 1) := by decide +kernel
theorem d_Mo_replace_155 : decode b_Mo_replace 155 = .ok (.aload_n 0, 1) := by decide +kernel
theorem d_Mo_replace_156 : decode b_Mo_replace 156 = .ok (.getfield 29, 3) := by decide +kernel
theorem d_Mo_replace_159 : decode b_Mo_replace 159 = .ok (.aload_n 0, 1) := by decide +kernel
theorem d_Mo_replace_160 : decode b_Mo_replace 160 = .ok (.getfield 38, 3) := by decide +kernel
theorem d_Mo_replace_163 : decode b_Mo_replace 163 = .ok (.iload_n 2, 1) := by decide +kernel
theorem d_Mo_replace_164 : decode b_Mo_replace 164 = .ok (.iaload, 1) := by decide +kernel
theorem d_Mo_replace_165 : decode b_Mo_replace 165 = .ok (.iaload, 1) := by decide +kernel
theorem d_Mo_replace_166 : decode b_Mo_replace 166 = .ok (.if_icmp .ne 7, 3) := by decide +kernel
theorem d_Mo_replace_169 : decode b_Mo_replace 169 = .ok (.iconst 1, 1) := by decide +kernel
theorem d_Mo_replace_170 : decode b_Mo_replace 170 = .ok (.goto 4, 3) := by decide +kernel
theorem d_Mo_replace_173 : decode b_Mo_replace 173 = .ok (.iconst 0, 1) := by decide +kernel
theorem d_Mo_replace_174 : decode b_Mo_replace 174 = .ok (.istore 5, 2) := by decide +kernel
theorem d_Mo_replace_176 : decode b_Mo_replace 176 = .ok (.iload 5, 2) := by decide +kernel
theorem d_Mo_replace_178 : decode b_Mo_replace 178 = .ok (.ifCond .ne 10, 3) := by decide +kernel
theorem d_Mo_replace_181 : decode b_Mo_replace 181 = .ok (.aload_n 0, 1) := by decide +kernel
theorem d_Mo_replace_182 : decode b_Mo_replace 182 = .ok (.iconst 2, 1) := by decide +kernel
theorem d_Mo_replace_183 : decode b_Mo_replace 183 = .ok (.iload_n 3, 1) := by decide +kernel
theorem d_Mo_replace_184 : decode b_Mo_replace 184 = .ok (.invokevirtual 133, 3) := by decide +kernel
theorem d_Mo_replace_187 : decode b_Mo_replace 187 = .ok (.ireturn, 1) := by decide +kernel
theorem d_Mo_replace_188 : decode b_Mo_replace 188 = .ok (.aload_n 0, 1) := by decide +kernel
theorem d_Mo_replace_189 : decode b_Mo_replace 189 = .ok (.aload_n 0, 1) := by decide +kernel
theorem d_Mo_replace_190 : decode b_Mo_replace 190 = .ok (.getfield 35, 3) := by decide +kernel
theorem d_Mo_replace_193 : decode b_Mo_replace 193 = .ok (.iload_n 1, 1) := by decide +kernel
theorem d_Mo_replace_194 : decode b_Mo_replace 194 = .ok (.iaload, 1) := by decide +kernel
theorem d_Mo_replace_195 : decode b_Mo_replace 195 = .ok (.aload_n 0, 1) := by decide +kernel
theorem d_Mo_replace_196 : decode b_Mo_replace 196 = .ok (.getfield 35, 3) := by decide +kernel
theorem d_Mo_replace_199 : decode b_Mo_replace 199 = .ok (.iload_n 2, 1) := by decide +kernel
theorem d_Mo_replace_200 : decode b_Mo_replace 200 = .ok (.iaload, 1) := by decide +kernel
theorem d_Mo_replace_201 : decode b_Mo_replace 201 = .ok (.invokevirtual 237, 3) := by decide +kernel
theorem d_Mo_replace_204 : decode b_Mo_replace 204 = .ok (.aload_n 0, 1) := by decide +kernel
theorem d_Mo_replace_205 : decode b_Mo_replace 205 = .ok (.getfield 38, 3) := by decide +kernel
theorem d_Mo_replace_208 : decode b_Mo_replace 208 = .ok (.iload_n 1, 1) := by decide +kernel
theorem d_Mo_replace_209 : decode b_Mo_replace 209 = .ok (.iaload, 1) := by decide +kernel
theorem d_Mo_replace_210 : decode b_Mo_replace 210 = .ok (.ifCond .lt 19, 3) := by decide +kernel
theorem d_Mo_replace_213 : decode b_Mo_replace 213 = .ok (.aload_n 0, 1) := by decide +kernel
theorem d_Mo_replace_214 : decode b_Mo_replace 214 = .ok (.aload_n 0, 1) := by decide +kernel
theorem d_Mo_replace_215 : decode b_Mo_replace 215 = .ok (.getfield 38, 3) := by decide +kernel
theorem d_Mo_replace_218 : decode b_Mo_replace 218 = .ok (.iload_n 1, 1) := by decide +kernel
theorem d_Mo_replace_219 : decode b_Mo_replace 219 = .ok (.iaload, 1) := by decide +kernel
theorem d_Mo_replace_220 : decode b_Mo_replace 220 = .ok (.aload_n 0, 1) := by decide +kernel
theorem d_Mo_replace_221 : decode b_Mo_replace 221 = .ok (.getfield 38, 3) := by decide +kernel
theorem d_Mo_replace_224 : decode b_Mo_replace 224 = .ok (.iload_n 2, 1) := by decide +kernel
theorem d_Mo_replace_225 : decode b_Mo_replace 225 = .ok (.iaload, 1) := by decide +kernel
theorem d_Mo_replace_226 : decode b_Mo_replace 226 = .ok (.invokevirtual 237, 3) := by decide +kernel
theorem d_Mo_replace_229 : decode b_Mo_replace 229 = .ok (.aload_n 0, 1) := by decide +kernel
theorem d_Mo_replace_230 : decode b_Mo_replace 230 = .ok (.aload_n 0, 1) := by decide +kernel
theorem d_Mo_replace_231 : decode b_Mo_replace 231 = .ok (.iconst 5, 1) := by decide +kernel
theorem d_Mo_replace_232 : decode b_Mo_replace 232 = .ok (.iload_n 1, 1) := by decide +kernel
theorem d_Mo_replace_233 : decode b_Mo_replace 233 = .ok (.iload_n 2, 1) := by decide +kernel
theorem d_Mo_replace_234 : decode b_Mo_replace 234 = .ok (.invokevirtual 116, 3) := by decide +kernel
theorem d_Mo_replace_237 : decode b_Mo_replace 237 = .ok (.invokevirtual 210, 3) := by decide +kernel
theorem d_Mo_replace_240 : decode b_Mo_replace 240 = .ok (.aload_n 0, 1) := by decide +kernel
theorem d_Mo_replace_241 : decode b_Mo_replace 241 = .ok (.aload_n 0, 1) := by decide +kernel
theorem d_Mo_replace_242 : decode b_Mo_replace 242 = .ok (.getfield 214, 3) := by decide +kernel
theorem d_Mo_replace_245 : decode b_Mo_replace 245 = .ok (.iload_n 3, 1) := by decide +kernel
theorem d_Mo_replace_246 : decode b_Mo_replace 246 = .ok (.invokevirtual 217, 3) := by decide +kernel
theorem d_Mo_replace_249 : decode b_Mo_replace 249 = .ok (.ireturn, 1) := by decide +kernel
def f_Mo_replace_35 (s0 : Int32) (σ : St) : Int32 × St := (s0, σ)
def k_Mo_replace_35 (s0 : Int32) (σ : St) : Prop := True
def f_Mo_replace_29 (x3 : Int32) (σ : St) : Int32 × St := f_Mo_replace_35 ((f_Mo_fails 1 x3 σ).1) ((f_Mo_fails 1 x3 σ).2)
def k_Mo_replace_29 (x3 : Int32) (σ : St) : Prop := (k_Mo_fails 1 x3 σ) ∧ (k_Mo_replace_35 ((f_Mo_fails 1 x3 σ).1) ((f_Mo_fails 1 x3 σ).2))
def f_Mo_replace_187 (s0 : Int32) (σ : St) : Int32 × St := (s0, σ)
def k_Mo_replace_187 (s0 : Int32) (σ : St) : Prop := True
def f_Mo_replace_249 (s0 : Int32) (σ : St) : Int32 × St := (s0, σ)
def k_Mo_replace_249 (s0 : Int32) (σ : St) : Prop := True
def f_Mo_replace_240 (x3 : Int32) (σ : St) : Int32 × St := f_Mo_replace_249 ((f_Mo_enter (σ.1 0 25) x3 σ).1) ((f_Mo_enter (σ.1 0 25) x3 σ).2)
def k_Mo_replace_240 (x3 : Int32) (σ : St) : Prop := (k_Mo_enter (σ.1 0 25) x3 σ) ∧ (k_Mo_replace_249 ((f_Mo_enter (σ.1 0 25) x3 σ).1) ((f_Mo_enter (σ.1 0 25) x3 σ).2))
def f_Mo_replace_237 (x3 : Int32) (s0 : Int32) (σ : St) : Int32 × St := f_Mo_replace_240 x3 (f_Mo_join s0 σ)
def k_Mo_replace_237 (x3 : Int32) (s0 : Int32) (σ : St) : Prop := (k_Mo_join s0 σ) ∧ (k_Mo_replace_240 x3 (f_Mo_join s0 σ))
def f_Mo_replace_229 (x1 : Int32) (x2 : Int32) (x3 : Int32) (σ : St) : Int32 × St := f_Mo_replace_237 x3 ((f_Mo_made 5 x1 x2 σ).1) ((f_Mo_made 5 x1 x2 σ).2)
def k_Mo_replace_229 (x1 : Int32) (x2 : Int32) (x3 : Int32) (σ : St) : Prop := (k_Mo_made 5 x1 x2 σ) ∧ (k_Mo_replace_237 x3 ((f_Mo_made 5 x1 x2 σ).1) ((f_Mo_made 5 x1 x2 σ).2))
def f_Mo_replace_204 (x1 : Int32) (x2 : Int32) (x3 : Int32) (σ : St) : Int32 × St := if (σ.1 9 x1.toNatClampNeg) < 0 then (f_Mo_replace_229 x1 x2 x3 σ) else (f_Mo_replace_229 x1 x2 x3 (f_Mo_joinUnequal (σ.1 9 x1.toNatClampNeg) (σ.1 9 x2.toNatClampNeg) σ))
def k_Mo_replace_204 (x1 : Int32) (x2 : Int32) (x3 : Int32) (σ : St) : Prop := vp_in x1 400 ∧ (((σ.1 9 x1.toNatClampNeg) < 0 → (k_Mo_replace_229 x1 x2 x3 σ)) ∧ (¬ (σ.1 9 x1.toNatClampNeg) < 0 → (vp_in x1 400 ∧ (vp_in x2 400 ∧ ((k_Mo_joinUnequal (σ.1 9 x1.toNatClampNeg) (σ.1 9 x2.toNatClampNeg) σ) ∧ (k_Mo_replace_229 x1 x2 x3 (f_Mo_joinUnequal (σ.1 9 x1.toNatClampNeg) (σ.1 9 x2.toNatClampNeg) σ)))))))
def f_Mo_replace_174 (x1 : Int32) (x2 : Int32) (x3 : Int32) (s0 : Int32) (σ : St) : Int32 × St := if s0 = 0 then (f_Mo_replace_187 ((f_Mo_fails 2 x3 σ).1) ((f_Mo_fails 2 x3 σ).2)) else (f_Mo_replace_204 x1 x2 x3 (f_Mo_joinUnequal (σ.1 8 x1.toNatClampNeg) (σ.1 8 x2.toNatClampNeg) σ))
def k_Mo_replace_174 (x1 : Int32) (x2 : Int32) (x3 : Int32) (s0 : Int32) (σ : St) : Prop := (s0 = 0 → ((k_Mo_fails 2 x3 σ) ∧ (k_Mo_replace_187 ((f_Mo_fails 2 x3 σ).1) ((f_Mo_fails 2 x3 σ).2)))) ∧ (¬ s0 = 0 → (vp_in x1 400 ∧ (vp_in x2 400 ∧ ((k_Mo_joinUnequal (σ.1 8 x1.toNatClampNeg) (σ.1 8 x2.toNatClampNeg) σ) ∧ (k_Mo_replace_204 x1 x2 x3 (f_Mo_joinUnequal (σ.1 8 x1.toNatClampNeg) (σ.1 8 x2.toNatClampNeg) σ))))))
def f_Mo_replace_169 (x1 : Int32) (x2 : Int32) (x3 : Int32) (σ : St) : Int32 × St := f_Mo_replace_174 x1 x2 x3 1 σ
def k_Mo_replace_169 (x1 : Int32) (x2 : Int32) (x3 : Int32) (σ : St) : Prop := k_Mo_replace_174 x1 x2 x3 1 σ
def f_Mo_replace_173 (x1 : Int32) (x2 : Int32) (x3 : Int32) (σ : St) : Int32 × St := f_Mo_replace_174 x1 x2 x3 0 σ
def k_Mo_replace_173 (x1 : Int32) (x2 : Int32) (x3 : Int32) (σ : St) : Prop := k_Mo_replace_174 x1 x2 x3 0 σ
def f_Mo_replace_103 (x1 : Int32) (x2 : Int32) (x3 : Int32) (s0 : Int32) (σ : St) : Int32 × St := if s0 = 0 then (f_Mo_replace_173 x1 x2 x3 σ) else (if (σ.1 6 (σ.1 8 x1.toNatClampNeg).toNatClampNeg) = (σ.1 6 (σ.1 8 x2.toNatClampNeg).toNatClampNeg) then (if (σ.1 9 x1.toNatClampNeg) < 0 then (f_Mo_replace_169 x1 x2 x3 σ) else (if (σ.1 6 (σ.1 9 x1.toNatClampNeg).toNatClampNeg) = (σ.1 6 (σ.1 9 x2.toNatClampNeg).toNatClampNeg) then (f_Mo_replace_169 x1 x2 x3 σ) else (f_Mo_replace_173 x1 x2 x3 σ))) else (f_Mo_replace_173 x1 x2 x3 σ))
def k_Mo_replace_103 (x1 : Int32) (x2 : Int32) (x3 : Int32) (s0 : Int32) (σ : St) : Prop := (s0 = 0 → (k_Mo_replace_173 x1 x2 x3 σ)) ∧ (¬ s0 = 0 → (vp_in x1 400 ∧ (vp_in (σ.1 8 x1.toNatClampNeg) 400 ∧ (vp_in x2 400 ∧ (vp_in (σ.1 8 x2.toNatClampNeg) 400 ∧ (((σ.1 6 (σ.1 8 x1.toNatClampNeg).toNatClampNeg) = (σ.1 6 (σ.1 8 x2.toNatClampNeg).toNatClampNeg) → (vp_in x1 400 ∧ (((σ.1 9 x1.toNatClampNeg) < 0 → (k_Mo_replace_169 x1 x2 x3 σ)) ∧ (¬ (σ.1 9 x1.toNatClampNeg) < 0 → (vp_in x1 400 ∧ (vp_in (σ.1 9 x1.toNatClampNeg) 400 ∧ (vp_in x2 400 ∧ (vp_in (σ.1 9 x2.toNatClampNeg) 400 ∧ (((σ.1 6 (σ.1 9 x1.toNatClampNeg).toNatClampNeg) = (σ.1 6 (σ.1 9 x2.toNatClampNeg).toNatClampNeg) → (k_Mo_replace_169 x1 x2 x3 σ)) ∧ (¬ (σ.1 6 (σ.1 9 x1.toNatClampNeg).toNatClampNeg) = (σ.1 6 (σ.1 9 x2.toNatClampNeg).toNatClampNeg) → (k_Mo_replace_173 x1 x2 x3 σ))))))))))) ∧ (¬ (σ.1 6 (σ.1 8 x1.toNatClampNeg).toNatClampNeg) = (σ.1 6 (σ.1 8 x2.toNatClampNeg).toNatClampNeg) → (k_Mo_replace_173 x1 x2 x3 σ))))))))
def f_Mo_replace_102 (x1 : Int32) (x2 : Int32) (x3 : Int32) (σ : St) : Int32 × St := f_Mo_replace_103 x1 x2 x3 0 σ
def k_Mo_replace_102 (x1 : Int32) (x2 : Int32) (x3 : Int32) (σ : St) : Prop := k_Mo_replace_103 x1 x2 x3 0 σ
def f_Mo_replace_44 (x1 : Int32) (x2 : Int32) (x3 : Int32) (x4 : Int32) (σ : St) : Int32 × St := if x4 = (σ.1 5 x2.toNatClampNeg) then (if x4 = 1 then (f_Mo_replace_102 x1 x2 x3 σ) else (if x4 = 2 then (f_Mo_replace_102 x1 x2 x3 σ) else (if x4 = 10 then (f_Mo_replace_102 x1 x2 x3 σ) else (if (σ.1 10 x1.toNatClampNeg) = (σ.1 10 x2.toNatClampNeg) then (if (σ.1 8 x1.toNatClampNeg) < 0 then (f_Mo_replace_102 x1 x2 x3 σ) else (f_Mo_replace_103 x1 x2 x3 1 σ)) else (f_Mo_replace_102 x1 x2 x3 σ))))) else (f_Mo_replace_102 x1 x2 x3 σ)
def k_Mo_replace_44 (x1 : Int32) (x2 : Int32) (x3 : Int32) (x4 : Int32) (σ : St) : Prop := vp_in x2 400 ∧ ((x4 = (σ.1 5 x2.toNatClampNeg) → ((x4 = 1 → (k_Mo_replace_102 x1 x2 x3 σ)) ∧ (¬ x4 = 1 → ((x4 = 2 → (k_Mo_replace_102 x1 x2 x3 σ)) ∧ (¬ x4 = 2 → ((x4 = 10 → (k_Mo_replace_102 x1 x2 x3 σ)) ∧ (¬ x4 = 10 → (vp_in x1 400 ∧ (vp_in x2 400 ∧ (((σ.1 10 x1.toNatClampNeg) = (σ.1 10 x2.toNatClampNeg) → (vp_in x1 400 ∧ (((σ.1 8 x1.toNatClampNeg) < 0 → (k_Mo_replace_102 x1 x2 x3 σ)) ∧ (¬ (σ.1 8 x1.toNatClampNeg) < 0 → (k_Mo_replace_103 x1 x2 x3 1 σ))))) ∧ (¬ (σ.1 10 x1.toNatClampNeg) = (σ.1 10 x2.toNatClampNeg) → (k_Mo_replace_102 x1 x2 x3 σ)))))))))))) ∧ (¬ x4 = (σ.1 5 x2.toNatClampNeg) → (k_Mo_replace_102 x1 x2 x3 σ)))
def f_Mo_replace_4 (x1 : Int32) (x2 : Int32) (s0 : Int32) (σ : St) : Int32 × St := if s0 = 0 then (if (f_Mo_isTerm x1 σ) = 0 then (f_Mo_replace_29 17185 σ) else (if (f_Mo_isTerm x2 σ) = 0 then (f_Mo_replace_29 17185 σ) else (f_Mo_replace_44 x1 x2 17185 (σ.1 5 x1.toNatClampNeg) σ))) else ((-1), σ)
def k_Mo_replace_4 (x1 : Int32) (x2 : Int32) (s0 : Int32) (σ : St) : Prop := (s0 = 0 → ((k_Mo_isTerm x1 σ) ∧ (((f_Mo_isTerm x1 σ) = 0 → (k_Mo_replace_29 17185 σ)) ∧ (¬ (f_Mo_isTerm x1 σ) = 0 → ((k_Mo_isTerm x2 σ) ∧ (((f_Mo_isTerm x2 σ) = 0 → (k_Mo_replace_29 17185 σ)) ∧ (¬ (f_Mo_isTerm x2 σ) = 0 → (vp_in x1 400 ∧ (k_Mo_replace_44 x1 x2 17185 (σ.1 5 x1.toNatClampNeg) σ))))))))) ∧ (¬ s0 = 0 → True)
def f_Mo_replace (a1 : Int32) (a2 : Int32) (σ : St) : Int32 × St := f_Mo_replace_4 a1 a2 ((f_Mo_begin σ).1) ((f_Mo_begin σ).2)
def k_Mo_replace (a1 : Int32) (a2 : Int32) (σ : St) : Prop := (k_Mo_begin σ) ∧ (k_Mo_replace_4 a1 a2 ((f_Mo_begin σ).1) ((f_Mo_begin σ).2))
abbrev w_Mo_replace : List Cond := Cond.code y_Mo_replace b_Mo_replace 6 (some .int) :: gw
abbrev rm_Mo_replace : Room := { frames := 5, cells := 0, slots := 0, locals := 119 }
set_option maxHeartbeats 4000000 in
set_option maxRecDepth 100000 in
theorem c_Mo_replace (l : Launch) (D : va_G) (ty : Nat → ClassId) (h : Nat → Nat) (px : va_W) (sa : Nat → Nat) (σ : St) (sz : Nat) (a1 : Int32) (a2 : Int32) (hk : k_Mo_replace a1 a2 σ) : Met l y_Mo_replace w_Mo_replace rm_Mo_replace (va_Pc [.ref (h 0), .int a1, .int a2] (fun U => U.heap.size = sz ∧ va_P D classes (Wm ty h σ px) U.heap ∧ va_K D classes (Ta ty) U ∧ NW U ∧ MK sa (va_A (Wm ty h σ px) sz) U U.heap ∧ va_D (fun _ => True) (Wm ty h σ px))) (va_Qi (fun r (u : St) => (r, u) = f_Mo_replace a1 a2 σ) (fun u t => va_P D classes (Wm ty h u px) t.heap) (va_A (Wm ty h σ px) sz)) 0 0 (va_A (Wm ty h σ px) sz) := by
  refine Met.ofW (cc := b_Mo_replace) (maxL := 6) (ret := (some .int)) (by decide) rfl ?_
  intro p e s m args below meth c s₁ B hml hv
  obtain ⟨ha, hsz, hP, hK, hN, hM, hD0⟩ := hv
  have hx := B.exec
  have hb := B.bytes
  have hr := B.returns
  have hg : ∀ w ∈ gw, w.before args s = true := fun w h9 => atoms_spec (ws := w_Mo_replace) B.pre w (List.mem_cons_of_mem _ h9)
  have hown : s.vm.findClass "ClauseLedgerModel" = some m.cls := findClass_of_methodNamed B.named
  have hlocks := B.notSynchronized
  subst hsz
  have hD := hD0.self (sz := s.heap.size)
  generalize hAe : va_A (Wm ty h σ px) s.heap.size = A at hD hM ⊢
  have hA : ∀ q : Nat, s.heap.size ≤ q → A q := fun q h9 => by rw [← hAe]; exact Or.inr h9
  have hS : va_S A s.heap s.heap [] := va_S.rf
  have he : entryFrame m args 6 = entryFrame m ([.ref (h 0), .int a1, .int a2] : List Value).toArray 6 := by rw [ha]
  rw [he, lg_entry_eq]
  have hl := lv_entry ([.ref (h 0), .int a1, .int a2]) (n := 6) (Nat.le_of_ble_eq_true rfl)
  generalize (lg_sl ([.ref (h 0), .int a1, .int a2]) ++ List.replicate (6 - (lg_sl ([.ref (h 0), .int a1, .int a2])).length) Slot.unset).toArray = ls at hl ⊢
  have hl : lv_has ls 6 [(0, .ref (h 0)), (1, .int a1), (2, .int a2)] := hl
  generalize hv : f_Mo_replace a1 a2 σ = v
  replace hv := hv.symm
  have B35 : ∀ (H : Heap) (locs : List Loc) (ls : Array Slot) (s0 : Int32) (σ : St), v = f_Mo_replace_35 s0 σ → k_Mo_replace_35 s0 σ → lv_has ls 6 [] → va_P D classes (Wm ty h σ px) H → va_D A (Wm ty h σ px) → va_S A s.heap H locs → W p l e (headSpec w_Mo_replace rm_Mo_replace).room s m args below meth c H locs 0 0 (MQ below (va_Qi (fun r (u : St) => (r, u) = v) (fun u t => va_P D classes (Wm ty h u px) t.heap) A) args s 0 0 A) (F0 m 35 ls [.int s0]) := by
    intro H locs ls s0 σ hv hk hl hP hD hS
    unfold f_Mo_replace_35 at hv
    unfold k_Mo_replace_35 at hk
    exact W.iret hx hb hr (fun t ht hW => ⟨⟨_, _, rfl, hv.symm, by dsimp only; rw [ht]; exact hP⟩, hS.F ht⟩) hS.2.2 d_Mo_replace_35
  have B29 : ∀ (H : Heap) (locs : List Loc) (ls : Array Slot) (x3 : Int32) (σ : St), v = f_Mo_replace_29 x3 σ → k_Mo_replace_29 x3 σ → lv_has ls 6 [(0, .ref (h 0)), (3, .int x3)] → va_P D classes (Wm ty h σ px) H → va_D A (Wm ty h σ px) → va_S A s.heap H locs → W p l e (headSpec w_Mo_replace rm_Mo_replace).room s m args below meth c H locs 0 0 (MQ below (va_Qi (fun r (u : St) => (r, u) = v) (fun u t => va_P D classes (Wm ty h u px) t.heap) A) args s 0 0 A) (F0 m 29 ls []) := by
    intro H locs ls x3 σ hv hk hl hP hD hS
    unfold f_Mo_replace_29 at hv
    unfold k_Mo_replace_29 at hk
    refine lv_aload_n hx hb d_Mo_replace_29 rfl (lv_at hl 0 rfl) ?_
    refine lv_iconst (v := 1) hx hb d_Mo_replace_30 (by decide) ?_
    refine lv_iload_n hx hb d_Mo_replace_31 rfl (lv_at hl 1 rfl) ?_
    obtain ⟨hk0, hk⟩ := hk
    refine va_calli (va_runV (As := [.int 1, .int x3]) (rest := []) ⟨hx, hb, hml, hown, hg⟩ (c_Mo_fails l D ty h px sa σ H.size 1 x3 hk0) ⟨callB_of 2 hg (gw_C m_1507) rfl rfl rfl (hg _ m_13) (hg _ m_1504) hd_Mo_fails ⟨Nat.le_of_ble_eq_true rfl, Nat.le_of_ble_eq_true rfl⟩, hg _ m_1506, hg _ ms_62⟩ (zz_preVW hM hS hA hN hK hP hD 0 rfl rfl) rfl rfl hl.1 rfl (lv_room (Nat.le_of_ble_eq_true rfl)) d_Mo_replace_32 ⟨Nat.le_of_ble_eq_true rfl, Nat.le_of_ble_eq_true rfl⟩) hS (fun q _ h => zz_free hD hS hA q h) (zz_free hD hS hA) (fun r32 u32 t H locs ht hvm hp hP1 hz hk1 hS => ?_)
    rw [ht] at hP1
    rw [← hp] at hv hk
    have hD : va_D A (Wm ty h u32 px) := zz_D hD rfl
    have hP := hP1
    exact B35 _ _ _ r32 u32 hv hk (lv_sub hl [] rfl) hP hD hS
  have B187 : ∀ (H : Heap) (locs : List Loc) (ls : Array Slot) (s0 : Int32) (σ : St), v = f_Mo_replace_187 s0 σ → k_Mo_replace_187 s0 σ → lv_has ls 6 [] → va_P D classes (Wm ty h σ px) H → va_D A (Wm ty h σ px) → va_S A s.heap H locs → W p l e (headSpec w_Mo_replace rm_Mo_replace).room s m args below meth c H locs 0 0 (MQ below (va_Qi (fun r (u : St) => (r, u) = v) (fun u t => va_P D classes (Wm ty h u px) t.heap) A) args s 0 0 A) (F0 m 187 ls [.int s0]) := by
    intro H locs ls s0 σ hv hk hl hP hD hS
    unfold f_Mo_replace_187 at hv
    unfold k_Mo_replace_187 at hk
    exact W.iret hx hb hr (fun t ht hW => ⟨⟨_, _, rfl, hv.symm, by dsimp only; rw [ht]; exact hP⟩, hS.F ht⟩) hS.2.2 d_Mo_replace_187
  have B249 : ∀ (H : Heap) (locs : List Loc) (ls : Array Slot) (s0 : Int32) (σ : St), v = f_Mo_replace_249 s0 σ → k_Mo_replace_249 s0 σ → lv_has ls 6 [] → va_P D classes (Wm ty h σ px) H → va_D A (Wm ty h σ px) → va_S A s.heap H locs → W p l e (headSpec w_Mo_replace rm_Mo_replace).room s m args below meth c H locs 0 0 (MQ below (va_Qi (fun r (u : St) => (r, u) = v) (fun u t => va_P D classes (Wm ty h u px) t.heap) A) args s 0 0 A) (F0 m 249 ls [.int s0]) := by
    intro H locs ls s0 σ hv hk hl hP hD hS
    unfold f_Mo_replace_249 at hv
    unfold k_Mo_replace_249 at hk
    exact W.iret hx hb hr (fun t ht hW => ⟨⟨_, _, rfl, hv.symm, by dsimp only; rw [ht]; exact hP⟩, hS.F ht⟩) hS.2.2 d_Mo_replace_249
  have B240 : ∀ (H : Heap) (locs : List Loc) (ls : Array Slot) (x3 : Int32) (σ : St), v = f_Mo_replace_240 x3 σ → k_Mo_replace_240 x3 σ → lv_has ls 6 [(0, .ref (h 0)), (3, .int x3)] → va_P D classes (Wm ty h σ px) H → va_D A (Wm ty h σ px) → va_S A s.heap H locs → W p l e (headSpec w_Mo_replace rm_Mo_replace).room s m args below meth c H locs 0 0 (MQ below (va_Qi (fun r (u : St) => (r, u) = v) (fun u t => va_P D classes (Wm ty h u px) t.heap) A) args s 0 0 A) (F0 m 240 ls []) := by
    intro H locs ls x3 σ hv hk hl hP hD hS
    unfold f_Mo_replace_240 at hv
    unfold k_Mo_replace_240 at hk
    refine lv_aload_n hx hb d_Mo_replace_240 rfl (lv_at hl 0 rfl) ?_
    refine lv_aload_n hx hb d_Mo_replace_241 rfl (lv_at hl 0 rfl) ?_
    refine va_get (v := .int (σ.1 0 25)) (C := R_Mo) (T := T_Mo) (N := 51) hx hb hg in_Mo hown hK hP 0 rfl rfl 25 (by decide) (hg _ m_1284) (fun _ h9 => h9) rfl d_Mo_replace_242 ?_
    refine lv_iload_n hx hb d_Mo_replace_245 rfl (lv_at hl 1 rfl) ?_
    obtain ⟨hk0, hk⟩ := hk
    refine va_calli (va_runV (As := [.int (σ.1 0 25), .int x3]) (rest := []) ⟨hx, hb, hml, hown, hg⟩ (c_Mo_enter l D ty h px sa σ H.size (σ.1 0 25) x3 hk0) ⟨callB_of 2 hg (gw_C m_1527) rfl rfl rfl (hg _ m_13) (hg _ m_1524) hd_Mo_enter ⟨Nat.le_of_ble_eq_true rfl, Nat.le_of_ble_eq_true rfl⟩, hg _ m_1526, hg _ ms_66⟩ (zz_preVW hM hS hA hN hK hP hD 0 rfl rfl) rfl rfl hl.1 rfl (lv_room (Nat.le_of_ble_eq_true rfl)) d_Mo_replace_246 ⟨Nat.le_of_ble_eq_true rfl, Nat.le_of_ble_eq_true rfl⟩) hS (fun q _ h => zz_free hD hS hA q h) (zz_free hD hS hA) (fun r246 u246 t H locs ht hvm hp hP1 hz hk1 hS => ?_)
    rw [ht] at hP1
    rw [← hp] at hv hk
    have hD : va_D A (Wm ty h u246 px) := zz_D hD rfl
    have hP := hP1
    exact B249 _ _ _ r246 u246 hv hk (lv_sub hl [] rfl) hP hD hS
  have B237 : ∀ (H : Heap) (locs : List Loc) (ls : Array Slot) (x3 : Int32) (s0 : Int32) (σ : St), v = f_Mo_replace_237 x3 s0 σ → k_Mo_replace_237 x3 s0 σ → lv_has ls 6 [(0, .ref (h 0)), (3, .int x3)] → va_P D classes (Wm ty h σ px) H → va_D A (Wm ty h σ px) → va_S A s.heap H locs → W p l e (headSpec w_Mo_replace rm_Mo_replace).room s m args below meth c H locs 0 0 (MQ below (va_Qi (fun r (u : St) => (r, u) = v) (fun u t => va_P D classes (Wm ty h u px) t.heap) A) args s 0 0 A) (F0 m 237 ls [.int s0, .ref (h 0)]) := by
    intro H locs ls x3 s0 σ hv hk hl hP hD hS
    unfold f_Mo_replace_237 at hv
    unfold k_Mo_replace_237 at hk
    obtain ⟨hk0, hk⟩ := hk
    refine va_callv (va_runV (As := [.int s0]) (rest := []) ⟨hx, hb, hml, hown, hg⟩ (c_Mo_join l D ty h px sa σ H.size s0 hk0) ⟨callB_of 1 hg (gw_C m_1523) rfl rfl rfl (hg _ m_13) (hg _ m_1520) hd_Mo_join ⟨Nat.le_of_ble_eq_true rfl, Nat.le_of_ble_eq_true rfl⟩, hg _ m_1522, hg _ ms_65⟩ (zz_preVW hM hS hA hN hK hP hD 0 rfl rfl) rfl rfl hl.1 rfl (lv_room (Nat.le_of_ble_eq_true rfl)) d_Mo_replace_237 ⟨Nat.le_of_ble_eq_true rfl, Nat.le_of_ble_eq_true rfl⟩) hS (fun q _ h => zz_free hD hS hA q h) (zz_free hD hS hA) (fun u237 t H locs ht hvm hp hP1 hz hk1 hS => ?_)
    rw [ht] at hP1
    rw [← hp] at hv hk
    have hD : va_D A (Wm ty h u237 px) := zz_D hD rfl
    have hP := hP1
    exact B240 _ _ _ x3 u237 hv hk (lv_sub hl [0, 1] rfl) hP hD hS
  have B229 : ∀ (H : Heap) (locs : List Loc) (ls : Array Slot) (x1 : Int32) (x2 : Int32) (x3 : Int32) (σ : St), v = f_Mo_replace_229 x1 x2 x3 σ → k_Mo_replace_229 x1 x2 x3 σ → lv_has ls 6 [(0, .ref (h 0)), (1, .int x1), (2, .int x2), (3, .int x3)] → va_P D classes (Wm ty h σ px) H → va_D A (Wm ty h σ px) → va_S A s.heap H locs → W p l e (headSpec w_Mo_replace rm_Mo_replace).room s m args below meth c H locs 0 0 (MQ below (va_Qi (fun r (u : St) => (r, u) = v) (fun u t => va_P D classes (Wm ty h u px) t.heap) A) args s 0 0 A) (F0 m 229 ls []) := by
    intro H locs ls x1 x2 x3 σ hv hk hl hP hD hS
    unfold f_Mo_replace_229 at hv
    unfold k_Mo_replace_229 at hk
    refine lv_aload_n hx hb d_Mo_replace_229 rfl (lv_at hl 0 rfl) ?_
    refine lv_aload_n hx hb d_Mo_replace_230 rfl (lv_at hl 0 rfl) ?_
    refine lv_iconst (v := 5) hx hb d_Mo_replace_231 (by decide) ?_
    refine lv_iload_n hx hb d_Mo_replace_232 rfl (lv_at hl 1 rfl) ?_
    refine lv_iload_n hx hb d_Mo_replace_233 rfl (lv_at hl 2 rfl) ?_
    obtain ⟨hk0, hk⟩ := hk
    refine va_calli (va_runV (As := [.int 5, .int x1, .int x2]) (rest := [.ref (h 0)]) ⟨hx, hb, hml, hown, hg⟩ (c_Mo_made l D ty h px sa σ H.size 5 x1 x2 hk0) ⟨callB_of 3 hg (gw_C m_1503) rfl rfl rfl (hg _ m_13) (hg _ m_1500) hd_Mo_made ⟨Nat.le_of_ble_eq_true rfl, Nat.le_of_ble_eq_true rfl⟩, hg _ m_1502, hg _ ms_61⟩ (zz_preVW hM hS hA hN hK hP hD 0 rfl rfl) rfl rfl hl.1 rfl (lv_room (Nat.le_of_ble_eq_true rfl)) d_Mo_replace_234 ⟨Nat.le_of_ble_eq_true rfl, Nat.le_of_ble_eq_true rfl⟩) hS (fun q _ h => zz_free hD hS hA q h) (zz_free hD hS hA) (fun r234 u234 t H locs ht hvm hp hP1 hz hk1 hS => ?_)
    rw [ht] at hP1
    rw [← hp] at hv hk
    have hD : va_D A (Wm ty h u234 px) := zz_D hD rfl
    have hP := hP1
    exact B237 _ _ _ x3 r234 u234 hv hk (lv_sub hl [0, 3] rfl) hP hD hS
  have B204 : ∀ (H : Heap) (locs : List Loc) (ls : Array Slot) (x1 : Int32) (x2 : Int32) (x3 : Int32) (σ : St), v = f_Mo_replace_204 x1 x2 x3 σ → k_Mo_replace_204 x1 x2 x3 σ → lv_has ls 6 [(0, .ref (h 0)), (1, .int x1), (2, .int x2), (3, .int x3)] → va_P D classes (Wm ty h σ px) H → va_D A (Wm ty h σ px) → va_S A s.heap H locs → W p l e (headSpec w_Mo_replace rm_Mo_replace).room s m args below meth c H locs 0 0 (MQ below (va_Qi (fun r (u : St) => (r, u) = v) (fun u t => va_P D classes (Wm ty h u px) t.heap) A) args s 0 0 A) (F0 m 204 ls []) := by
    intro H locs ls x1 x2 x3 σ hv hk hl hP hD hS
    unfold f_Mo_replace_204 at hv
    unfold k_Mo_replace_204 at hk
    refine lv_aload_n hx hb d_Mo_replace_204 rfl (lv_at hl 0 rfl) ?_
    refine va_get (v := .ref (h 9)) (C := R_Mo) (T := T_Mo) (N := 51) hx hb hg in_Mo hown hK hP 0 rfl rfl 14 (by decide) (hg _ m_1273) (fun _ h9 => h9) rfl d_Mo_replace_205 ?_
    refine lv_iload_n hx hb d_Mo_replace_208 rfl (lv_at hl 1 rfl) ?_
    obtain ⟨hk0, hk⟩ := hk
    refine va_iald hx hb hK hP 9 0 rfl rfl hk0 d_Mo_replace_209 ?_
    refine lv_if_lt (tgt := 229) hx hb d_Mo_replace_210 (by decide) (fun hc => ?_) (fun hc => ?_)
    · have hv := hv.trans (if_pos hc)
      have hk := hk.1 hc
      exact B229 _ _ _ x1 x2 x3 σ hv hk (lv_sub hl [0, 1, 2, 3] rfl) hP hD hS
    · have hv := hv.trans (if_neg hc)
      have hk := hk.2 hc
      refine lv_aload_n hx hb d_Mo_replace_213 rfl (lv_at hl 0 rfl) ?_
      refine lv_aload_n hx hb d_Mo_replace_214 rfl (lv_at hl 0 rfl) ?_
      refine va_get (v := .ref (h 9)) (C := R_Mo) (T := T_Mo) (N := 51) hx hb hg in_Mo hown hK hP 0 rfl rfl 14 (by decide) (hg _ m_1273) (fun _ h9 => h9) rfl d_Mo_replace_215 ?_
      refine lv_iload_n hx hb d_Mo_replace_218 rfl (lv_at hl 1 rfl) ?_
      obtain ⟨hk0, hk⟩ := hk
      refine va_iald hx hb hK hP 9 0 rfl rfl hk0 d_Mo_replace_219 ?_
      refine lv_aload_n hx hb d_Mo_replace_220 rfl (lv_at hl 0 rfl) ?_
      refine va_get (v := .ref (h 9)) (C := R_Mo) (T := T_Mo) (N := 51) hx hb hg in_Mo hown hK hP 0 rfl rfl 14 (by decide) (hg _ m_1273) (fun _ h9 => h9) rfl d_Mo_replace_221 ?_
      refine lv_iload_n hx hb d_Mo_replace_224 rfl (lv_at hl 2 rfl) ?_
      obtain ⟨hk0, hk⟩ := hk
      refine va_iald hx hb hK hP 9 0 rfl rfl hk0 d_Mo_replace_225 ?_
      obtain ⟨hk0, hk⟩ := hk
      refine va_callv (va_runV (As := [.int (σ.1 9 x1.toNatClampNeg), .int (σ.1 9 x2.toNatClampNeg)]) (rest := []) ⟨hx, hb, hml, hown, hg⟩ (c_Mo_joinUnequal l D ty h px sa σ H.size (σ.1 9 x1.toNatClampNeg) (σ.1 9 x2.toNatClampNeg) hk0) ⟨callB_of 2 hg (gw_C m_1579) rfl rfl rfl (hg _ m_13) (hg _ m_1576) hd_Mo_joinUnequal ⟨Nat.le_of_ble_eq_true rfl, Nat.le_of_ble_eq_true rfl⟩, hg _ m_1578, hg _ ms_72⟩ (zz_preVW hM hS hA hN hK hP hD 0 rfl rfl) rfl rfl hl.1 rfl (lv_room (Nat.le_of_ble_eq_true rfl)) d_Mo_replace_226 ⟨Nat.le_of_ble_eq_true rfl, Nat.le_of_ble_eq_true rfl⟩) hS (fun q _ h => zz_free hD hS hA q h) (zz_free hD hS hA) (fun u226 t H locs ht hvm hp hP1 hz hk1 hS => ?_)
      rw [ht] at hP1
      rw [← hp] at hv hk
      have hD : va_D A (Wm ty h u226 px) := zz_D hD rfl
      have hP := hP1
      exact B229 _ _ _ x1 x2 x3 u226 hv hk (lv_sub hl [0, 1, 2, 3] rfl) hP hD hS
  have B174 : ∀ (H : Heap) (locs : List Loc) (ls : Array Slot) (x1 : Int32) (x2 : Int32) (x3 : Int32) (s0 : Int32) (σ : St), v = f_Mo_replace_174 x1 x2 x3 s0 σ → k_Mo_replace_174 x1 x2 x3 s0 σ → lv_has ls 6 [(0, .ref (h 0)), (1, .int x1), (2, .int x2), (3, .int x3)] → va_P D classes (Wm ty h σ px) H → va_D A (Wm ty h σ px) → va_S A s.heap H locs → W p l e (headSpec w_Mo_replace rm_Mo_replace).room s m args below meth c H locs 0 0 (MQ below (va_Qi (fun r (u : St) => (r, u) = v) (fun u t => va_P D classes (Wm ty h u px) t.heap) A) args s 0 0 A) (F0 m 174 ls [.int s0]) := by
    intro H locs ls x1 x2 x3 s0 σ hv hk hl hP hD hS
    unfold f_Mo_replace_174 at hv
    unfold k_Mo_replace_174 at hk
    refine lv_istore (lv' := [(5, .int s0), (0, .ref (h 0)), (1, .int x1), (2, .int x2), (3, .int x3)]) hx hb d_Mo_replace_174 hl (by decide) rfl (fun ls hl => ?_)
    refine lv_iload hx hb d_Mo_replace_176 (lv_at hl 0 rfl) ?_
    refine lv_if_ne (tgt := 188) hx hb d_Mo_replace_178 (by decide) (fun hc => ?_) (fun hc => ?_)
    · have hv := hv.trans (if_neg hc)
      have hk := hk.2 hc
      refine lv_aload_n hx hb d_Mo_replace_188 rfl (lv_at hl 1 rfl) ?_
      refine lv_aload_n hx hb d_Mo_replace_189 rfl (lv_at hl 1 rfl) ?_
      refine va_get (v := .ref (h 8)) (C := R_Mo) (T := T_Mo) (N := 51) hx hb hg in_Mo hown hK hP 0 rfl rfl 13 (by decide) (hg _ m_1272) (fun _ h9 => h9) rfl d_Mo_replace_190 ?_
      refine lv_iload_n hx hb d_Mo_replace_193 rfl (lv_at hl 2 rfl) ?_
      obtain ⟨hk0, hk⟩ := hk
      refine va_iald hx hb hK hP 8 0 rfl rfl hk0 d_Mo_replace_194 ?_
      refine lv_aload_n hx hb d_Mo_replace_195 rfl (lv_at hl 1 rfl) ?_
      refine va_get (v := .ref (h 8)) (C := R_Mo) (T := T_Mo) (N := 51) hx hb hg in_Mo hown hK hP 0 rfl rfl 13 (by decide) (hg _ m_1272) (fun _ h9 => h9) rfl d_Mo_replace_196 ?_
      refine lv_iload_n hx hb d_Mo_replace_199 rfl (lv_at hl 3 rfl) ?_
      obtain ⟨hk0, hk⟩ := hk
      refine va_iald hx hb hK hP 8 0 rfl rfl hk0 d_Mo_replace_200 ?_
      obtain ⟨hk0, hk⟩ := hk
      refine va_callv (va_runV (As := [.int (σ.1 8 x1.toNatClampNeg), .int (σ.1 8 x2.toNatClampNeg)]) (rest := []) ⟨hx, hb, hml, hown, hg⟩ (c_Mo_joinUnequal l D ty h px sa σ H.size (σ.1 8 x1.toNatClampNeg) (σ.1 8 x2.toNatClampNeg) hk0) ⟨callB_of 2 hg (gw_C m_1579) rfl rfl rfl (hg _ m_13) (hg _ m_1576) hd_Mo_joinUnequal ⟨Nat.le_of_ble_eq_true rfl, Nat.le_of_ble_eq_true rfl⟩, hg _ m_1578, hg _ ms_72⟩ (zz_preVW hM hS hA hN hK hP hD 0 rfl rfl) rfl rfl hl.1 rfl (lv_room (Nat.le_of_ble_eq_true rfl)) d_Mo_replace_201 ⟨Nat.le_of_ble_eq_true rfl, Nat.le_of_ble_eq_true rfl⟩) hS (fun q _ h => zz_free hD hS hA q h) (zz_free hD hS hA) (fun u201 t H locs ht hvm hp hP1 hz hk1 hS => ?_)
      rw [ht] at hP1
      rw [← hp] at hv hk
      have hD : va_D A (Wm ty h u201 px) := zz_D hD rfl
      have hP := hP1
      exact B204 _ _ _ x1 x2 x3 u201 hv hk (lv_sub hl [1, 2, 3, 4] rfl) hP hD hS
    · have hv := hv.trans (if_pos hc)
      have hk := hk.1 hc
      refine lv_aload_n hx hb d_Mo_replace_181 rfl (lv_at hl 1 rfl) ?_
      refine lv_iconst (v := 2) hx hb d_Mo_replace_182 (by decide) ?_
      refine lv_iload_n hx hb d_Mo_replace_183 rfl (lv_at hl 4 rfl) ?_
      obtain ⟨hk0, hk⟩ := hk
      refine va_calli (va_runV (As := [.int 2, .int x3]) (rest := []) ⟨hx, hb, hml, hown, hg⟩ (c_Mo_fails l D ty h px sa σ H.size 2 x3 hk0) ⟨callB_of 2 hg (gw_C m_1507) rfl rfl rfl (hg _ m_13) (hg _ m_1504) hd_Mo_fails ⟨Nat.le_of_ble_eq_true rfl, Nat.le_of_ble_eq_true rfl⟩, hg _ m_1506, hg _ ms_62⟩ (zz_preVW hM hS hA hN hK hP hD 0 rfl rfl) rfl rfl hl.1 rfl (lv_room (Nat.le_of_ble_eq_true rfl)) d_Mo_replace_184 ⟨Nat.le_of_ble_eq_true rfl, Nat.le_of_ble_eq_true rfl⟩) hS (fun q _ h => zz_free hD hS hA q h) (zz_free hD hS hA) (fun r184 u184 t H locs ht hvm hp hP1 hz hk1 hS => ?_)
      rw [ht] at hP1
      rw [← hp] at hv hk
      have hD : va_D A (Wm ty h u184 px) := zz_D hD rfl
      have hP := hP1
      exact B187 _ _ _ r184 u184 hv hk (lv_sub hl [] rfl) hP hD hS
  have B169 : ∀ (H : Heap) (locs : List Loc) (ls : Array Slot) (x1 : Int32) (x2 : Int32) (x3 : Int32) (σ : St), v = f_Mo_replace_169 x1 x2 x3 σ → k_Mo_replace_169 x1 x2 x3 σ → lv_has ls 6 [(0, .ref (h 0)), (1, .int x1), (2, .int x2), (3, .int x3)] → va_P D classes (Wm ty h σ px) H → va_D A (Wm ty h σ px) → va_S A s.heap H locs → W p l e (headSpec w_Mo_replace rm_Mo_replace).room s m args below meth c H locs 0 0 (MQ below (va_Qi (fun r (u : St) => (r, u) = v) (fun u t => va_P D classes (Wm ty h u px) t.heap) A) args s 0 0 A) (F0 m 169 ls []) := by
    intro H locs ls x1 x2 x3 σ hv hk hl hP hD hS
    unfold f_Mo_replace_169 at hv
    unfold k_Mo_replace_169 at hk
    refine lv_iconst (v := 1) hx hb d_Mo_replace_169 (by decide) ?_
    refine lv_goto (tgt := 174) hx hb d_Mo_replace_170 (by decide) ?_
    exact B174 _ _ _ x1 x2 x3 1 σ hv hk (lv_sub hl [0, 1, 2, 3] rfl) hP hD hS
  have B173 : ∀ (H : Heap) (locs : List Loc) (ls : Array Slot) (x1 : Int32) (x2 : Int32) (x3 : Int32) (σ : St), v = f_Mo_replace_173 x1 x2 x3 σ → k_Mo_replace_173 x1 x2 x3 σ → lv_has ls 6 [(0, .ref (h 0)), (1, .int x1), (2, .int x2), (3, .int x3)] → va_P D classes (Wm ty h σ px) H → va_D A (Wm ty h σ px) → va_S A s.heap H locs → W p l e (headSpec w_Mo_replace rm_Mo_replace).room s m args below meth c H locs 0 0 (MQ below (va_Qi (fun r (u : St) => (r, u) = v) (fun u t => va_P D classes (Wm ty h u px) t.heap) A) args s 0 0 A) (F0 m 173 ls []) := by
    intro H locs ls x1 x2 x3 σ hv hk hl hP hD hS
    unfold f_Mo_replace_173 at hv
    unfold k_Mo_replace_173 at hk
    refine lv_iconst (v := 0) hx hb d_Mo_replace_173 (by decide) ?_
    exact B174 _ _ _ x1 x2 x3 0 σ hv hk (lv_sub hl [0, 1, 2, 3] rfl) hP hD hS
  have B103 : ∀ (H : Heap) (locs : List Loc) (ls : Array Slot) (x1 : Int32) (x2 : Int32) (x3 : Int32) (s0 : Int32) (σ : St), v = f_Mo_replace_103 x1 x2 x3 s0 σ → k_Mo_replace_103 x1 x2 x3 s0 σ → lv_has ls 6 [(0, .ref (h 0)), (1, .int x1), (2, .int x2), (3, .int x3)] → va_P D classes (Wm ty h σ px) H → va_D A (Wm ty h σ px) → va_S A s.heap H locs → W p l e (headSpec w_Mo_replace rm_Mo_replace).room s m args below meth c H locs 0 0 (MQ below (va_Qi (fun r (u : St) => (r, u) = v) (fun u t => va_P D classes (Wm ty h u px) t.heap) A) args s 0 0 A) (F0 m 103 ls [.int s0]) := by
    intro H locs ls x1 x2 x3 s0 σ hv hk hl hP hD hS
    unfold f_Mo_replace_103 at hv
    unfold k_Mo_replace_103 at hk
    refine lv_istore (lv' := [(5, .int s0), (0, .ref (h 0)), (1, .int x1), (2, .int x2), (3, .int x3)]) hx hb d_Mo_replace_103 hl (by decide) rfl (fun ls hl => ?_)
    refine lv_iload hx hb d_Mo_replace_105 (lv_at hl 0 rfl) ?_
    refine lv_if_eq (tgt := 173) hx hb d_Mo_replace_107 (by decide) (fun hc => ?_) (fun hc => ?_)
    · have hv := hv.trans (if_pos hc)
      have hk := hk.1 hc
      exact B173 _ _ _ x1 x2 x3 σ hv hk (lv_sub hl [1, 2, 3, 4] rfl) hP hD hS
    · have hv := hv.trans (if_neg hc)
      have hk := hk.2 hc
      refine lv_aload_n hx hb d_Mo_replace_110 rfl (lv_at hl 1 rfl) ?_
      refine va_get (v := .ref (h 6)) (C := R_Mo) (T := T_Mo) (N := 51) hx hb hg in_Mo hown hK hP 0 rfl rfl 11 (by decide) (hg _ m_1270) (fun _ h9 => h9) rfl d_Mo_replace_111 ?_
      refine lv_aload_n hx hb d_Mo_replace_114 rfl (lv_at hl 1 rfl) ?_
      refine va_get (v := .ref (h 8)) (C := R_Mo) (T := T_Mo) (N := 51) hx hb hg in_Mo hown hK hP 0 rfl rfl 13 (by decide) (hg _ m_1272) (fun _ h9 => h9) rfl d_Mo_replace_115 ?_
      refine lv_iload_n hx hb d_Mo_replace_118 rfl (lv_at hl 2 rfl) ?_
      obtain ⟨hk0, hk⟩ := hk
      refine va_iald hx hb hK hP 8 0 rfl rfl hk0 d_Mo_replace_119 ?_
      obtain ⟨hk0, hk⟩ := hk
      refine va_iald hx hb hK hP 6 0 rfl rfl hk0 d_Mo_replace_120 ?_
      refine lv_aload_n hx hb d_Mo_replace_121 rfl (lv_at hl 1 rfl) ?_
      refine va_get (v := .ref (h 6)) (C := R_Mo) (T := T_Mo) (N := 51) hx hb hg in_Mo hown hK hP 0 rfl rfl 11 (by decide) (hg _ m_1270) (fun _ h9 => h9) rfl d_Mo_replace_122 ?_
      refine lv_aload_n hx hb d_Mo_replace_125 rfl (lv_at hl 1 rfl) ?_
      refine va_get (v := .ref (h 8)) (C := R_Mo) (T := T_Mo) (N := 51) hx hb hg in_Mo hown hK hP 0 rfl rfl 13 (by decide) (hg _ m_1272) (fun _ h9 => h9) rfl d_Mo_replace_126 ?_
      refine lv_iload_n hx hb d_Mo_replace_129 rfl (lv_at hl 3 rfl) ?_
      obtain ⟨hk0, hk⟩ := hk
      refine va_iald hx hb hK hP 8 0 rfl rfl hk0 d_Mo_replace_130 ?_
      obtain ⟨hk0, hk⟩ := hk
      refine va_iald hx hb hK hP 6 0 rfl rfl hk0 d_Mo_replace_131 ?_
      refine lv_icmp_ne (tgt := 173) hx hb d_Mo_replace_132 (by decide) (fun hc => ?_) (fun hc => ?_)
      · have hv := hv.trans (if_neg hc)
        have hk := hk.2 hc
        exact B173 _ _ _ x1 x2 x3 σ hv hk (lv_sub hl [1, 2, 3, 4] rfl) hP hD hS
      · have hv := hv.trans (if_pos hc)
        have hk := hk.1 hc
        refine lv_aload_n hx hb d_Mo_replace_135 rfl (lv_at hl 1 rfl) ?_
        refine va_get (v := .ref (h 9)) (C := R_Mo) (T := T_Mo) (N := 51) hx hb hg in_Mo hown hK hP 0 rfl rfl 14 (by decide) (hg _ m_1273) (fun _ h9 => h9) rfl d_Mo_replace_136 ?_
        refine lv_iload_n hx hb d_Mo_replace_139 rfl (lv_at hl 2 rfl) ?_
        obtain ⟨hk0, hk⟩ := hk
        refine va_iald hx hb hK hP 9 0 rfl rfl hk0 d_Mo_replace_140 ?_
        refine lv_if_lt (tgt := 169) hx hb d_Mo_replace_141 (by decide) (fun hc => ?_) (fun hc => ?_)
        · have hv := hv.trans (if_pos hc)
          have hk := hk.1 hc
          exact B169 _ _ _ x1 x2 x3 σ hv hk (lv_sub hl [1, 2, 3, 4] rfl) hP hD hS
        · have hv := hv.trans (if_neg hc)
          have hk := hk.2 hc
          refine lv_aload_n hx hb d_Mo_replace_144 rfl (lv_at hl 1 rfl) ?_
          refine va_get (v := .ref (h 6)) (C := R_Mo) (T := T_Mo) (N := 51) hx hb hg in_Mo hown hK hP 0 rfl rfl 11 (by decide) (hg _ m_1270) (fun _ h9 => h9) rfl d_Mo_replace_145 ?_
          refine lv_aload_n hx hb d_Mo_replace_148 rfl (lv_at hl 1 rfl) ?_
          refine va_get (v := .ref (h 9)) (C := R_Mo) (T := T_Mo) (N := 51) hx hb hg in_Mo hown hK hP 0 rfl rfl 14 (by decide) (hg _ m_1273) (fun _ h9 => h9) rfl d_Mo_replace_149 ?_
          refine lv_iload_n hx hb d_Mo_replace_152 rfl (lv_at hl 2 rfl) ?_
          obtain ⟨hk0, hk⟩ := hk
          refine va_iald hx hb hK hP 9 0 rfl rfl hk0 d_Mo_replace_153 ?_
          obtain ⟨hk0, hk⟩ := hk
          refine va_iald hx hb hK hP 6 0 rfl rfl hk0 d_Mo_replace_154 ?_
          refine lv_aload_n hx hb d_Mo_replace_155 rfl (lv_at hl 1 rfl) ?_
          refine va_get (v := .ref (h 6)) (C := R_Mo) (T := T_Mo) (N := 51) hx hb hg in_Mo hown hK hP 0 rfl rfl 11 (by decide) (hg _ m_1270) (fun _ h9 => h9) rfl d_Mo_replace_156 ?_
          refine lv_aload_n hx hb d_Mo_replace_159 rfl (lv_at hl 1 rfl) ?_
          refine va_get (v := .ref (h 9)) (C := R_Mo) (T := T_Mo) (N := 51) hx hb hg in_Mo hown hK hP 0 rfl rfl 14 (by decide) (hg _ m_1273) (fun _ h9 => h9) rfl d_Mo_replace_160 ?_
          refine lv_iload_n hx hb d_Mo_replace_163 rfl (lv_at hl 3 rfl) ?_
          obtain ⟨hk0, hk⟩ := hk
          refine va_iald hx hb hK hP 9 0 rfl rfl hk0 d_Mo_replace_164 ?_
          obtain ⟨hk0, hk⟩ := hk
          refine va_iald hx hb hK hP 6 0 rfl rfl hk0 d_Mo_replace_165 ?_
          refine lv_icmp_ne (tgt := 173) hx hb d_Mo_replace_166 (by decide) (fun hc => ?_) (fun hc => ?_)
          · have hv := hv.trans (if_neg hc)
            have hk := hk.2 hc
            exact B173 _ _ _ x1 x2 x3 σ hv hk (lv_sub hl [1, 2, 3, 4] rfl) hP hD hS
          · have hv := hv.trans (if_pos hc)
            have hk := hk.1 hc
            exact B169 _ _ _ x1 x2 x3 σ hv hk (lv_sub hl [1, 2, 3, 4] rfl) hP hD hS
  have B102 : ∀ (H : Heap) (locs : List Loc) (ls : Array Slot) (x1 : Int32) (x2 : Int32) (x3 : Int32) (σ : St), v = f_Mo_replace_102 x1 x2 x3 σ → k_Mo_replace_102 x1 x2 x3 σ → lv_has ls 6 [(0, .ref (h 0)), (1, .int x1), (2, .int x2), (3, .int x3)] → va_P D classes (Wm ty h σ px) H → va_D A (Wm ty h σ px) → va_S A s.heap H locs → W p l e (headSpec w_Mo_replace rm_Mo_replace).room s m args below meth c H locs 0 0 (MQ below (va_Qi (fun r (u : St) => (r, u) = v) (fun u t => va_P D classes (Wm ty h u px) t.heap) A) args s 0 0 A) (F0 m 102 ls []) := by
    intro H locs ls x1 x2 x3 σ hv hk hl hP hD hS
    unfold f_Mo_replace_102 at hv
    unfold k_Mo_replace_102 at hk
    refine lv_iconst (v := 0) hx hb d_Mo_replace_102 (by decide) ?_
    exact B103 _ _ _ x1 x2 x3 0 σ hv hk (lv_sub hl [0, 1, 2, 3] rfl) hP hD hS
  have B44 : ∀ (H : Heap) (locs : List Loc) (ls : Array Slot) (x1 : Int32) (x2 : Int32) (x3 : Int32) (x4 : Int32) (σ : St), v = f_Mo_replace_44 x1 x2 x3 x4 σ → k_Mo_replace_44 x1 x2 x3 x4 σ → lv_has ls 6 [(0, .ref (h 0)), (1, .int x1), (2, .int x2), (3, .int x3), (4, .int x4)] → va_P D classes (Wm ty h σ px) H → va_D A (Wm ty h σ px) → va_S A s.heap H locs → W p l e (headSpec w_Mo_replace rm_Mo_replace).room s m args below meth c H locs 0 0 (MQ below (va_Qi (fun r (u : St) => (r, u) = v) (fun u t => va_P D classes (Wm ty h u px) t.heap) A) args s 0 0 A) (F0 m 44 ls []) := by
    intro H locs ls x1 x2 x3 x4 σ hv hk hl hP hD hS
    unfold f_Mo_replace_44 at hv
    unfold k_Mo_replace_44 at hk
    refine lv_iload hx hb d_Mo_replace_44 (lv_at hl 4 rfl) ?_
    refine lv_aload_n hx hb d_Mo_replace_46 rfl (lv_at hl 0 rfl) ?_
    refine va_get (v := .ref (h 5)) (C := R_Mo) (T := T_Mo) (N := 51) hx hb hg in_Mo hown hK hP 0 rfl rfl 10 (by decide) (hg _ m_1269) (fun _ h9 => h9) rfl d_Mo_replace_47 ?_
    refine lv_iload_n hx hb d_Mo_replace_50 rfl (lv_at hl 2 rfl) ?_
    obtain ⟨hk0, hk⟩ := hk
    refine va_iald hx hb hK hP 5 0 rfl rfl hk0 d_Mo_replace_51 ?_
    refine lv_icmp_ne (tgt := 102) hx hb d_Mo_replace_52 (by decide) (fun hc => ?_) (fun hc => ?_)
    · have hv := hv.trans (if_neg hc)
      have hk := hk.2 hc
      exact B102 _ _ _ x1 x2 x3 σ hv hk (lv_sub hl [0, 1, 2, 3] rfl) hP hD hS
    · have hv := hv.trans (if_pos hc)
      have hk := hk.1 hc
      refine lv_iload hx hb d_Mo_replace_55 (lv_at hl 4 rfl) ?_
      refine lv_iconst (v := 1) hx hb d_Mo_replace_57 (by decide) ?_
      refine lv_icmp_eq (tgt := 102) hx hb d_Mo_replace_58 (by decide) (fun hc => ?_) (fun hc => ?_)
      · have hv := hv.trans (if_pos hc)
        have hk := hk.1 hc
        exact B102 _ _ _ x1 x2 x3 σ hv hk (lv_sub hl [0, 1, 2, 3] rfl) hP hD hS
      · have hv := hv.trans (if_neg hc)
        have hk := hk.2 hc
        refine lv_iload hx hb d_Mo_replace_61 (lv_at hl 4 rfl) ?_
        refine lv_iconst (v := 2) hx hb d_Mo_replace_63 (by decide) ?_
        refine lv_icmp_eq (tgt := 102) hx hb d_Mo_replace_64 (by decide) (fun hc => ?_) (fun hc => ?_)
        · have hv := hv.trans (if_pos hc)
          have hk := hk.1 hc
          exact B102 _ _ _ x1 x2 x3 σ hv hk (lv_sub hl [0, 1, 2, 3] rfl) hP hD hS
        · have hv := hv.trans (if_neg hc)
          have hk := hk.2 hc
          refine lv_iload hx hb d_Mo_replace_67 (lv_at hl 4 rfl) ?_
          refine lv_bipush (v := 10) hx hb d_Mo_replace_69 (by decide) ?_
          refine lv_icmp_eq (tgt := 102) hx hb d_Mo_replace_71 (by decide) (fun hc => ?_) (fun hc => ?_)
          · have hv := hv.trans (if_pos hc)
            have hk := hk.1 hc
            exact B102 _ _ _ x1 x2 x3 σ hv hk (lv_sub hl [0, 1, 2, 3] rfl) hP hD hS
          · have hv := hv.trans (if_neg hc)
            have hk := hk.2 hc
            refine lv_aload_n hx hb d_Mo_replace_74 rfl (lv_at hl 0 rfl) ?_
            refine va_get (v := .ref (h 10)) (C := R_Mo) (T := T_Mo) (N := 51) hx hb hg in_Mo hown hK hP 0 rfl rfl 15 (by decide) (hg _ m_1274) (fun _ h9 => h9) rfl d_Mo_replace_75 ?_
            refine lv_iload_n hx hb d_Mo_replace_78 rfl (lv_at hl 1 rfl) ?_
            obtain ⟨hk0, hk⟩ := hk
            refine va_iald hx hb hK hP 10 0 rfl rfl hk0 d_Mo_replace_79 ?_
            refine lv_aload_n hx hb d_Mo_replace_80 rfl (lv_at hl 0 rfl) ?_
            refine va_get (v := .ref (h 10)) (C := R_Mo) (T := T_Mo) (N := 51) hx hb hg in_Mo hown hK hP 0 rfl rfl 15 (by decide) (hg _ m_1274) (fun _ h9 => h9) rfl d_Mo_replace_81 ?_
            refine lv_iload_n hx hb d_Mo_replace_84 rfl (lv_at hl 2 rfl) ?_
            obtain ⟨hk0, hk⟩ := hk
            refine va_iald hx hb hK hP 10 0 rfl rfl hk0 d_Mo_replace_85 ?_
            refine lv_icmp_ne (tgt := 102) hx hb d_Mo_replace_86 (by decide) (fun hc => ?_) (fun hc => ?_)
            · have hv := hv.trans (if_neg hc)
              have hk := hk.2 hc
              exact B102 _ _ _ x1 x2 x3 σ hv hk (lv_sub hl [0, 1, 2, 3] rfl) hP hD hS
            · have hv := hv.trans (if_pos hc)
              have hk := hk.1 hc
              refine lv_aload_n hx hb d_Mo_replace_89 rfl (lv_at hl 0 rfl) ?_
              refine va_get (v := .ref (h 8)) (C := R_Mo) (T := T_Mo) (N := 51) hx hb hg in_Mo hown hK hP 0 rfl rfl 13 (by decide) (hg _ m_1272) (fun _ h9 => h9) rfl d_Mo_replace_90 ?_
              refine lv_iload_n hx hb d_Mo_replace_93 rfl (lv_at hl 1 rfl) ?_
              obtain ⟨hk0, hk⟩ := hk
              refine va_iald hx hb hK hP 8 0 rfl rfl hk0 d_Mo_replace_94 ?_
              refine lv_if_lt (tgt := 102) hx hb d_Mo_replace_95 (by decide) (fun hc => ?_) (fun hc => ?_)
              · have hv := hv.trans (if_pos hc)
                have hk := hk.1 hc
                exact B102 _ _ _ x1 x2 x3 σ hv hk (lv_sub hl [0, 1, 2, 3] rfl) hP hD hS
              · have hv := hv.trans (if_neg hc)
                have hk := hk.2 hc
                refine lv_iconst (v := 1) hx hb d_Mo_replace_98 (by decide) ?_
                refine lv_goto (tgt := 103) hx hb d_Mo_replace_99 (by decide) ?_
                exact B103 _ _ _ x1 x2 x3 1 σ hv hk (lv_sub hl [0, 1, 2, 3] rfl) hP hD hS
  have B4 : ∀ (H : Heap) (locs : List Loc) (ls : Array Slot) (x1 : Int32) (x2 : Int32) (s0 : Int32) (σ : St), v = f_Mo_replace_4 x1 x2 s0 σ → k_Mo_replace_4 x1 x2 s0 σ → lv_has ls 6 [(0, .ref (h 0)), (1, .int x1), (2, .int x2)] → va_P D classes (Wm ty h σ px) H → va_D A (Wm ty h σ px) → va_S A s.heap H locs → W p l e (headSpec w_Mo_replace rm_Mo_replace).room s m args below meth c H locs 0 0 (MQ below (va_Qi (fun r (u : St) => (r, u) = v) (fun u t => va_P D classes (Wm ty h u px) t.heap) A) args s 0 0 A) (F0 m 4 ls [.int s0]) := by
    intro H locs ls x1 x2 s0 σ hv hk hl hP hD hS
    unfold f_Mo_replace_4 at hv
    unfold k_Mo_replace_4 at hk
    refine lv_if_eq (tgt := 9) hx hb d_Mo_replace_4 (by decide) (fun hc => ?_) (fun hc => ?_)
    · have hv := hv.trans (if_pos hc)
      have hk := hk.1 hc
      refine lv_sipush (v := 17185) hx hb d_Mo_replace_9 (by decide) ?_
      refine lv_istore_n (lv' := [(3, .int 17185), (0, .ref (h 0)), (1, .int x1), (2, .int x2)]) hx hb d_Mo_replace_12 rfl hl (by decide) rfl (fun ls hl => ?_)
      refine lv_aload_n hx hb d_Mo_replace_13 rfl (lv_at hl 1 rfl) ?_
      refine lv_iload_n hx hb d_Mo_replace_14 rfl (lv_at hl 2 rfl) ?_
      obtain ⟨hk0, hk⟩ := hk
      refine zz_callV (va_runV (As := [.int x1]) (rest := []) ⟨hx, hb, hml, hown, hg⟩ (c_Mo_isTerm l D ty h px sa σ x1 hk0) ⟨callB_of 1 hg (gw_C m_1519) rfl rfl rfl (hg _ m_13) (hg _ m_1516) hd_Mo_isTerm ⟨Nat.le_of_ble_eq_true rfl, Nat.le_of_ble_eq_true rfl⟩, hg _ m_1518, hg _ ms_64⟩ (zz_preV (hM.at hS) hN hK hP 0 rfl rfl) rfl rfl hl.1 rfl (lv_room (Nat.le_of_ble_eq_true rfl)) d_Mo_replace_15 ⟨Nat.le_of_ble_eq_true rfl, Nat.le_of_ble_eq_true rfl⟩) ?_
      refine lv_if_eq (tgt := 29) hx hb d_Mo_replace_18 (by decide) (fun hc => ?_) (fun hc => ?_)
      · have hv := hv.trans (if_pos hc)
        have hk := hk.1 hc
        exact B29 _ _ _ 17185 σ hv hk (lv_sub hl [1, 0] rfl) hP hD hS
      · have hv := hv.trans (if_neg hc)
        have hk := hk.2 hc
        refine lv_aload_n hx hb d_Mo_replace_21 rfl (lv_at hl 1 rfl) ?_
        refine lv_iload_n hx hb d_Mo_replace_22 rfl (lv_at hl 3 rfl) ?_
        obtain ⟨hk0, hk⟩ := hk
        refine zz_callV (va_runV (As := [.int x2]) (rest := []) ⟨hx, hb, hml, hown, hg⟩ (c_Mo_isTerm l D ty h px sa σ x2 hk0) ⟨callB_of 1 hg (gw_C m_1519) rfl rfl rfl (hg _ m_13) (hg _ m_1516) hd_Mo_isTerm ⟨Nat.le_of_ble_eq_true rfl, Nat.le_of_ble_eq_true rfl⟩, hg _ m_1518, hg _ ms_64⟩ (zz_preV (hM.at hS) hN hK hP 0 rfl rfl) rfl rfl hl.1 rfl (lv_room (Nat.le_of_ble_eq_true rfl)) d_Mo_replace_23 ⟨Nat.le_of_ble_eq_true rfl, Nat.le_of_ble_eq_true rfl⟩) ?_
        refine lv_if_ne (tgt := 36) hx hb d_Mo_replace_26 (by decide) (fun hc => ?_) (fun hc => ?_)
        · have hv := hv.trans (if_neg hc)
          have hk := hk.2 hc
          refine lv_aload_n hx hb d_Mo_replace_36 rfl (lv_at hl 1 rfl) ?_
          refine va_get (v := .ref (h 5)) (C := R_Mo) (T := T_Mo) (N := 51) hx hb hg in_Mo hown hK hP 0 rfl rfl 10 (by decide) (hg _ m_1269) (fun _ h9 => h9) rfl d_Mo_replace_37 ?_
          refine lv_iload_n hx hb d_Mo_replace_40 rfl (lv_at hl 2 rfl) ?_
          obtain ⟨hk0, hk⟩ := hk
          refine va_iald hx hb hK hP 5 0 rfl rfl hk0 d_Mo_replace_41 ?_
          refine lv_istore (lv' := [(4, .int (σ.1 5 x1.toNatClampNeg)), (3, .int 17185), (0, .ref (h 0)), (1, .int x1), (2, .int x2)]) hx hb d_Mo_replace_42 hl (by decide) rfl (fun ls hl => ?_)
          exact B44 _ _ _ x1 x2 17185 (σ.1 5 x1.toNatClampNeg) σ hv hk (lv_sub hl [2, 3, 4, 1, 0] rfl) hP hD hS
        · have hv := hv.trans (if_pos hc)
          have hk := hk.1 hc
          exact B29 _ _ _ 17185 σ hv hk (lv_sub hl [1, 0] rfl) hP hD hS
    · have hv := hv.trans (if_neg hc)
      have hk := hk.2 hc
      refine lv_iconst (v := -1) hx hb d_Mo_replace_7 (by decide) ?_
      exact W.iret hx hb hr (fun t ht hW => ⟨⟨_, _, rfl, hv.symm, by dsimp only; rw [ht]; exact hP⟩, hS.F ht⟩) hS.2.2 d_Mo_replace_8
  unfold f_Mo_replace at hv
  unfold k_Mo_replace at hk
  refine lv_aload_n hx hb d_Mo_replace_0 rfl (lv_at hl 0 rfl) ?_
  obtain ⟨hk0, hk⟩ := hk
  refine va_calli (va_runV (As := []) (rest := []) ⟨hx, hb, hml, hown, hg⟩ (c_Mo_begin l D ty h px sa σ s.heap.size  hk0) ⟨callB_of 0 hg (gw_C m_1443) rfl rfl rfl (hg _ m_13) (hg _ m_1440) hd_Mo_begin ⟨Nat.le_of_ble_eq_true rfl, Nat.le_of_ble_eq_true rfl⟩, hg _ m_1442, hg _ ms_49⟩ (zz_preVW hM hS hA hN hK hP hD 0 rfl rfl) rfl rfl hl.1 rfl (lv_room (Nat.le_of_ble_eq_true rfl)) d_Mo_replace_1 ⟨Nat.le_of_ble_eq_true rfl, Nat.le_of_ble_eq_true rfl⟩) hS (fun q _ h => zz_free hD hS hA q h) (zz_free hD hS hA) (fun r1 u1 t H locs ht hvm hp hP1 hz hk1 hS => ?_)
  rw [ht] at hP1
  rw [← hp] at hv hk
  have hD : va_D A (Wm ty h u1 px) := zz_D hD rfl
  have hP := hP1
  exact B4 _ _ _ a1 a2 r1 u1 hv hk (lv_sub hl [0, 1, 2] rfl) hP hD hS

-- ClauseLedgerModel.need(I)V
abbrev b_Mo_need : ByteArray := prog_14_method_44_code
def y_Mo_need : MethodName := ⟨"ClauseLedgerModel", "need", "(I)V"⟩
theorem hd_Mo_need : y_Mo_need.cls ≠ "java/lang/invoke/MethodHandle" ∧ y_Mo_need.cls ≠ "java/lang/invoke/VarHandle" ∧ (parseMethodDescriptor y_Mo_need.desc).map (fun d => d.parameters.length) = some 1 := by decide +kernel
theorem d_Mo_need_0 : decode b_Mo_need 0 = .ok (.iconst 0, 1) := by decide +kernel
theorem d_Mo_need_1 : decode b_Mo_need 1 = .ok (.istore_n 2, 1) := by decide +kernel
theorem d_Mo_need_2 : decode b_Mo_need 2 = .ok (.iload_n 2, 1) := by decide +kernel
theorem d_Mo_need_3 : decode b_Mo_need 3 = .ok (.aload_n 0, 1) := by decide +kernel
theorem d_Mo_need_4 : decode b_Mo_need 4 = .ok (.getfield 109, 3) := by decide +kernel
theorem d_Mo_need_7 : decode b_Mo_need 7 = .ok (.if_icmp .ge 25, 3) := by decide +kernel
theorem d_Mo_need_10 : decode b_Mo_need 10 = .ok (.aload_n 0, 1) := by decide +kernel
theorem d_Mo_need_11 : decode b_Mo_need 11 = .ok (.getfield 100, 3) := by decide +kernel
theorem d_Mo_need_14 : decode b_Mo_need 14 = .ok (.iload_n 2, 1) := by decide +kernel
theorem d_Mo_need_15 : decode b_Mo_need 15 = .ok (.iload_n 2, 1) := by decide +kernel
theorem d_Mo_need_16 : decode b_Mo_need 16 = .ok (.iload_n 1, 1) := by decide +kernel
theorem d_Mo_need_17 : decode b_Mo_need 17 = .ok (.if_icmp .ne 7, 3) := by decide +kernel
theorem d_Mo_need_20 : decode b_Mo_need 20 = .ok (.iconst 1, 1) := by decide +kernel
theorem d_Mo_need_21 : decode b_Mo_need 21 = .ok (.goto 4, 3) := by decide +kernel
theorem d_Mo_need_24 : decode b_Mo_need 24 = .ok (.iconst 0, 1) := by decide +kernel
theorem d_Mo_need_25 : decode b_Mo_need 25 = .ok (.bastore, 1) := by decide +kernel
theorem d_Mo_need_26 : decode b_Mo_need 26 = .ok (.iinc 2 1, 3) := by decide +kernel
theorem d_Mo_need_29 : decode b_Mo_need 29 = .ok (.goto (-27), 3) := by decide +kernel
theorem d_Mo_need_32 : decode b_Mo_need 32 = .ok (.iload_n 1, 1) := by decide +kernel
theorem d_Mo_need_33 : decode b_Mo_need 33 = .ok (.istore_n 2, 1) := by decide +kernel
theorem d_Mo_need_34 : decode b_Mo_need 34 = .ok (.iload_n 2, 1) := by decide +kernel
theorem d_Mo_need_35 : decode b_Mo_need 35 = .ok (.ifCond .lt 81, 3) := by decide +kernel
theorem d_Mo_need_38 : decode b_Mo_need 38 = .ok (.aload_n 0, 1) := by decide +kernel
theorem d_Mo_need_39 : decode b_Mo_need 39 = .ok (.getfield 100, 3) := by decide +kernel
theorem d_Mo_need_42 : decode b_Mo_need 42 = .ok (.iload_n 2, 1) := by decide +kernel
theorem d_Mo_need_43 : decode b_Mo_need 43 = .ok (.baload, 1) := by decide +kernel
theorem d_Mo_need_44 : decode b_Mo_need 44 = .ok (.ifCond .eq 25, 3) := by decide +kernel
theorem d_Mo_need_47 : decode b_Mo_need 47 = .ok (.aload_n 0, 1) := by decide +kernel
theorem d_Mo_need_48 : decode b_Mo_need 48 = .ok (.getfield 26, 3) := by decide +kernel
theorem d_Mo_need_51 : decode b_Mo_need 51 = .ok (.iload_n 2, 1) := by decide +kernel
theorem d_Mo_need_52 : decode b_Mo_need 52 = .ok (.iaload, 1) := by decide +kernel
theorem d_Mo_need_53 : decode b_Mo_need 53 = .ok (.iconst 3, 1) := by decide +kernel
theorem d_Mo_need_54 : decode b_Mo_need 54 = .ok (.if_icmp .ne 15, 3) := by decide +kernel
theorem d_Mo_need_57 : decode b_Mo_need 57 = .ok (.aload_n 0, 1) := by decide +kernel
theorem d_Mo_need_58 : decode b_Mo_need 58 = .ok (.getfield 100, 3) := by decide +kernel
theorem d_Mo_need_61 : decode b_Mo_need 61 = .ok (.aload_n 0, 1) := by decide +kernel
theorem d_Mo_need_62 : decode b_Mo_need 62 = .ok (.getfield 35, 3) := by decide +kernel
theorem d_Mo_need_65 : decode b_Mo_need 65 = .ok (.iload_n 2, 1) := by decide +kernel
theorem d_Mo_need_66 : decode b_Mo_need 66 = .ok (.iaload, 1) := by decide +kernel
theorem d_Mo_need_67 : decode b_Mo_need 67 = .ok (.iconst 1, 1) := by decide +kernel
theorem d_Mo_need_68 : decode b_Mo_need 68 = .ok (.bastore, 1) := by decide +kernel
theorem d_Mo_need_69 : decode b_Mo_need 69 = .ok (.aload_n 0, 1) := by decide +kernel
theorem d_Mo_need_70 : decode b_Mo_need 70 = .ok (.getfield 100, 3) := by decide +kernel
theorem d_Mo_need_73 : decode b_Mo_need 73 = .ok (.iload_n 2, 1) := by decide +kernel
theorem d_Mo_need_74 : decode b_Mo_need 74 = .ok (.baload, 1) := by decide +kernel
theorem d_Mo_need_75 : decode b_Mo_need 75 = .ok (.ifCond .eq 35, 3) := by decide +kernel
theorem d_Mo_need_78 : decode b_Mo_need 78 = .ok (.aload_n 0, 1) := by decide +kernel
theorem d_Mo_need_79 : decode b_Mo_need 79 = .ok (.getfield 26, 3) := by decide +kernel
theorem d_Mo_need_82 : decode b_Mo_need 82 = .ok (.iload_n 2, 1) := by decide +kernel
theorem d_Mo_need_83 : decode b_Mo_need 83 = .ok (.iaload, 1) := by decide +kernel
theorem d_Mo_need_84 : decode b_Mo_need 84 = .ok (.iconst 3, 1) := by decide +kernel
theorem d_Mo_need_85 : decode b_Mo_need 85 = .ok (.if_icmp .eq 13, 3) := by decide +kernel
theorem d_Mo_need_88 : decode b_Mo_need 88 = .ok (.aload_n 0, 1) := by decide +kernel
theorem d_Mo_need_89 : decode b_Mo_need 89 = .ok (.getfield 26, 3) := by decide +kernel
theorem d_Mo_need_92 : decode b_Mo_need 92 = .ok (.iload_n 2, 1) := by decide +kernel
theorem d_Mo_need_93 : decode b_Mo_need 93 = .ok (.iaload, 1) := by decide +kernel
theorem d_Mo_need_94 : decode b_Mo_need 94 = .ok (.iconst 4, 1) := by decide +kernel
theorem d_Mo_need_95 : decode b_Mo_need 95 = .ok (.if_icmp .ne 15, 3) := by decide +kernel
theorem d_Mo_need_98 : decode b_Mo_need 98 = .ok (.aload_n 0, 1) := by decide +kernel
theorem d_Mo_need_99 : decode b_Mo_need 99 = .ok (.getfield 100, 3) := by decide +kernel
theorem d_Mo_need_102 : decode b_Mo_need 102 = .ok (.aload_n 0, 1) := by decide +kernel
theorem d_Mo_need_103 : decode b_Mo_need 103 = .ok (.getfield 38, 3) := by decide +kernel
theorem d_Mo_need_106 : decode b_Mo_need 106 = .ok (.iload_n 2, 1) := by decide +kernel
theorem d_Mo_need_107 : decode b_Mo_need 107 = .ok (.iaload, 1) := by decide +kernel
theorem d_Mo_need_108 : decode b_Mo_need 108 = .ok (.iconst 1, 1) := by decide +kernel
theorem d_Mo_need_109 : decode b_Mo_need 109 = .ok (.bastore, 1) := by decide +kernel
theorem d_Mo_need_110 : decode b_Mo_need 110 = .ok (.iinc 2 (-1), 3) := by decide +kernel
theorem d_Mo_need_113 : decode b_Mo_need 113 = .ok (.goto (-79), 3) := by decide +kernel
theorem d_Mo_need_116 : decode b_Mo_need 116 = .ok (.return_, 1) := by decide +kernel
def f_Mo_need_26 (F2 : (Int32 → Int32 → St → St)) (x1 : Int32) (x2 : Int32) (σ : St) : St := F2 x1 (x2 + 1) σ
def k_Mo_need_26 (K2 : (Int32 → Int32 → St → Prop)) (x1 : Int32) (x2 : Int32) (σ : St) : Prop := K2 x1 (x2 + 1) σ
def f_Mo_need_25 (F2 : (Int32 → Int32 → St → St)) (x1 : Int32) (x2 : Int32) (s0 : Int32) (s1 : Int32) (σ : St) : St := f_Mo_need_26 F2 x1 x2 (sA σ 29 s1 (vp_nar .boolean s0))
def k_Mo_need_25 (K2 : (Int32 → Int32 → St → Prop)) (x1 : Int32) (x2 : Int32) (s0 : Int32) (s1 : Int32) (σ : St) : Prop := vp_in s1 400 ∧ (k_Mo_need_26 K2 x1 x2 (sA σ 29 s1 (vp_nar .boolean s0)))
def f_Mo_need_110 (F34 : (Int32 → St → St)) (x2 : Int32) (σ : St) : St := F34 (x2 + (-1)) σ
def k_Mo_need_110 (K34 : (Int32 → St → Prop)) (x2 : Int32) (σ : St) : Prop := K34 (x2 + (-1)) σ
def f_Mo_need_98 (F34 : (Int32 → St → St)) (x2 : Int32) (σ : St) : St := f_Mo_need_110 F34 x2 (sA σ 29 (σ.1 9 x2.toNatClampNeg) (vp_nar .boolean 1))
def k_Mo_need_98 (K34 : (Int32 → St → Prop)) (x2 : Int32) (σ : St) : Prop := vp_in x2 400 ∧ (vp_in (σ.1 9 x2.toNatClampNeg) 400 ∧ (k_Mo_need_110 K34 x2 (sA σ 29 (σ.1 9 x2.toNatClampNeg) (vp_nar .boolean 1))))
def f_Mo_need_69 (F34 : (Int32 → St → St)) (x2 : Int32) (σ : St) : St := if (σ.1 29 x2.toNatClampNeg) = 0 then (f_Mo_need_110 F34 x2 σ) else (if (σ.1 5 x2.toNatClampNeg) = 3 then (f_Mo_need_98 F34 x2 σ) else (if (σ.1 5 x2.toNatClampNeg) = 4 then (f_Mo_need_98 F34 x2 σ) else (f_Mo_need_110 F34 x2 σ)))
def k_Mo_need_69 (K34 : (Int32 → St → Prop)) (x2 : Int32) (σ : St) : Prop := vp_in x2 400 ∧ (((σ.1 29 x2.toNatClampNeg) = 0 → (k_Mo_need_110 K34 x2 σ)) ∧ (¬ (σ.1 29 x2.toNatClampNeg) = 0 → (vp_in x2 400 ∧ (((σ.1 5 x2.toNatClampNeg) = 3 → (k_Mo_need_98 K34 x2 σ)) ∧ (¬ (σ.1 5 x2.toNatClampNeg) = 3 → (vp_in x2 400 ∧ (((σ.1 5 x2.toNatClampNeg) = 4 → (k_Mo_need_98 K34 x2 σ)) ∧ (¬ (σ.1 5 x2.toNatClampNeg) = 4 → (k_Mo_need_110 K34 x2 σ)))))))))
def f_Mo_need_34 : Nat → Int32 → St → St
  | 0, _, σ => σ
  | n + 1, x2, σ => if x2 < 0 then σ else (if (σ.1 29 x2.toNatClampNeg) = 0 then (f_Mo_need_69 (f_Mo_need_34 n) x2 σ) else (if (σ.1 5 x2.toNatClampNeg) = 3 then (f_Mo_need_69 (f_Mo_need_34 n) x2 (sA σ 29 (σ.1 8 x2.toNatClampNeg) (vp_nar .boolean 1))) else (f_Mo_need_69 (f_Mo_need_34 n) x2 σ)))
def k_Mo_need_34 : Nat → Int32 → St → Prop
  | 0, _, _ => False
  | n + 1, x2, σ => (x2 < 0 → True) ∧ (¬ x2 < 0 → (vp_in x2 400 ∧ (((σ.1 29 x2.toNatClampNeg) = 0 → (k_Mo_need_69 (k_Mo_need_34 n) x2 σ)) ∧ (¬ (σ.1 29 x2.toNatClampNeg) = 0 → (vp_in x2 400 ∧ (((σ.1 5 x2.toNatClampNeg) = 3 → (vp_in x2 400 ∧ (vp_in (σ.1 8 x2.toNatClampNeg) 400 ∧ (k_Mo_need_69 (k_Mo_need_34 n) x2 (sA σ 29 (σ.1 8 x2.toNatClampNeg) (vp_nar .boolean 1)))))) ∧ (¬ (σ.1 5 x2.toNatClampNeg) = 3 → (k_Mo_need_69 (k_Mo_need_34 n) x2 σ))))))))
def f_Mo_need_2 : Nat → Int32 → Int32 → St → St
  | 0, _, _, σ => σ
  | n + 1, x1, x2, σ => if (σ.1 0 8) ≤ x2 then (f_Mo_need_34 1000 x1 σ) else (if x2 = x1 then (f_Mo_need_25 (f_Mo_need_2 n) x1 x2 1 x2 σ) else (f_Mo_need_25 (f_Mo_need_2 n) x1 x2 0 x2 σ))
def k_Mo_need_2 : Nat → Int32 → Int32 → St → Prop
  | 0, _, _, _ => False
  | n + 1, x1, x2, σ => ((σ.1 0 8) ≤ x2 → (k_Mo_need_34 1000 x1 σ)) ∧ (¬ (σ.1 0 8) ≤ x2 → ((x2 = x1 → (k_Mo_need_25 (k_Mo_need_2 n) x1 x2 1 x2 σ)) ∧ (¬ x2 = x1 → (k_Mo_need_25 (k_Mo_need_2 n) x1 x2 0 x2 σ))))
def f_Mo_need (a1 : Int32) (σ : St) : St := f_Mo_need_2 1000 a1 0 σ
def k_Mo_need (a1 : Int32) (σ : St) : Prop := k_Mo_need_2 1000 a1 0 σ
abbrev w_Mo_need : List Cond := Cond.code y_Mo_need b_Mo_need 3 none :: gw
abbrev rm_Mo_need : Room := { frames := 0, cells := 0, slots := 0, locals := 0 }
set_option maxHeartbeats 4000000 in
set_option maxRecDepth 100000 in
theorem c_Mo_need (l : Launch) (D : va_G) (ty : Nat → ClassId) (h : Nat → Nat) (px : va_W) (sa : Nat → Nat) (σ : St) (sz : Nat) (a1 : Int32) (hk : k_Mo_need a1 σ) : Met l y_Mo_need w_Mo_need rm_Mo_need (va_Pc [.ref (h 0), .int a1] (fun U => U.heap.size = sz ∧ va_P D classes (Wm ty h σ px) U.heap ∧ va_K D classes (Ta ty) U ∧ NW U ∧ MK sa (va_A (Wm ty h σ px) sz) U U.heap ∧ va_D (fun _ => True) (Wm ty h σ px))) (va_Qv (fun u : St => u = f_Mo_need a1 σ) (fun u t => va_P D classes (Wm ty h u px) t.heap) (va_A (Wm ty h σ px) sz)) 0 0 (va_A (Wm ty h σ px) sz) := by
  refine Met.ofW (cc := b_Mo_need) (maxL := 3) (ret := none) (by decide) rfl ?_
  intro p e s m args below meth c s₁ B hml hv
  obtain ⟨ha, hsz, hP, hK, hN, hM, hD0⟩ := hv
  have hx := B.exec
  have hb := B.bytes
  have hr := B.returns
  have hg : ∀ w ∈ gw, w.before args s = true := fun w h9 => atoms_spec (ws := w_Mo_need) B.pre w (List.mem_cons_of_mem _ h9)
  have hown : s.vm.findClass "ClauseLedgerModel" = some m.cls := findClass_of_methodNamed B.named
  have hlocks := B.notSynchronized
  subst hsz
  have hD := hD0.self (sz := s.heap.size)
  generalize hAe : va_A (Wm ty h σ px) s.heap.size = A at hD hM ⊢
  have hA : ∀ q : Nat, s.heap.size ≤ q → A q := fun q h9 => by rw [← hAe]; exact Or.inr h9
  have hS : va_S A s.heap s.heap [] := va_S.rf
  have he : entryFrame m args 3 = entryFrame m ([.ref (h 0), .int a1] : List Value).toArray 3 := by rw [ha]
  rw [he, lg_entry_eq]
  have hl := lv_entry ([.ref (h 0), .int a1]) (n := 3) (Nat.le_of_ble_eq_true rfl)
  generalize (lg_sl ([.ref (h 0), .int a1]) ++ List.replicate (3 - (lg_sl ([.ref (h 0), .int a1])).length) Slot.unset).toArray = ls at hl ⊢
  have hl : lv_has ls 3 [(0, .ref (h 0)), (1, .int a1)] := hl
  generalize hv : f_Mo_need a1 σ = v
  replace hv := hv.symm
  have B34 : ∀ (n34 : Nat) (H : Heap) (locs : List Loc) (ls : Array Slot) (x2 : Int32) (σ : St), v = f_Mo_need_34 n34 x2 σ → k_Mo_need_34 n34 x2 σ → lv_has ls 3 [(0, .ref (h 0)), (2, .int x2)] → va_P D classes (Wm ty h σ px) H → va_D A (Wm ty h σ px) → va_S A s.heap H locs → W p l e (headSpec w_Mo_need rm_Mo_need).room s m args below meth c H locs 0 0 (MQ below (va_Qv (fun u : St => u = v) (fun u t => va_P D classes (Wm ty h u px) t.heap) A) args s 0 0 A) (F0 m 34 ls []) := by
    intro n34
    induction n34 with
    | zero => intro H locs ls x2 σ hv hk hl hP hD hS; exact hk.elim
    | succ n34 ih34 =>
      have B110 : ∀ (H : Heap) (locs : List Loc) (ls : Array Slot) (x2 : Int32) (σ : St), v = f_Mo_need_110 (f_Mo_need_34 n34) x2 σ → k_Mo_need_110 (k_Mo_need_34 n34) x2 σ → lv_has ls 3 [(0, .ref (h 0)), (2, .int x2)] → va_P D classes (Wm ty h σ px) H → va_D A (Wm ty h σ px) → va_S A s.heap H locs → W p l e (headSpec w_Mo_need rm_Mo_need).room s m args below meth c H locs 0 0 (MQ below (va_Qv (fun u : St => u = v) (fun u t => va_P D classes (Wm ty h u px) t.heap) A) args s 0 0 A) (F0 m 110 ls []) := by
        intro H locs ls x2 σ hv hk hl hP hD hS
        unfold f_Mo_need_110 at hv
        unfold k_Mo_need_110 at hk
        refine lv_iinc (k := 1) (v := x2 + (-1)) (lv' := [(2, .int (x2 + (-1))), (0, .ref (h 0))]) hx hb d_Mo_need_110 hl rfl (by first | rfl | simp [lit1, litm1]) (by decide) rfl (fun ls hl => ?_)
        refine lv_goto (tgt := 34) hx hb d_Mo_need_113 (by decide) ?_
        exact ih34 _ _ _ (x2 + (-1)) σ hv hk (lv_sub hl [1, 0] rfl) hP hD hS
      have B98 : ∀ (H : Heap) (locs : List Loc) (ls : Array Slot) (x2 : Int32) (σ : St), v = f_Mo_need_98 (f_Mo_need_34 n34) x2 σ → k_Mo_need_98 (k_Mo_need_34 n34) x2 σ → lv_has ls 3 [(0, .ref (h 0)), (2, .int x2)] → va_P D classes (Wm ty h σ px) H → va_D A (Wm ty h σ px) → va_S A s.heap H locs → W p l e (headSpec w_Mo_need rm_Mo_need).room s m args below meth c H locs 0 0 (MQ below (va_Qv (fun u : St => u = v) (fun u t => va_P D classes (Wm ty h u px) t.heap) A) args s 0 0 A) (F0 m 98 ls []) := by
        intro H locs ls x2 σ hv hk hl hP hD hS
        unfold f_Mo_need_98 at hv
        unfold k_Mo_need_98 at hk
        refine lv_aload_n hx hb d_Mo_need_98 rfl (lv_at hl 0 rfl) ?_
        refine va_get (v := .ref (h 29)) (C := R_Mo) (T := T_Mo) (N := 51) hx hb hg in_Mo hown hK hP 0 rfl rfl 42 (by decide) (hg _ m_1301) (fun _ h9 => h9) rfl d_Mo_need_99 ?_
        refine lv_aload_n hx hb d_Mo_need_102 rfl (lv_at hl 0 rfl) ?_
        refine va_get (v := .ref (h 9)) (C := R_Mo) (T := T_Mo) (N := 51) hx hb hg in_Mo hown hK hP 0 rfl rfl 14 (by decide) (hg _ m_1273) (fun _ h9 => h9) rfl d_Mo_need_103 ?_
        refine lv_iload_n hx hb d_Mo_need_106 rfl (lv_at hl 1 rfl) ?_
        obtain ⟨hk0, hk⟩ := hk
        refine va_iald hx hb hK hP 9 0 rfl rfl hk0 d_Mo_need_107 ?_
        refine lv_iconst (v := 1) hx hb d_Mo_need_108 (by decide) ?_
        obtain ⟨hk0, hk⟩ := hk
        refine va_zast hx hb hK hP hD hS 29 3 rfl rfl hk0 d_Mo_need_109 (fun H locs hP hD hS => ?_)
        have hP : va_P D classes (Wm ty h (sA σ 29 (σ.1 9 x2.toNatClampNeg) (vp_nar .boolean 1)) px) H := hP
        have hD : va_D A (Wm ty h (sA σ 29 (σ.1 9 x2.toNatClampNeg) (vp_nar .boolean 1)) px) := hD
        exact B110 _ _ _ x2 (sA σ 29 (σ.1 9 x2.toNatClampNeg) (vp_nar .boolean 1)) hv hk (lv_sub hl [0, 1] rfl) hP hD hS
      have B69 : ∀ (H : Heap) (locs : List Loc) (ls : Array Slot) (x2 : Int32) (σ : St), v = f_Mo_need_69 (f_Mo_need_34 n34) x2 σ → k_Mo_need_69 (k_Mo_need_34 n34) x2 σ → lv_has ls 3 [(0, .ref (h 0)), (2, .int x2)] → va_P D classes (Wm ty h σ px) H → va_D A (Wm ty h σ px) → va_S A s.heap H locs → W p l e (headSpec w_Mo_need rm_Mo_need).room s m args below meth c H locs 0 0 (MQ below (va_Qv (fun u : St => u = v) (fun u t => va_P D classes (Wm ty h u px) t.heap) A) args s 0 0 A) (F0 m 69 ls []) := by
        intro H locs ls x2 σ hv hk hl hP hD hS
        unfold f_Mo_need_69 at hv
        unfold k_Mo_need_69 at hk
        refine lv_aload_n hx hb d_Mo_need_69 rfl (lv_at hl 0 rfl) ?_
        refine va_get (v := .ref (h 29)) (C := R_Mo) (T := T_Mo) (N := 51) hx hb hg in_Mo hown hK hP 0 rfl rfl 42 (by decide) (hg _ m_1301) (fun _ h9 => h9) rfl d_Mo_need_70 ?_
        refine lv_iload_n hx hb d_Mo_need_73 rfl (lv_at hl 1 rfl) ?_
        obtain ⟨hk0, hk⟩ := hk
        refine va_zald hx hb hK hP 29 3 rfl rfl hk0 d_Mo_need_74 ?_
        refine lv_if_eq (tgt := 110) hx hb d_Mo_need_75 (by decide) (fun hc => ?_) (fun hc => ?_)
        · have hv := hv.trans (if_pos hc)
          have hk := hk.1 hc
          exact B110 _ _ _ x2 σ hv hk (lv_sub hl [0, 1] rfl) hP hD hS
        · have hv := hv.trans (if_neg hc)
          have hk := hk.2 hc
          refine lv_aload_n hx hb d_Mo_need_78 rfl (lv_at hl 0 rfl) ?_
          refine va_get (v := .ref (h 5)) (C := R_Mo) (T := T_Mo) (N := 51) hx hb hg in_Mo hown hK hP 0 rfl rfl 10 (by decide) (hg _ m_1269) (fun _ h9 => h9) rfl d_Mo_need_79 ?_
          refine lv_iload_n hx hb d_Mo_need_82 rfl (lv_at hl 1 rfl) ?_
          obtain ⟨hk0, hk⟩ := hk
          refine va_iald hx hb hK hP 5 0 rfl rfl hk0 d_Mo_need_83 ?_
          refine lv_iconst (v := 3) hx hb d_Mo_need_84 (by decide) ?_
          refine lv_icmp_eq (tgt := 98) hx hb d_Mo_need_85 (by decide) (fun hc => ?_) (fun hc => ?_)
          · have hv := hv.trans (if_pos hc)
            have hk := hk.1 hc
            exact B98 _ _ _ x2 σ hv hk (lv_sub hl [0, 1] rfl) hP hD hS
          · have hv := hv.trans (if_neg hc)
            have hk := hk.2 hc
            refine lv_aload_n hx hb d_Mo_need_88 rfl (lv_at hl 0 rfl) ?_
            refine va_get (v := .ref (h 5)) (C := R_Mo) (T := T_Mo) (N := 51) hx hb hg in_Mo hown hK hP 0 rfl rfl 10 (by decide) (hg _ m_1269) (fun _ h9 => h9) rfl d_Mo_need_89 ?_
            refine lv_iload_n hx hb d_Mo_need_92 rfl (lv_at hl 1 rfl) ?_
            obtain ⟨hk0, hk⟩ := hk
            refine va_iald hx hb hK hP 5 0 rfl rfl hk0 d_Mo_need_93 ?_
            refine lv_iconst (v := 4) hx hb d_Mo_need_94 (by decide) ?_
            refine lv_icmp_ne (tgt := 110) hx hb d_Mo_need_95 (by decide) (fun hc => ?_) (fun hc => ?_)
            · have hv := hv.trans (if_neg hc)
              have hk := hk.2 hc
              exact B110 _ _ _ x2 σ hv hk (lv_sub hl [0, 1] rfl) hP hD hS
            · have hv := hv.trans (if_pos hc)
              have hk := hk.1 hc
              exact B98 _ _ _ x2 σ hv hk (lv_sub hl [0, 1] rfl) hP hD hS
      intro H locs ls x2 σ hv hk hl hP hD hS
      rw [f_Mo_need_34] at hv
      rw [k_Mo_need_34] at hk
      refine lv_iload_n hx hb d_Mo_need_34 rfl (lv_at hl 1 rfl) ?_
      refine lv_if_lt (tgt := 116) hx hb d_Mo_need_35 (by decide) (fun hc => ?_) (fun hc => ?_)
      · have hv := hv.trans (if_pos hc)
        have hk := hk.1 hc
        exact W.vret hx hb hr (fun t ht hW => ⟨⟨_, rfl, hv.symm, by dsimp only; rw [ht]; exact hP⟩, hS.F ht⟩) hS.2.2 d_Mo_need_116
      · have hv := hv.trans (if_neg hc)
        have hk := hk.2 hc
        refine lv_aload_n hx hb d_Mo_need_38 rfl (lv_at hl 0 rfl) ?_
        refine va_get (v := .ref (h 29)) (C := R_Mo) (T := T_Mo) (N := 51) hx hb hg in_Mo hown hK hP 0 rfl rfl 42 (by decide) (hg _ m_1301) (fun _ h9 => h9) rfl d_Mo_need_39 ?_
        refine lv_iload_n hx hb d_Mo_need_42 rfl (lv_at hl 1 rfl) ?_
        obtain ⟨hk0, hk⟩ := hk
        refine va_zald hx hb hK hP 29 3 rfl rfl hk0 d_Mo_need_43 ?_
        refine lv_if_eq (tgt := 69) hx hb d_Mo_need_44 (by decide) (fun hc => ?_) (fun hc => ?_)
        · have hv := hv.trans (if_pos hc)
          have hk := hk.1 hc
          exact B69 _ _ _ x2 σ hv hk (lv_sub hl [0, 1] rfl) hP hD hS
        · have hv := hv.trans (if_neg hc)
          have hk := hk.2 hc
          refine lv_aload_n hx hb d_Mo_need_47 rfl (lv_at hl 0 rfl) ?_
          refine va_get (v := .ref (h 5)) (C := R_Mo) (T := T_Mo) (N := 51) hx hb hg in_Mo hown hK hP 0 rfl rfl 10 (by decide) (hg _ m_1269) (fun _ h9 => h9) rfl d_Mo_need_48 ?_
          refine lv_iload_n hx hb d_Mo_need_51 rfl (lv_at hl 1 rfl) ?_
          obtain ⟨hk0, hk⟩ := hk
          refine va_iald hx hb hK hP 5 0 rfl rfl hk0 d_Mo_need_52 ?_
          refine lv_iconst (v := 3) hx hb d_Mo_need_53 (by decide) ?_
          refine lv_icmp_ne (tgt := 69) hx hb d_Mo_need_54 (by decide) (fun hc => ?_) (fun hc => ?_)
          · have hv := hv.trans (if_neg hc)
            have hk := hk.2 hc
            exact B69 _ _ _ x2 σ hv hk (lv_sub hl [0, 1] rfl) hP hD hS
          · have hv := hv.trans (if_pos hc)
            have hk := hk.1 hc
            refine lv_aload_n hx hb d_Mo_need_57 rfl (lv_at hl 0 rfl) ?_
            refine va_get (v := .ref (h 29)) (C := R_Mo) (T := T_Mo) (N := 51) hx hb hg in_Mo hown hK hP 0 rfl rfl 42 (by decide) (hg _ m_1301) (fun _ h9 => h9) rfl d_Mo_need_58 ?_
            refine lv_aload_n hx hb d_Mo_need_61 rfl (lv_at hl 0 rfl) ?_
            refine va_get (v := .ref (h 8)) (C := R_Mo) (T := T_Mo) (N := 51) hx hb hg in_Mo hown hK hP 0 rfl rfl 13 (by decide) (hg _ m_1272) (fun _ h9 => h9) rfl d_Mo_need_62 ?_
            refine lv_iload_n hx hb d_Mo_need_65 rfl (lv_at hl 1 rfl) ?_
            obtain ⟨hk0, hk⟩ := hk
            refine va_iald hx hb hK hP 8 0 rfl rfl hk0 d_Mo_need_66 ?_
            refine lv_iconst (v := 1) hx hb d_Mo_need_67 (by decide) ?_
            obtain ⟨hk0, hk⟩ := hk
            refine va_zast hx hb hK hP hD hS 29 3 rfl rfl hk0 d_Mo_need_68 (fun H locs hP hD hS => ?_)
            have hP : va_P D classes (Wm ty h (sA σ 29 (σ.1 8 x2.toNatClampNeg) (vp_nar .boolean 1)) px) H := hP
            have hD : va_D A (Wm ty h (sA σ 29 (σ.1 8 x2.toNatClampNeg) (vp_nar .boolean 1)) px) := hD
            exact B69 _ _ _ x2 (sA σ 29 (σ.1 8 x2.toNatClampNeg) (vp_nar .boolean 1)) hv hk (lv_sub hl [0, 1] rfl) hP hD hS
  have B2 : ∀ (n2 : Nat) (H : Heap) (locs : List Loc) (ls : Array Slot) (x1 : Int32) (x2 : Int32) (σ : St), v = f_Mo_need_2 n2 x1 x2 σ → k_Mo_need_2 n2 x1 x2 σ → lv_has ls 3 [(0, .ref (h 0)), (1, .int x1), (2, .int x2)] → va_P D classes (Wm ty h σ px) H → va_D A (Wm ty h σ px) → va_S A s.heap H locs → W p l e (headSpec w_Mo_need rm_Mo_need).room s m args below meth c H locs 0 0 (MQ below (va_Qv (fun u : St => u = v) (fun u t => va_P D classes (Wm ty h u px) t.heap) A) args s 0 0 A) (F0 m 2 ls []) := by
    intro n2
    induction n2 with
    | zero => intro H locs ls x1 x2 σ hv hk hl hP hD hS; exact hk.elim
    | succ n2 ih2 =>
      have B26 : ∀ (H : Heap) (locs : List Loc) (ls : Array Slot) (x1 : Int32) (x2 : Int32) (σ : St), v = f_Mo_need_26 (f_Mo_need_2 n2) x1 x2 σ → k_Mo_need_26 (k_Mo_need_2 n2) x1 x2 σ → lv_has ls 3 [(0, .ref (h 0)), (1, .int x1), (2, .int x2)] → va_P D classes (Wm ty h σ px) H → va_D A (Wm ty h σ px) → va_S A s.heap H locs → W p l e (headSpec w_Mo_need rm_Mo_need).room s m args below meth c H locs 0 0 (MQ below (va_Qv (fun u : St => u = v) (fun u t => va_P D classes (Wm ty h u px) t.heap) A) args s 0 0 A) (F0 m 26 ls []) := by
        intro H locs ls x1 x2 σ hv hk hl hP hD hS
        unfold f_Mo_need_26 at hv
        unfold k_Mo_need_26 at hk
        refine lv_iinc (k := 2) (v := x2 + 1) (lv' := [(2, .int (x2 + 1)), (0, .ref (h 0)), (1, .int x1)]) hx hb d_Mo_need_26 hl rfl (by first | rfl | simp [lit1, litm1]) (by decide) rfl (fun ls hl => ?_)
        refine lv_goto (tgt := 2) hx hb d_Mo_need_29 (by decide) ?_
        exact ih2 _ _ _ x1 (x2 + 1) σ hv hk (lv_sub hl [1, 2, 0] rfl) hP hD hS
      have B25 : ∀ (H : Heap) (locs : List Loc) (ls : Array Slot) (x1 : Int32) (x2 : Int32) (s0 : Int32) (s1 : Int32) (σ : St), v = f_Mo_need_25 (f_Mo_need_2 n2) x1 x2 s0 s1 σ → k_Mo_need_25 (k_Mo_need_2 n2) x1 x2 s0 s1 σ → lv_has ls 3 [(0, .ref (h 0)), (1, .int x1), (2, .int x2)] → va_P D classes (Wm ty h σ px) H → va_D A (Wm ty h σ px) → va_S A s.heap H locs → W p l e (headSpec w_Mo_need rm_Mo_need).room s m args below meth c H locs 0 0 (MQ below (va_Qv (fun u : St => u = v) (fun u t => va_P D classes (Wm ty h u px) t.heap) A) args s 0 0 A) (F0 m 25 ls [.int s0, .int s1, .ref (h 29)]) := by
        intro H locs ls x1 x2 s0 s1 σ hv hk hl hP hD hS
        unfold f_Mo_need_25 at hv
        unfold k_Mo_need_25 at hk
        obtain ⟨hk0, hk⟩ := hk
        refine va_zast hx hb hK hP hD hS 29 3 rfl rfl hk0 d_Mo_need_25 (fun H locs hP hD hS => ?_)
        have hP : va_P D classes (Wm ty h (sA σ 29 s1 (vp_nar .boolean s0)) px) H := hP
        have hD : va_D A (Wm ty h (sA σ 29 s1 (vp_nar .boolean s0)) px) := hD
        exact B26 _ _ _ x1 x2 (sA σ 29 s1 (vp_nar .boolean s0)) hv hk (lv_sub hl [0, 1, 2] rfl) hP hD hS
      intro H locs ls x1 x2 σ hv hk hl hP hD hS
      rw [f_Mo_need_2] at hv
      rw [k_Mo_need_2] at hk
      refine lv_iload_n hx hb d_Mo_need_2 rfl (lv_at hl 2 rfl) ?_
      refine lv_aload_n hx hb d_Mo_need_3 rfl (lv_at hl 0 rfl) ?_
      refine va_get (v := .int (σ.1 0 8)) (C := R_Mo) (T := T_Mo) (N := 51) hx hb hg in_Mo hown hK hP 0 rfl rfl 8 (by decide) (hg _ m_1267) (fun _ h9 => h9) rfl d_Mo_need_4 ?_
      refine lv_icmp_ge (tgt := 32) hx hb d_Mo_need_7 (by decide) (fun hc => ?_) (fun hc => ?_)
      · have hv := hv.trans (if_pos hc)
        have hk := hk.1 hc
        refine lv_iload_n hx hb d_Mo_need_32 rfl (lv_at hl 1 rfl) ?_
        refine lv_istore_n (lv' := [(2, .int x1), (0, .ref (h 0)), (1, .int x1)]) hx hb d_Mo_need_33 rfl hl (by decide) rfl (fun ls hl => ?_)
        exact B34 1000 _ _ _ x1 σ hv hk (lv_sub hl [1, 0] rfl) hP hD hS
      · have hv := hv.trans (if_neg hc)
        have hk := hk.2 hc
        refine lv_aload_n hx hb d_Mo_need_10 rfl (lv_at hl 0 rfl) ?_
        refine va_get (v := .ref (h 29)) (C := R_Mo) (T := T_Mo) (N := 51) hx hb hg in_Mo hown hK hP 0 rfl rfl 42 (by decide) (hg _ m_1301) (fun _ h9 => h9) rfl d_Mo_need_11 ?_
        refine lv_iload_n hx hb d_Mo_need_14 rfl (lv_at hl 2 rfl) ?_
        refine lv_iload_n hx hb d_Mo_need_15 rfl (lv_at hl 2 rfl) ?_
        refine lv_iload_n hx hb d_Mo_need_16 rfl (lv_at hl 1 rfl) ?_
        refine lv_icmp_ne (tgt := 24) hx hb d_Mo_need_17 (by decide) (fun hc => ?_) (fun hc => ?_)
        · have hv := hv.trans (if_neg hc)
          have hk := hk.2 hc
          refine lv_iconst (v := 0) hx hb d_Mo_need_24 (by decide) ?_
          exact B25 _ _ _ x1 x2 0 x2 σ hv hk (lv_sub hl [0, 1, 2] rfl) hP hD hS
        · have hv := hv.trans (if_pos hc)
          have hk := hk.1 hc
          refine lv_iconst (v := 1) hx hb d_Mo_need_20 (by decide) ?_
          refine lv_goto (tgt := 25) hx hb d_Mo_need_21 (by decide) ?_
          exact B25 _ _ _ x1 x2 1 x2 σ hv hk (lv_sub hl [0, 1, 2] rfl) hP hD hS
  unfold f_Mo_need at hv
  unfold k_Mo_need at hk
  refine lv_iconst (v := 0) hx hb d_Mo_need_0 (by decide) ?_
  refine lv_istore_n (lv' := [(2, .int 0), (0, .ref (h 0)), (1, .int a1)]) hx hb d_Mo_need_1 rfl hl (by decide) rfl (fun ls hl => ?_)
  exact B2 1000 _ _ _ a1 0 σ hv hk (lv_sub hl [1, 2, 0] rfl) hP hD hS

-- ClauseLedgerModel.needFor(II)V
abbrev b_Mo_needFor : ByteArray := prog_14_method_45_code
def y_Mo_needFor : MethodName := ⟨"ClauseLedgerModel", "needFor", "(II)V"⟩
theorem hd_Mo_needFor : y_Mo_needFor.cls ≠ "java/lang/invoke/MethodHandle" ∧ y_Mo_needFor.cls ≠ "java/lang/invoke/VarHandle" ∧ (parseMethodDescriptor y_Mo_needFor.desc).map (fun d => d.parameters.length) = some 2 := by decide +kernel
theorem d_Mo_needFor_0 : decode b_Mo_needFor 0 = .ok (.iconst 0, 1) := by decide +kernel
theorem d_Mo_needFor_1 : decode b_Mo_needFor 1 = .ok (.istore_n 3, 1) := by decide +kernel
theorem d_Mo_needFor_2 : decode b_Mo_needFor 2 = .ok (.iload_n 3, 1) := by decide +kernel
theorem d_Mo_needFor_3 : decode b_Mo_needFor 3 = .ok (.aload_n 0, 1) := by decide +kernel
theorem d_Mo_needFor_4 : decode b_Mo_needFor 4 = .ok (.getfield 109, 3) := by decide +kernel
theorem d_Mo_needFor_7 : decode b_Mo_needFor 7 = .ok (.if_icmp .ge 25, 3) := by decide +kernel
theorem d_Mo_needFor_10 : decode b_Mo_needFor 10 = .ok (.aload_n 0, 1) := by decide +kernel
theorem d_Mo_needFor_11 : decode b_Mo_needFor 11 = .ok (.getfield 100, 3) := by decide +kernel
theorem d_Mo_needFor_14 : decode b_Mo_needFor 14 = .ok (.iload_n 3, 1) := by decide +kernel
theorem d_Mo_needFor_15 : decode b_Mo_needFor 15 = .ok (.iload_n 3, 1) := by decide +kernel
theorem d_Mo_needFor_16 : decode b_Mo_needFor 16 = .ok (.iload_n 1, 1) := by decide +kernel
theorem d_Mo_needFor_17 : decode b_Mo_needFor 17 = .ok (.if_icmp .ne 7, 3) := by decide +kernel
theorem d_Mo_needFor_20 : decode b_Mo_needFor 20 = .ok (.iconst 1, 1) := by decide +kernel
theorem d_Mo_needFor_21 : decode b_Mo_needFor 21 = .ok (.goto 4, 3) := by decide +kernel
theorem d_Mo_needFor_24 : decode b_Mo_needFor 24 = .ok (.iconst 0, 1) := by decide +kernel
theorem d_Mo_needFor_25 : decode b_Mo_needFor 25 = .ok (.bastore, 1) := by decide +kernel
theorem d_Mo_needFor_26 : decode b_Mo_needFor 26 = .ok (.iinc 3 1, 3) := by decide +kernel
theorem d_Mo_needFor_29 : decode b_Mo_needFor 29 = .ok (.goto (-27), 3) := by decide +kernel
theorem d_Mo_needFor_32 : decode b_Mo_needFor 32 = .ok (.iload_n 1, 1) := by decide +kernel
theorem d_Mo_needFor_33 : decode b_Mo_needFor 33 = .ok (.istore_n 3, 1) := by decide +kernel
theorem d_Mo_needFor_34 : decode b_Mo_needFor 34 = .ok (.iload_n 3, 1) := by decide +kernel
theorem d_Mo_needFor_35 : decode b_Mo_needFor 35 = .ok (.ifCond .lt 112, 3) := by decide +kernel
theorem d_Mo_needFor_38 : decode b_Mo_needFor 38 = .ok (.aload_n 0, 1) := by decide +kernel
theorem d_Mo_needFor_39 : decode b_Mo_needFor 39 = .ok (.getfield 100, 3) := by decide +kernel
theorem d_Mo_needFor_42 : decode b_Mo_needFor 42 = .ok (.iload_n 3, 1) := by decide +kernel
theorem d_Mo_needFor_43 : decode b_Mo_needFor 43 = .ok (.baload, 1) := by decide +kernel
theorem d_Mo_needFor_44 : decode b_Mo_needFor 44 = .ok (.ifCond .eq 42, 3) := by decide +kernel
theorem d_Mo_needFor_47 : decode b_Mo_needFor 47 = .ok (.aload_n 0, 1) := by decide +kernel
theorem d_Mo_needFor_48 : decode b_Mo_needFor 48 = .ok (.getfield 26, 3) := by decide +kernel
theorem d_Mo_needFor_51 : decode b_Mo_needFor 51 = .ok (.iload_n 3, 1) := by decide +kernel
theorem d_Mo_needFor_52 : decode b_Mo_needFor 52 = .ok (.iaload, 1) := by decide +kernel
theorem d_Mo_needFor_53 : decode b_Mo_needFor 53 = .ok (.bipush 10, 2) := by decide +kernel
theorem d_Mo_needFor_55 : decode b_Mo_needFor 55 = .ok (.if_icmp .ne 13, 3) := by decide +kernel
theorem d_Mo_needFor_58 : decode b_Mo_needFor 58 = .ok (.aload_n 0, 1) := by decide +kernel
theorem d_Mo_needFor_59 : decode b_Mo_needFor 59 = .ok (.getfield 41, 3) := by decide +kernel
theorem d_Mo_needFor_62 : decode b_Mo_needFor 62 = .ok (.iload_n 3, 1) := by decide +kernel
theorem d_Mo_needFor_63 : decode b_Mo_needFor 63 = .ok (.iaload, 1) := by decide +kernel
theorem d_Mo_needFor_64 : decode b_Mo_needFor 64 = .ok (.iload_n 2, 1) := by decide +kernel
theorem d_Mo_needFor_65 : decode b_Mo_needFor 65 = .ok (.if_icmp .eq 21, 3) := by decide +kernel
theorem d_Mo_needFor_68 : decode b_Mo_needFor 68 = .ok (.aload_n 0, 1) := by decide +kernel
theorem d_Mo_needFor_69 : decode b_Mo_needFor 69 = .ok (.getfield 50, 3) := by decide +kernel
theorem d_Mo_needFor_72 : decode b_Mo_needFor 72 = .ok (.iload_n 3, 1) := by decide +kernel
theorem d_Mo_needFor_73 : decode b_Mo_needFor 73 = .ok (.iaload, 1) := by decide +kernel
theorem d_Mo_needFor_74 : decode b_Mo_needFor 74 = .ok (.iload_n 2, 1) := by decide +kernel
theorem d_Mo_needFor_75 : decode b_Mo_needFor 75 = .ok (.ishr, 1) := by decide +kernel
theorem d_Mo_needFor_76 : decode b_Mo_needFor 76 = .ok (.iconst 1, 1) := by decide +kernel
theorem d_Mo_needFor_77 : decode b_Mo_needFor 77 = .ok (.iand, 1) := by decide +kernel
theorem d_Mo_needFor_78 : decode b_Mo_needFor 78 = .ok (.iconst 1, 1) := by decide +kernel
theorem d_Mo_needFor_79 : decode b_Mo_needFor 79 = .ok (.if_icmp .ne 7, 3) := by decide +kernel
theorem d_Mo_needFor_82 : decode b_Mo_needFor 82 = .ok (.iconst 1, 1) := by decide +kernel
theorem d_Mo_needFor_83 : decode b_Mo_needFor 83 = .ok (.goto 4, 3) := by decide +kernel
theorem d_Mo_needFor_86 : decode b_Mo_needFor 86 = .ok (.iconst 0, 1) := by decide +kernel
theorem d_Mo_needFor_87 : decode b_Mo_needFor 87 = .ok (.istore 4, 2) := by decide +kernel
theorem d_Mo_needFor_89 : decode b_Mo_needFor 89 = .ok (.iload 4, 2) := by decide +kernel
theorem d_Mo_needFor_91 : decode b_Mo_needFor 91 = .ok (.ifCond .eq 24, 3) := by decide +kernel
theorem d_Mo_needFor_94 : decode b_Mo_needFor 94 = .ok (.aload_n 0, 1) := by decide +kernel
theorem d_Mo_needFor_95 : decode b_Mo_needFor 95 = .ok (.getfield 35, 3) := by decide +kernel
theorem d_Mo_needFor_98 : decode b_Mo_needFor 98 = .ok (.iload_n 3, 1) := by decide +kernel
theorem d_Mo_needFor_99 : decode b_Mo_needFor 99 = .ok (.iaload, 1) := by decide +kernel
theorem d_Mo_needFor_100 : decode b_Mo_needFor 100 = .ok (.ifCond .lt 15, 3) := by decide +kernel
theorem d_Mo_needFor_103 : decode b_Mo_needFor 103 = .ok (.aload_n 0, 1) := by decide +kernel
theorem d_Mo_needFor_104 : decode b_Mo_needFor 104 = .ok (.getfield 100, 3) := by decide +kernel
theorem d_Mo_needFor_107 : decode b_Mo_needFor 107 = .ok (.aload_n 0, 1) := by decide +kernel
theorem d_Mo_needFor_108 : decode b_Mo_needFor 108 = .ok (.getfield 35, 3) := by decide +kernel
theorem d_Mo_needFor_111 : decode b_Mo_needFor 111 = .ok (.iload_n 3, 1) := by decide +kernel
theorem d_Mo_needFor_112 : decode b_Mo_needFor 112 = .ok (.iaload, 1) := by decide +kernel
theorem d_Mo_needFor_113 : decode b_Mo_needFor 113 = .ok (.iconst 1, 1) := by decide +kernel
theorem d_Mo_needFor_114 : decode b_Mo_needFor 114 = .ok (.bastore, 1) := by decide +kernel
theorem d_Mo_needFor_115 : decode b_Mo_needFor 115 = .ok (.iload 4, 2) := by decide +kernel
theorem d_Mo_needFor_117 : decode b_Mo_needFor 117 = .ok (.ifCond .eq 24, 3) := by decide +kernel
theorem d_Mo_needFor_120 : decode b_Mo_needFor 120 = .ok (.aload_n 0, 1) := by decide +kernel
theorem d_Mo_needFor_121 : decode b_Mo_needFor 121 = .ok (.getfield 38, 3) := by decide +kernel
theorem d_Mo_needFor_124 : decode b_Mo_needFor 124 = .ok (.iload_n 3, 1) := by decide +kernel
theorem d_Mo_needFor_125 : decode b_Mo_needFor 125 = .ok (.iaload, 1) := by decide +kernel
theorem d_Mo_needFor_126 : decode b_Mo_needFor 126 = .ok (.ifCond .lt 15, 3) := by decide +kernel
theorem d_Mo_needFor_129 : decode b_Mo_needFor 129 = .ok (.aload_n 0, 1) := by decide +kernel
theorem d_Mo_needFor_130 : decode b_Mo_needFor 130 = .ok (.getfield 100, 3) := by decide +kernel
theorem d_Mo_needFor_133 : decode b_Mo_needFor 133 = .ok (.aload_n 0, 1) := by decide +kernel
theorem d_Mo_needFor_134 : decode b_Mo_needFor 134 = .ok (.getfield 38, 3) := by decide +kernel
theorem d_Mo_needFor_137 : decode b_Mo_needFor 137 = .ok (.iload_n 3, 1) := by decide +kernel
theorem d_Mo_needFor_138 : decode b_Mo_needFor 138 = .ok (.iaload, 1) := by decide +kernel
theorem d_Mo_needFor_139 : decode b_Mo_needFor 139 = .ok (.iconst 1, 1) := by decide +kernel
theorem d_Mo_needFor_140 : decode b_Mo_needFor 140 = .ok (.bastore, 1) := by decide +kernel
theorem d_Mo_needFor_141 : decode b_Mo_needFor 141 = .ok (.iinc 3 (-1), 3) := by decide +kernel
theorem d_Mo_needFor_144 : decode b_Mo_needFor 144 = .ok (.goto (-110), 3) := by decide +kernel
theorem d_Mo_needFor_147 : decode b_Mo_needFor 147 = .ok (.return_, 1) := by decide +kernel
def f_Mo_needFor_26 (F2 : (Int32 → Int32 → Int32 → St → St)) (x1 : Int32) (x2 : Int32) (x3 : Int32) (σ : St) : St := F2 x1 x2 (x3 + 1) σ
def k_Mo_needFor_26 (K2 : (Int32 → Int32 → Int32 → St → Prop)) (x1 : Int32) (x2 : Int32) (x3 : Int32) (σ : St) : Prop := K2 x1 x2 (x3 + 1) σ
def f_Mo_needFor_25 (F2 : (Int32 → Int32 → Int32 → St → St)) (x1 : Int32) (x2 : Int32) (x3 : Int32) (s0 : Int32) (s1 : Int32) (σ : St) : St := f_Mo_needFor_26 F2 x1 x2 x3 (sA σ 29 s1 (vp_nar .boolean s0))
def k_Mo_needFor_25 (K2 : (Int32 → Int32 → Int32 → St → Prop)) (x1 : Int32) (x2 : Int32) (x3 : Int32) (s0 : Int32) (s1 : Int32) (σ : St) : Prop := vp_in s1 400 ∧ (k_Mo_needFor_26 K2 x1 x2 x3 (sA σ 29 s1 (vp_nar .boolean s0)))
def f_Mo_needFor_141 (F34 : (Int32 → Int32 → St → St)) (x2 : Int32) (x3 : Int32) (σ : St) : St := F34 x2 (x3 + (-1)) σ
def k_Mo_needFor_141 (K34 : (Int32 → Int32 → St → Prop)) (x2 : Int32) (x3 : Int32) (σ : St) : Prop := K34 x2 (x3 + (-1)) σ
def f_Mo_needFor_115 (F34 : (Int32 → Int32 → St → St)) (x2 : Int32) (x3 : Int32) (x4 : Int32) (σ : St) : St := if x4 = 0 then (f_Mo_needFor_141 F34 x2 x3 σ) else (if (σ.1 9 x3.toNatClampNeg) < 0 then (f_Mo_needFor_141 F34 x2 x3 σ) else (f_Mo_needFor_141 F34 x2 x3 (sA σ 29 (σ.1 9 x3.toNatClampNeg) (vp_nar .boolean 1))))
def k_Mo_needFor_115 (K34 : (Int32 → Int32 → St → Prop)) (x2 : Int32) (x3 : Int32) (x4 : Int32) (σ : St) : Prop := (x4 = 0 → (k_Mo_needFor_141 K34 x2 x3 σ)) ∧ (¬ x4 = 0 → (vp_in x3 400 ∧ (((σ.1 9 x3.toNatClampNeg) < 0 → (k_Mo_needFor_141 K34 x2 x3 σ)) ∧ (¬ (σ.1 9 x3.toNatClampNeg) < 0 → (vp_in x3 400 ∧ (vp_in (σ.1 9 x3.toNatClampNeg) 400 ∧ (k_Mo_needFor_141 K34 x2 x3 (sA σ 29 (σ.1 9 x3.toNatClampNeg) (vp_nar .boolean 1)))))))))
def f_Mo_needFor_87 (F34 : (Int32 → Int32 → St → St)) (x2 : Int32) (x3 : Int32) (s0 : Int32) (σ : St) : St := if s0 = 0 then (f_Mo_needFor_115 F34 x2 x3 s0 σ) else (if (σ.1 8 x3.toNatClampNeg) < 0 then (f_Mo_needFor_115 F34 x2 x3 s0 σ) else (f_Mo_needFor_115 F34 x2 x3 s0 (sA σ 29 (σ.1 8 x3.toNatClampNeg) (vp_nar .boolean 1))))
def k_Mo_needFor_87 (K34 : (Int32 → Int32 → St → Prop)) (x2 : Int32) (x3 : Int32) (s0 : Int32) (σ : St) : Prop := (s0 = 0 → (k_Mo_needFor_115 K34 x2 x3 s0 σ)) ∧ (¬ s0 = 0 → (vp_in x3 400 ∧ (((σ.1 8 x3.toNatClampNeg) < 0 → (k_Mo_needFor_115 K34 x2 x3 s0 σ)) ∧ (¬ (σ.1 8 x3.toNatClampNeg) < 0 → (vp_in x3 400 ∧ (vp_in (σ.1 8 x3.toNatClampNeg) 400 ∧ (k_Mo_needFor_115 K34 x2 x3 s0 (sA σ 29 (σ.1 8 x3.toNatClampNeg) (vp_nar .boolean 1)))))))))
def f_Mo_needFor_86 (F34 : (Int32 → Int32 → St → St)) (x2 : Int32) (x3 : Int32) (σ : St) : St := f_Mo_needFor_87 F34 x2 x3 0 σ
def k_Mo_needFor_86 (K34 : (Int32 → Int32 → St → Prop)) (x2 : Int32) (x3 : Int32) (σ : St) : Prop := k_Mo_needFor_87 K34 x2 x3 0 σ
def f_Mo_needFor_68 (F34 : (Int32 → Int32 → St → St)) (x2 : Int32) (x3 : Int32) (σ : St) : St := if (((σ.1 13 x3.toNatClampNeg) >>> (x2 &&& 31)) &&& 1) = 1 then (f_Mo_needFor_87 F34 x2 x3 1 σ) else (f_Mo_needFor_86 F34 x2 x3 σ)
def k_Mo_needFor_68 (K34 : (Int32 → Int32 → St → Prop)) (x2 : Int32) (x3 : Int32) (σ : St) : Prop := vp_in x3 400 ∧ (((((σ.1 13 x3.toNatClampNeg) >>> (x2 &&& 31)) &&& 1) = 1 → (k_Mo_needFor_87 K34 x2 x3 1 σ)) ∧ (¬ (((σ.1 13 x3.toNatClampNeg) >>> (x2 &&& 31)) &&& 1) = 1 → (k_Mo_needFor_86 K34 x2 x3 σ)))
def f_Mo_needFor_34 : Nat → Int32 → Int32 → St → St
  | 0, _, _, σ => σ
  | n + 1, x2, x3, σ => if x3 < 0 then σ else (if (σ.1 29 x3.toNatClampNeg) = 0 then (f_Mo_needFor_86 (f_Mo_needFor_34 n) x2 x3 σ) else (if (σ.1 5 x3.toNatClampNeg) = 10 then (if (σ.1 10 x3.toNatClampNeg) = x2 then (f_Mo_needFor_86 (f_Mo_needFor_34 n) x2 x3 σ) else (f_Mo_needFor_68 (f_Mo_needFor_34 n) x2 x3 σ)) else (f_Mo_needFor_68 (f_Mo_needFor_34 n) x2 x3 σ)))
def k_Mo_needFor_34 : Nat → Int32 → Int32 → St → Prop
  | 0, _, _, _ => False
  | n + 1, x2, x3, σ => (x3 < 0 → True) ∧ (¬ x3 < 0 → (vp_in x3 400 ∧ (((σ.1 29 x3.toNatClampNeg) = 0 → (k_Mo_needFor_86 (k_Mo_needFor_34 n) x2 x3 σ)) ∧ (¬ (σ.1 29 x3.toNatClampNeg) = 0 → (vp_in x3 400 ∧ (((σ.1 5 x3.toNatClampNeg) = 10 → (vp_in x3 400 ∧ (((σ.1 10 x3.toNatClampNeg) = x2 → (k_Mo_needFor_86 (k_Mo_needFor_34 n) x2 x3 σ)) ∧ (¬ (σ.1 10 x3.toNatClampNeg) = x2 → (k_Mo_needFor_68 (k_Mo_needFor_34 n) x2 x3 σ))))) ∧ (¬ (σ.1 5 x3.toNatClampNeg) = 10 → (k_Mo_needFor_68 (k_Mo_needFor_34 n) x2 x3 σ))))))))
def f_Mo_needFor_2 : Nat → Int32 → Int32 → Int32 → St → St
  | 0, _, _, _, σ => σ
  | n + 1, x1, x2, x3, σ => if (σ.1 0 8) ≤ x3 then (f_Mo_needFor_34 1000 x2 x1 σ) else (if x3 = x1 then (f_Mo_needFor_25 (f_Mo_needFor_2 n) x1 x2 x3 1 x3 σ) else (f_Mo_needFor_25 (f_Mo_needFor_2 n) x1 x2 x3 0 x3 σ))
def k_Mo_needFor_2 : Nat → Int32 → Int32 → Int32 → St → Prop
  | 0, _, _, _, _ => False
  | n + 1, x1, x2, x3, σ => ((σ.1 0 8) ≤ x3 → (k_Mo_needFor_34 1000 x2 x1 σ)) ∧ (¬ (σ.1 0 8) ≤ x3 → ((x3 = x1 → (k_Mo_needFor_25 (k_Mo_needFor_2 n) x1 x2 x3 1 x3 σ)) ∧ (¬ x3 = x1 → (k_Mo_needFor_25 (k_Mo_needFor_2 n) x1 x2 x3 0 x3 σ))))
def f_Mo_needFor (a1 : Int32) (a2 : Int32) (σ : St) : St := f_Mo_needFor_2 1000 a1 a2 0 σ
def k_Mo_needFor (a1 : Int32) (a2 : Int32) (σ : St) : Prop := k_Mo_needFor_2 1000 a1 a2 0 σ
abbrev w_Mo_needFor : List Cond := Cond.code y_Mo_needFor b_Mo_needFor 5 none :: gw
abbrev rm_Mo_needFor : Room := { frames := 0, cells := 0, slots := 0, locals := 0 }
set_option maxHeartbeats 4000000 in
set_option maxRecDepth 100000 in
theorem c_Mo_needFor (l : Launch) (D : va_G) (ty : Nat → ClassId) (h : Nat → Nat) (px : va_W) (sa : Nat → Nat) (σ : St) (sz : Nat) (a1 : Int32) (a2 : Int32) (hk : k_Mo_needFor a1 a2 σ) : Met l y_Mo_needFor w_Mo_needFor rm_Mo_needFor (va_Pc [.ref (h 0), .int a1, .int a2] (fun U => U.heap.size = sz ∧ va_P D classes (Wm ty h σ px) U.heap ∧ va_K D classes (Ta ty) U ∧ NW U ∧ MK sa (va_A (Wm ty h σ px) sz) U U.heap ∧ va_D (fun _ => True) (Wm ty h σ px))) (va_Qv (fun u : St => u = f_Mo_needFor a1 a2 σ) (fun u t => va_P D classes (Wm ty h u px) t.heap) (va_A (Wm ty h σ px) sz)) 0 0 (va_A (Wm ty h σ px) sz) := by
  refine Met.ofW (cc := b_Mo_needFor) (maxL := 5) (ret := none) (by decide) rfl ?_
  intro p e s m args below meth c s₁ B hml hv
  obtain ⟨ha, hsz, hP, hK, hN, hM, hD0⟩ := hv
  have hx := B.exec
  have hb := B.bytes
  have hr := B.returns
  have hg : ∀ w ∈ gw, w.before args s = true := fun w h9 => atoms_spec (ws := w_Mo_needFor) B.pre w (List.mem_cons_of_mem _ h9)
  have hown : s.vm.findClass "ClauseLedgerModel" = some m.cls := findClass_of_methodNamed B.named
  have hlocks := B.notSynchronized
  subst hsz
  have hD := hD0.self (sz := s.heap.size)
  generalize hAe : va_A (Wm ty h σ px) s.heap.size = A at hD hM ⊢
  have hA : ∀ q : Nat, s.heap.size ≤ q → A q := fun q h9 => by rw [← hAe]; exact Or.inr h9
  have hS : va_S A s.heap s.heap [] := va_S.rf
  have he : entryFrame m args 5 = entryFrame m ([.ref (h 0), .int a1, .int a2] : List Value).toArray 5 := by rw [ha]
  rw [he, lg_entry_eq]
  have hl := lv_entry ([.ref (h 0), .int a1, .int a2]) (n := 5) (Nat.le_of_ble_eq_true rfl)
  generalize (lg_sl ([.ref (h 0), .int a1, .int a2]) ++ List.replicate (5 - (lg_sl ([.ref (h 0), .int a1, .int a2])).length) Slot.unset).toArray = ls at hl ⊢
  have hl : lv_has ls 5 [(0, .ref (h 0)), (1, .int a1), (2, .int a2)] := hl
  generalize hv : f_Mo_needFor a1 a2 σ = v
  replace hv := hv.symm
  have B34 : ∀ (n34 : Nat) (H : Heap) (locs : List Loc) (ls : Array Slot) (x2 : Int32) (x3 : Int32) (σ : St), v = f_Mo_needFor_34 n34 x2 x3 σ → k_Mo_needFor_34 n34 x2 x3 σ → lv_has ls 5 [(0, .ref (h 0)), (2, .int x2), (3, .int x3)] → va_P D classes (Wm ty h σ px) H → va_D A (Wm ty h σ px) → va_S A s.heap H locs → W p l e (headSpec w_Mo_needFor rm_Mo_needFor).room s m args below meth c H locs 0 0 (MQ below (va_Qv (fun u : St => u = v) (fun u t => va_P D classes (Wm ty h u px) t.heap) A) args s 0 0 A) (F0 m 34 ls []) := by
    intro n34
    induction n34 with
    | zero => intro H locs ls x2 x3 σ hv hk hl hP hD hS; exact hk.elim
    | succ n34 ih34 =>
      have B141 : ∀ (H : Heap) (locs : List Loc) (ls : Array Slot) (x2 : Int32) (x3 : Int32) (σ : St), v = f_Mo_needFor_141 (f_Mo_needFor_34 n34) x2 x3 σ → k_Mo_needFor_141 (k_Mo_needFor_34 n34) x2 x3 σ → lv_has ls 5 [(0, .ref (h 0)), (2, .int x2), (3, .int x3)] → va_P D classes (Wm ty h σ px) H → va_D A (Wm ty h σ px) → va_S A s.heap H locs → W p l e (headSpec w_Mo_needFor rm_Mo_needFor).room s m args below meth c H locs 0 0 (MQ below (va_Qv (fun u : St => u = v) (fun u t => va_P D classes (Wm ty h u px) t.heap) A) args s 0 0 A) (F0 m 141 ls []) := by
        intro H locs ls x2 x3 σ hv hk hl hP hD hS
        unfold f_Mo_needFor_141 at hv
        unfold k_Mo_needFor_141 at hk
        refine lv_iinc (k := 2) (v := x3 + (-1)) (lv' := [(3, .int (x3 + (-1))), (0, .ref (h 0)), (2, .int x2)]) hx hb d_Mo_needFor_141 hl rfl (by first | rfl | simp [lit1, litm1]) (by decide) rfl (fun ls hl => ?_)
        refine lv_goto (tgt := 34) hx hb d_Mo_needFor_144 (by decide) ?_
        exact ih34 _ _ _ x2 (x3 + (-1)) σ hv hk (lv_sub hl [1, 2, 0] rfl) hP hD hS
      have B115 : ∀ (H : Heap) (locs : List Loc) (ls : Array Slot) (x2 : Int32) (x3 : Int32) (x4 : Int32) (σ : St), v = f_Mo_needFor_115 (f_Mo_needFor_34 n34) x2 x3 x4 σ → k_Mo_needFor_115 (k_Mo_needFor_34 n34) x2 x3 x4 σ → lv_has ls 5 [(0, .ref (h 0)), (2, .int x2), (3, .int x3), (4, .int x4)] → va_P D classes (Wm ty h σ px) H → va_D A (Wm ty h σ px) → va_S A s.heap H locs → W p l e (headSpec w_Mo_needFor rm_Mo_needFor).room s m args below meth c H locs 0 0 (MQ below (va_Qv (fun u : St => u = v) (fun u t => va_P D classes (Wm ty h u px) t.heap) A) args s 0 0 A) (F0 m 115 ls []) := by
        intro H locs ls x2 x3 x4 σ hv hk hl hP hD hS
        unfold f_Mo_needFor_115 at hv
        unfold k_Mo_needFor_115 at hk
        refine lv_iload hx hb d_Mo_needFor_115 (lv_at hl 3 rfl) ?_
        refine lv_if_eq (tgt := 141) hx hb d_Mo_needFor_117 (by decide) (fun hc => ?_) (fun hc => ?_)
        · have hv := hv.trans (if_pos hc)
          have hk := hk.1 hc
          exact B141 _ _ _ x2 x3 σ hv hk (lv_sub hl [0, 1, 2] rfl) hP hD hS
        · have hv := hv.trans (if_neg hc)
          have hk := hk.2 hc
          refine lv_aload_n hx hb d_Mo_needFor_120 rfl (lv_at hl 0 rfl) ?_
          refine va_get (v := .ref (h 9)) (C := R_Mo) (T := T_Mo) (N := 51) hx hb hg in_Mo hown hK hP 0 rfl rfl 14 (by decide) (hg _ m_1273) (fun _ h9 => h9) rfl d_Mo_needFor_121 ?_
          refine lv_iload_n hx hb d_Mo_needFor_124 rfl (lv_at hl 2 rfl) ?_
          obtain ⟨hk0, hk⟩ := hk
          refine va_iald hx hb hK hP 9 0 rfl rfl hk0 d_Mo_needFor_125 ?_
          refine lv_if_lt (tgt := 141) hx hb d_Mo_needFor_126 (by decide) (fun hc => ?_) (fun hc => ?_)
          · have hv := hv.trans (if_pos hc)
            have hk := hk.1 hc
            exact B141 _ _ _ x2 x3 σ hv hk (lv_sub hl [0, 1, 2] rfl) hP hD hS
          · have hv := hv.trans (if_neg hc)
            have hk := hk.2 hc
            refine lv_aload_n hx hb d_Mo_needFor_129 rfl (lv_at hl 0 rfl) ?_
            refine va_get (v := .ref (h 29)) (C := R_Mo) (T := T_Mo) (N := 51) hx hb hg in_Mo hown hK hP 0 rfl rfl 42 (by decide) (hg _ m_1301) (fun _ h9 => h9) rfl d_Mo_needFor_130 ?_
            refine lv_aload_n hx hb d_Mo_needFor_133 rfl (lv_at hl 0 rfl) ?_
            refine va_get (v := .ref (h 9)) (C := R_Mo) (T := T_Mo) (N := 51) hx hb hg in_Mo hown hK hP 0 rfl rfl 14 (by decide) (hg _ m_1273) (fun _ h9 => h9) rfl d_Mo_needFor_134 ?_
            refine lv_iload_n hx hb d_Mo_needFor_137 rfl (lv_at hl 2 rfl) ?_
            obtain ⟨hk0, hk⟩ := hk
            refine va_iald hx hb hK hP 9 0 rfl rfl hk0 d_Mo_needFor_138 ?_
            refine lv_iconst (v := 1) hx hb d_Mo_needFor_139 (by decide) ?_
            obtain ⟨hk0, hk⟩ := hk
            refine va_zast hx hb hK hP hD hS 29 3 rfl rfl hk0 d_Mo_needFor_140 (fun H locs hP hD hS => ?_)
            have hP : va_P D classes (Wm ty h (sA σ 29 (σ.1 9 x3.toNatClampNeg) (vp_nar .boolean 1)) px) H := hP
            have hD : va_D A (Wm ty h (sA σ 29 (σ.1 9 x3.toNatClampNeg) (vp_nar .boolean 1)) px) := hD
            exact B141 _ _ _ x2 x3 (sA σ 29 (σ.1 9 x3.toNatClampNeg) (vp_nar .boolean 1)) hv hk (lv_sub hl [0, 1, 2] rfl) hP hD hS
      have B87 : ∀ (H : Heap) (locs : List Loc) (ls : Array Slot) (x2 : Int32) (x3 : Int32) (s0 : Int32) (σ : St), v = f_Mo_needFor_87 (f_Mo_needFor_34 n34) x2 x3 s0 σ → k_Mo_needFor_87 (k_Mo_needFor_34 n34) x2 x3 s0 σ → lv_has ls 5 [(0, .ref (h 0)), (2, .int x2), (3, .int x3)] → va_P D classes (Wm ty h σ px) H → va_D A (Wm ty h σ px) → va_S A s.heap H locs → W p l e (headSpec w_Mo_needFor rm_Mo_needFor).room s m args below meth c H locs 0 0 (MQ below (va_Qv (fun u : St => u = v) (fun u t => va_P D classes (Wm ty h u px) t.heap) A) args s 0 0 A) (F0 m 87 ls [.int s0]) := by
        intro H locs ls x2 x3 s0 σ hv hk hl hP hD hS
        unfold f_Mo_needFor_87 at hv
        unfold k_Mo_needFor_87 at hk
        refine lv_istore (lv' := [(4, .int s0), (0, .ref (h 0)), (2, .int x2), (3, .int x3)]) hx hb d_Mo_needFor_87 hl (by decide) rfl (fun ls hl => ?_)
        refine lv_iload hx hb d_Mo_needFor_89 (lv_at hl 0 rfl) ?_
        refine lv_if_eq (tgt := 115) hx hb d_Mo_needFor_91 (by decide) (fun hc => ?_) (fun hc => ?_)
        · have hv := hv.trans (if_pos hc)
          have hk := hk.1 hc
          exact B115 _ _ _ x2 x3 s0 σ hv hk (lv_sub hl [1, 2, 3, 0] rfl) hP hD hS
        · have hv := hv.trans (if_neg hc)
          have hk := hk.2 hc
          refine lv_aload_n hx hb d_Mo_needFor_94 rfl (lv_at hl 1 rfl) ?_
          refine va_get (v := .ref (h 8)) (C := R_Mo) (T := T_Mo) (N := 51) hx hb hg in_Mo hown hK hP 0 rfl rfl 13 (by decide) (hg _ m_1272) (fun _ h9 => h9) rfl d_Mo_needFor_95 ?_
          refine lv_iload_n hx hb d_Mo_needFor_98 rfl (lv_at hl 3 rfl) ?_
          obtain ⟨hk0, hk⟩ := hk
          refine va_iald hx hb hK hP 8 0 rfl rfl hk0 d_Mo_needFor_99 ?_
          refine lv_if_lt (tgt := 115) hx hb d_Mo_needFor_100 (by decide) (fun hc => ?_) (fun hc => ?_)
          · have hv := hv.trans (if_pos hc)
            have hk := hk.1 hc
            exact B115 _ _ _ x2 x3 s0 σ hv hk (lv_sub hl [1, 2, 3, 0] rfl) hP hD hS
          · have hv := hv.trans (if_neg hc)
            have hk := hk.2 hc
            refine lv_aload_n hx hb d_Mo_needFor_103 rfl (lv_at hl 1 rfl) ?_
            refine va_get (v := .ref (h 29)) (C := R_Mo) (T := T_Mo) (N := 51) hx hb hg in_Mo hown hK hP 0 rfl rfl 42 (by decide) (hg _ m_1301) (fun _ h9 => h9) rfl d_Mo_needFor_104 ?_
            refine lv_aload_n hx hb d_Mo_needFor_107 rfl (lv_at hl 1 rfl) ?_
            refine va_get (v := .ref (h 8)) (C := R_Mo) (T := T_Mo) (N := 51) hx hb hg in_Mo hown hK hP 0 rfl rfl 13 (by decide) (hg _ m_1272) (fun _ h9 => h9) rfl d_Mo_needFor_108 ?_
            refine lv_iload_n hx hb d_Mo_needFor_111 rfl (lv_at hl 3 rfl) ?_
            obtain ⟨hk0, hk⟩ := hk
            refine va_iald hx hb hK hP 8 0 rfl rfl hk0 d_Mo_needFor_112 ?_
            refine lv_iconst (v := 1) hx hb d_Mo_needFor_113 (by decide) ?_
            obtain ⟨hk0, hk⟩ := hk
            refine va_zast hx hb hK hP hD hS 29 3 rfl rfl hk0 d_Mo_needFor_114 (fun H locs hP hD hS => ?_)
            have hP : va_P D classes (Wm ty h (sA σ 29 (σ.1 8 x3.toNatClampNeg) (vp_nar .boolean 1)) px) H := hP
            have hD : va_D A (Wm ty h (sA σ 29 (σ.1 8 x3.toNatClampNeg) (vp_nar .boolean 1)) px) := hD
            exact B115 _ _ _ x2 x3 s0 (sA σ 29 (σ.1 8 x3.toNatClampNeg) (vp_nar .boolean 1)) hv hk (lv_sub hl [1, 2, 3, 0] rfl) hP hD hS
      have B86 : ∀ (H : Heap) (locs : List Loc) (ls : Array Slot) (x2 : Int32) (x3 : Int32) (σ : St), v = f_Mo_needFor_86 (f_Mo_needFor_34 n34) x2 x3 σ → k_Mo_needFor_86 (k_Mo_needFor_34 n34) x2 x3 σ → lv_has ls 5 [(0, .ref (h 0)), (2, .int x2), (3, .int x3)] → va_P D classes (Wm ty h σ px) H → va_D A (Wm ty h σ px) → va_S A s.heap H locs → W p l e (headSpec w_Mo_needFor rm_Mo_needFor).room s m args below meth c H locs 0 0 (MQ below (va_Qv (fun u : St => u = v) (fun u t => va_P D classes (Wm ty h u px) t.heap) A) args s 0 0 A) (F0 m 86 ls []) := by
        intro H locs ls x2 x3 σ hv hk hl hP hD hS
        unfold f_Mo_needFor_86 at hv
        unfold k_Mo_needFor_86 at hk
        refine lv_iconst (v := 0) hx hb d_Mo_needFor_86 (by decide) ?_
        exact B87 _ _ _ x2 x3 0 σ hv hk (lv_sub hl [0, 1, 2] rfl) hP hD hS
      have B68 : ∀ (H : Heap) (locs : List Loc) (ls : Array Slot) (x2 : Int32) (x3 : Int32) (σ : St), v = f_Mo_needFor_68 (f_Mo_needFor_34 n34) x2 x3 σ → k_Mo_needFor_68 (k_Mo_needFor_34 n34) x2 x3 σ → lv_has ls 5 [(0, .ref (h 0)), (2, .int x2), (3, .int x3)] → va_P D classes (Wm ty h σ px) H → va_D A (Wm ty h σ px) → va_S A s.heap H locs → W p l e (headSpec w_Mo_needFor rm_Mo_needFor).room s m args below meth c H locs 0 0 (MQ below (va_Qv (fun u : St => u = v) (fun u t => va_P D classes (Wm ty h u px) t.heap) A) args s 0 0 A) (F0 m 68 ls []) := by
        intro H locs ls x2 x3 σ hv hk hl hP hD hS
        unfold f_Mo_needFor_68 at hv
        unfold k_Mo_needFor_68 at hk
        refine lv_aload_n hx hb d_Mo_needFor_68 rfl (lv_at hl 0 rfl) ?_
        refine va_get (v := .ref (h 13)) (C := R_Mo) (T := T_Mo) (N := 51) hx hb hg in_Mo hown hK hP 0 rfl rfl 18 (by decide) (hg _ m_1277) (fun _ h9 => h9) rfl d_Mo_needFor_69 ?_
        refine lv_iload_n hx hb d_Mo_needFor_72 rfl (lv_at hl 2 rfl) ?_
        obtain ⟨hk0, hk⟩ := hk
        refine va_iald hx hb hK hP 13 0 rfl rfl hk0 d_Mo_needFor_73 ?_
        refine lv_iload_n hx hb d_Mo_needFor_74 rfl (lv_at hl 1 rfl) ?_
        refine lv_ishr hx hb d_Mo_needFor_75 ?_
        refine lv_iconst (v := 1) hx hb d_Mo_needFor_76 (by decide) ?_
        refine lv_iand hx hb d_Mo_needFor_77 ?_
        refine lv_iconst (v := 1) hx hb d_Mo_needFor_78 (by decide) ?_
        refine lv_icmp_ne (tgt := 86) hx hb d_Mo_needFor_79 (by decide) (fun hc => ?_) (fun hc => ?_)
        · have hv := hv.trans (if_neg hc)
          have hk := hk.2 hc
          exact B86 _ _ _ x2 x3 σ hv hk (lv_sub hl [0, 1, 2] rfl) hP hD hS
        · have hv := hv.trans (if_pos hc)
          have hk := hk.1 hc
          refine lv_iconst (v := 1) hx hb d_Mo_needFor_82 (by decide) ?_
          refine lv_goto (tgt := 87) hx hb d_Mo_needFor_83 (by decide) ?_
          exact B87 _ _ _ x2 x3 1 σ hv hk (lv_sub hl [0, 1, 2] rfl) hP hD hS
      intro H locs ls x2 x3 σ hv hk hl hP hD hS
      rw [f_Mo_needFor_34] at hv
      rw [k_Mo_needFor_34] at hk
      refine lv_iload_n hx hb d_Mo_needFor_34 rfl (lv_at hl 2 rfl) ?_
      refine lv_if_lt (tgt := 147) hx hb d_Mo_needFor_35 (by decide) (fun hc => ?_) (fun hc => ?_)
      · have hv := hv.trans (if_pos hc)
        have hk := hk.1 hc
        exact W.vret hx hb hr (fun t ht hW => ⟨⟨_, rfl, hv.symm, by dsimp only; rw [ht]; exact hP⟩, hS.F ht⟩) hS.2.2 d_Mo_needFor_147
      · have hv := hv.trans (if_neg hc)
        have hk := hk.2 hc
        refine lv_aload_n hx hb d_Mo_needFor_38 rfl (lv_at hl 0 rfl) ?_
        refine va_get (v := .ref (h 29)) (C := R_Mo) (T := T_Mo) (N := 51) hx hb hg in_Mo hown hK hP 0 rfl rfl 42 (by decide) (hg _ m_1301) (fun _ h9 => h9) rfl d_Mo_needFor_39 ?_
        refine lv_iload_n hx hb d_Mo_needFor_42 rfl (lv_at hl 2 rfl) ?_
        obtain ⟨hk0, hk⟩ := hk
        refine va_zald hx hb hK hP 29 3 rfl rfl hk0 d_Mo_needFor_43 ?_
        refine lv_if_eq (tgt := 86) hx hb d_Mo_needFor_44 (by decide) (fun hc => ?_) (fun hc => ?_)
        · have hv := hv.trans (if_pos hc)
          have hk := hk.1 hc
          exact B86 _ _ _ x2 x3 σ hv hk (lv_sub hl [0, 1, 2] rfl) hP hD hS
        · have hv := hv.trans (if_neg hc)
          have hk := hk.2 hc
          refine lv_aload_n hx hb d_Mo_needFor_47 rfl (lv_at hl 0 rfl) ?_
          refine va_get (v := .ref (h 5)) (C := R_Mo) (T := T_Mo) (N := 51) hx hb hg in_Mo hown hK hP 0 rfl rfl 10 (by decide) (hg _ m_1269) (fun _ h9 => h9) rfl d_Mo_needFor_48 ?_
          refine lv_iload_n hx hb d_Mo_needFor_51 rfl (lv_at hl 2 rfl) ?_
          obtain ⟨hk0, hk⟩ := hk
          refine va_iald hx hb hK hP 5 0 rfl rfl hk0 d_Mo_needFor_52 ?_
          refine lv_bipush (v := 10) hx hb d_Mo_needFor_53 (by decide) ?_
          refine lv_icmp_ne (tgt := 68) hx hb d_Mo_needFor_55 (by decide) (fun hc => ?_) (fun hc => ?_)
          · have hv := hv.trans (if_neg hc)
            have hk := hk.2 hc
            exact B68 _ _ _ x2 x3 σ hv hk (lv_sub hl [0, 1, 2] rfl) hP hD hS
          · have hv := hv.trans (if_pos hc)
            have hk := hk.1 hc
            refine lv_aload_n hx hb d_Mo_needFor_58 rfl (lv_at hl 0 rfl) ?_
            refine va_get (v := .ref (h 10)) (C := R_Mo) (T := T_Mo) (N := 51) hx hb hg in_Mo hown hK hP 0 rfl rfl 15 (by decide) (hg _ m_1274) (fun _ h9 => h9) rfl d_Mo_needFor_59 ?_
            refine lv_iload_n hx hb d_Mo_needFor_62 rfl (lv_at hl 2 rfl) ?_
            obtain ⟨hk0, hk⟩ := hk
            refine va_iald hx hb hK hP 10 0 rfl rfl hk0 d_Mo_needFor_63 ?_
            refine lv_iload_n hx hb d_Mo_needFor_64 rfl (lv_at hl 1 rfl) ?_
            refine lv_icmp_eq (tgt := 86) hx hb d_Mo_needFor_65 (by decide) (fun hc => ?_) (fun hc => ?_)
            · have hv := hv.trans (if_pos hc)
              have hk := hk.1 hc
              exact B86 _ _ _ x2 x3 σ hv hk (lv_sub hl [0, 1, 2] rfl) hP hD hS
            · have hv := hv.trans (if_neg hc)
              have hk := hk.2 hc
              exact B68 _ _ _ x2 x3 σ hv hk (lv_sub hl [0, 1, 2] rfl) hP hD hS
  have B2 : ∀ (n2 : Nat) (H : Heap) (locs : List Loc) (ls : Array Slot) (x1 : Int32) (x2 : Int32) (x3 : Int32) (σ : St), v = f_Mo_needFor_2 n2 x1 x2 x3 σ → k_Mo_needFor_2 n2 x1 x2 x3 σ → lv_has ls 5 [(0, .ref (h 0)), (1, .int x1), (2, .int x2), (3, .int x3)] → va_P D classes (Wm ty h σ px) H → va_D A (Wm ty h σ px) → va_S A s.heap H locs → W p l e (headSpec w_Mo_needFor rm_Mo_needFor).room s m args below meth c H locs 0 0 (MQ below (va_Qv (fun u : St => u = v) (fun u t => va_P D classes (Wm ty h u px) t.heap) A) args s 0 0 A) (F0 m 2 ls []) := by
    intro n2
    induction n2 with
    | zero => intro H locs ls x1 x2 x3 σ hv hk hl hP hD hS; exact hk.elim
    | succ n2 ih2 =>
      have B26 : ∀ (H : Heap) (locs : List Loc) (ls : Array Slot) (x1 : Int32) (x2 : Int32) (x3 : Int32) (σ : St), v = f_Mo_needFor_26 (f_Mo_needFor_2 n2) x1 x2 x3 σ → k_Mo_needFor_26 (k_Mo_needFor_2 n2) x1 x2 x3 σ → lv_has ls 5 [(0, .ref (h 0)), (1, .int x1), (2, .int x2), (3, .int x3)] → va_P D classes (Wm ty h σ px) H → va_D A (Wm ty h σ px) → va_S A s.heap H locs → W p l e (headSpec w_Mo_needFor rm_Mo_needFor).room s m args below meth c H locs 0 0 (MQ below (va_Qv (fun u : St => u = v) (fun u t => va_P D classes (Wm ty h u px) t.heap) A) args s 0 0 A) (F0 m 26 ls []) := by
        intro H locs ls x1 x2 x3 σ hv hk hl hP hD hS
        unfold f_Mo_needFor_26 at hv
        unfold k_Mo_needFor_26 at hk
        refine lv_iinc (k := 3) (v := x3 + 1) (lv' := [(3, .int (x3 + 1)), (0, .ref (h 0)), (1, .int x1), (2, .int x2)]) hx hb d_Mo_needFor_26 hl rfl (by first | rfl | simp [lit1, litm1]) (by decide) rfl (fun ls hl => ?_)
        refine lv_goto (tgt := 2) hx hb d_Mo_needFor_29 (by decide) ?_
        exact ih2 _ _ _ x1 x2 (x3 + 1) σ hv hk (lv_sub hl [1, 2, 3, 0] rfl) hP hD hS
      have B25 : ∀ (H : Heap) (locs : List Loc) (ls : Array Slot) (x1 : Int32) (x2 : Int32) (x3 : Int32) (s0 : Int32) (s1 : Int32) (σ : St), v = f_Mo_needFor_25 (f_Mo_needFor_2 n2) x1 x2 x3 s0 s1 σ → k_Mo_needFor_25 (k_Mo_needFor_2 n2) x1 x2 x3 s0 s1 σ → lv_has ls 5 [(0, .ref (h 0)), (1, .int x1), (2, .int x2), (3, .int x3)] → va_P D classes (Wm ty h σ px) H → va_D A (Wm ty h σ px) → va_S A s.heap H locs → W p l e (headSpec w_Mo_needFor rm_Mo_needFor).room s m args below meth c H locs 0 0 (MQ below (va_Qv (fun u : St => u = v) (fun u t => va_P D classes (Wm ty h u px) t.heap) A) args s 0 0 A) (F0 m 25 ls [.int s0, .int s1, .ref (h 29)]) := by
        intro H locs ls x1 x2 x3 s0 s1 σ hv hk hl hP hD hS
        unfold f_Mo_needFor_25 at hv
        unfold k_Mo_needFor_25 at hk
        obtain ⟨hk0, hk⟩ := hk
        refine va_zast hx hb hK hP hD hS 29 3 rfl rfl hk0 d_Mo_needFor_25 (fun H locs hP hD hS => ?_)
        have hP : va_P D classes (Wm ty h (sA σ 29 s1 (vp_nar .boolean s0)) px) H := hP
        have hD : va_D A (Wm ty h (sA σ 29 s1 (vp_nar .boolean s0)) px) := hD
        exact B26 _ _ _ x1 x2 x3 (sA σ 29 s1 (vp_nar .boolean s0)) hv hk (lv_sub hl [0, 1, 2, 3] rfl) hP hD hS
      intro H locs ls x1 x2 x3 σ hv hk hl hP hD hS
      rw [f_Mo_needFor_2] at hv
      rw [k_Mo_needFor_2] at hk
      refine lv_iload_n hx hb d_Mo_needFor_2 rfl (lv_at hl 3 rfl) ?_
      refine lv_aload_n hx hb d_Mo_needFor_3 rfl (lv_at hl 0 rfl) ?_
      refine va_get (v := .int (σ.1 0 8)) (C := R_Mo) (T := T_Mo) (N := 51) hx hb hg in_Mo hown hK hP 0 rfl rfl 8 (by decide) (hg _ m_1267) (fun _ h9 => h9) rfl d_Mo_needFor_4 ?_
      refine lv_icmp_ge (tgt := 32) hx hb d_Mo_needFor_7 (by decide) (fun hc => ?_) (fun hc => ?_)
      · have hv := hv.trans (if_pos hc)
        have hk := hk.1 hc
        refine lv_iload_n hx hb d_Mo_needFor_32 rfl (lv_at hl 1 rfl) ?_
        refine lv_istore_n (lv' := [(3, .int x1), (0, .ref (h 0)), (1, .int x1), (2, .int x2)]) hx hb d_Mo_needFor_33 rfl hl (by decide) rfl (fun ls hl => ?_)
        exact B34 1000 _ _ _ x2 x1 σ hv hk (lv_sub hl [1, 3, 0] rfl) hP hD hS
      · have hv := hv.trans (if_neg hc)
        have hk := hk.2 hc
        refine lv_aload_n hx hb d_Mo_needFor_10 rfl (lv_at hl 0 rfl) ?_
        refine va_get (v := .ref (h 29)) (C := R_Mo) (T := T_Mo) (N := 51) hx hb hg in_Mo hown hK hP 0 rfl rfl 42 (by decide) (hg _ m_1301) (fun _ h9 => h9) rfl d_Mo_needFor_11 ?_
        refine lv_iload_n hx hb d_Mo_needFor_14 rfl (lv_at hl 3 rfl) ?_
        refine lv_iload_n hx hb d_Mo_needFor_15 rfl (lv_at hl 3 rfl) ?_
        refine lv_iload_n hx hb d_Mo_needFor_16 rfl (lv_at hl 1 rfl) ?_
        refine lv_icmp_ne (tgt := 24) hx hb d_Mo_needFor_17 (by decide) (fun hc => ?_) (fun hc => ?_)
        · have hv := hv.trans (if_neg hc)
          have hk := hk.2 hc
          refine lv_iconst (v := 0) hx hb d_Mo_needFor_24 (by decide) ?_
          exact B25 _ _ _ x1 x2 x3 0 x3 σ hv hk (lv_sub hl [0, 1, 2, 3] rfl) hP hD hS
        · have hv := hv.trans (if_pos hc)
          have hk := hk.1 hc
          refine lv_iconst (v := 1) hx hb d_Mo_needFor_20 (by decide) ?_
          refine lv_goto (tgt := 25) hx hb d_Mo_needFor_21 (by decide) ?_
          exact B25 _ _ _ x1 x2 x3 1 x3 σ hv hk (lv_sub hl [0, 1, 2, 3] rfl) hP hD hS
  unfold f_Mo_needFor at hv
  unfold k_Mo_needFor at hk
  refine lv_iconst (v := 0) hx hb d_Mo_needFor_0 (by decide) ?_
  refine lv_istore_n (lv' := [(3, .int 0), (0, .ref (h 0)), (1, .int a1), (2, .int a2)]) hx hb d_Mo_needFor_1 rfl hl (by decide) rfl (fun ls hl => ?_)
  exact B2 1000 _ _ _ a1 a2 0 σ hv hk (lv_sub hl [1, 2, 3, 0] rfl) hP hD hS

