-- ClauseLedger$Terms.equation(II)I
abbrev b_Te_equation : ByteArray := prog_11_method_21_code
def y_Te_equation : MethodName := ⟨"ClauseLedger$Terms", "equation", "(II)I"⟩
theorem hd_Te_equation : y_Te_equation.cls ≠ "java/lang/invoke/MethodHandle" ∧ y_Te_equation.cls ≠ "java/lang/invoke/VarHandle" ∧ (parseMethodDescriptor y_Te_equation.desc).map (fun d => d.parameters.length) = some 2 := by decide +kernel
theorem d_Te_equation_0 : decode b_Te_equation 0 = .ok (.aload_n 0, 1) := by decide +kernel
theorem d_Te_equation_1 : decode b_Te_equation 1 = .ok (.iconst 5, 1) := by decide +kernel
theorem d_Te_equation_2 : decode b_Te_equation 2 = .ok (.iconst 0, 1) := by decide +kernel
theorem d_Te_equation_3 : decode b_Te_equation 3 = .ok (.iconst (-1), 1) := by decide +kernel
theorem d_Te_equation_4 : decode b_Te_equation 4 = .ok (.iload_n 1, 1) := by decide +kernel
theorem d_Te_equation_5 : decode b_Te_equation 5 = .ok (.iload_n 2, 1) := by decide +kernel
theorem d_Te_equation_6 : decode b_Te_equation 6 = .ok (.invokevirtual 105, 3) := by decide +kernel
theorem d_Te_equation_9 : decode b_Te_equation 9 = .ok (.ireturn, 1) := by decide +kernel
def f_Te_equation_9 (s0 : Int32) (σ : St) : Int32 × St := (s0, σ)
def k_Te_equation_9 (s0 : Int32) (σ : St) : Prop := True
def f_Te_equation (a1 : Int32) (a2 : Int32) (σ : St) : Int32 × St := f_Te_equation_9 ((f_Te_make 5 0 (-1) a1 a2 σ).1) ((f_Te_make 5 0 (-1) a1 a2 σ).2)
def k_Te_equation (a1 : Int32) (a2 : Int32) (σ : St) : Prop := (k_Te_make 5 0 (-1) a1 a2 σ) ∧ (k_Te_equation_9 ((f_Te_make 5 0 (-1) a1 a2 σ).1) ((f_Te_make 5 0 (-1) a1 a2 σ).2))
abbrev w_Te_equation : List Cond := Cond.code y_Te_equation b_Te_equation 3 (some .int) :: gw
abbrev rm_Te_equation : Room := { frames := 3, cells := 0, slots := 0, locals := 76 }
set_option maxHeartbeats 4000000 in
set_option maxRecDepth 100000 in
theorem c_Te_equation (l : Launch) (D : va_G) (ty : Nat → ClassId) (h : Nat → Nat) (px : va_W) (sa : Nat → Nat) (σ : St) (sz : Nat) (a1 : Int32) (a2 : Int32) (hk : k_Te_equation a1 a2 σ) : Met l y_Te_equation w_Te_equation rm_Te_equation (va_Pc [.ref (h 6), .int a1, .int a2] (fun U => U.heap.size = sz ∧ va_P D classes (Wc ty h σ px) U.heap ∧ va_K D classes (Ta ty) U ∧ NW U ∧ MK sa (va_A (Wc ty h σ px) sz) U U.heap ∧ va_D (fun _ => True) (Wc ty h σ px))) (va_Qi (fun r (u : St) => (r, u) = f_Te_equation a1 a2 σ) (fun u t => va_P D classes (Wc ty h u px) t.heap) (va_A (Wc ty h σ px) sz)) 0 0 (va_A (Wc ty h σ px) sz) := by
  refine Met.ofW (cc := b_Te_equation) (maxL := 3) (ret := (some .int)) (by decide) rfl ?_
  intro p e s m args below meth c s₁ B hml hv
  obtain ⟨ha, hsz, hP, hK, hN, hM, hD0⟩ := hv
  have hx := B.exec
  have hb := B.bytes
  have hr := B.returns
  have hg : ∀ w ∈ gw, w.before args s = true := fun w h9 => atoms_spec (ws := w_Te_equation) B.pre w (List.mem_cons_of_mem _ h9)
  have hown : s.vm.findClass "ClauseLedger$Terms" = some m.cls := findClass_of_methodNamed B.named
  have hlocks := B.notSynchronized
  subst hsz
  have hD := hD0.self (sz := s.heap.size)
  generalize hAe : va_A (Wc ty h σ px) s.heap.size = A at hD hM ⊢
  have hA : ∀ q : Nat, s.heap.size ≤ q → A q := fun q h9 => by rw [← hAe]; exact Or.inr h9
  have hS : va_S A s.heap s.heap [] := va_S.rf
  have he : entryFrame m args 3 = entryFrame m ([.ref (h 6), .int a1, .int a2] : List Value).toArray 3 := by rw [ha]
  rw [he, lg_entry_eq]
  have hl := lv_entry ([.ref (h 6), .int a1, .int a2]) (n := 3) (Nat.le_of_ble_eq_true rfl)
  generalize (lg_sl ([.ref (h 6), .int a1, .int a2]) ++ List.replicate (3 - (lg_sl ([.ref (h 6), .int a1, .int a2])).length) Slot.unset).toArray = ls at hl ⊢
  have hl : lv_has ls 3 [(0, .ref (h 6)), (1, .int a1), (2, .int a2)] := hl
  generalize hv : f_Te_equation a1 a2 σ = v
  replace hv := hv.symm
  have B9 : ∀ (H : Heap) (locs : List Loc) (ls : Array Slot) (s0 : Int32) (σ : St), v = f_Te_equation_9 s0 σ → k_Te_equation_9 s0 σ → lv_has ls 3 [] → va_P D classes (Wc ty h σ px) H → va_D A (Wc ty h σ px) → va_S A s.heap H locs → W p l e (headSpec w_Te_equation rm_Te_equation).room s m args below meth c H locs 0 0 (MQ below (va_Qi (fun r (u : St) => (r, u) = v) (fun u t => va_P D classes (Wc ty h u px) t.heap) A) args s 0 0 A) (F0 m 9 ls [.int s0]) := by
    intro H locs ls s0 σ hv hk hl hP hD hS
    unfold f_Te_equation_9 at hv
    unfold k_Te_equation_9 at hk
    exact W.iret hx hb hr (fun t ht hW => ⟨⟨_, _, rfl, hv.symm, by dsimp only; rw [ht]; exact hP⟩, hS.F ht⟩) hS.2.2 d_Te_equation_9
  unfold f_Te_equation at hv
  unfold k_Te_equation at hk
  refine lv_aload_n hx hb d_Te_equation_0 rfl (lv_at hl 0 rfl) ?_
  refine lv_iconst (v := 5) hx hb d_Te_equation_1 (by decide) ?_
  refine lv_iconst (v := 0) hx hb d_Te_equation_2 (by decide) ?_
  refine lv_iconst (v := -1) hx hb d_Te_equation_3 (by decide) ?_
  refine lv_iload_n hx hb d_Te_equation_4 rfl (lv_at hl 1 rfl) ?_
  refine lv_iload_n hx hb d_Te_equation_5 rfl (lv_at hl 2 rfl) ?_
  obtain ⟨hk0, hk⟩ := hk
  refine va_calli (va_runV (As := [.int 5, .int 0, .int (-1), .int a1, .int a2]) (rest := []) ⟨hx, hb, hml, hown, hg⟩ (c_Te_make l D ty h px sa σ s.heap.size 5 0 (-1) a1 a2 hk0) ⟨callB_of 5 hg (gw_C m_620) rfl rfl rfl (hg _ m_3) (hg _ m_1015) hd_Te_make ⟨Nat.le_of_ble_eq_true rfl, Nat.le_of_ble_eq_true rfl⟩, hg _ m_618, hg _ m_619⟩ (zz_preVW hM hS hA hN hK hP hD 6 rfl rfl) rfl rfl hl.1 rfl (lv_room (Nat.le_of_ble_eq_true rfl)) d_Te_equation_6 ⟨Nat.le_of_ble_eq_true rfl, Nat.le_of_ble_eq_true rfl⟩) hS (fun q _ h => zz_free hD hS hA q h) (zz_free hD hS hA) (fun r6 u6 t H locs ht hvm hp hP1 hz hk1 hS => ?_)
  rw [ht] at hP1
  rw [← hp] at hv hk
  have hD : va_D A (Wc ty h u6 px) := zz_D hD rfl
  have hP := hP1
  exact B9 _ _ _ r6 u6 hv hk (lv_sub hl [] rfl) hP hD hS

-- ClauseLedger.same(I)I
abbrev b_CL_same : ByteArray := prog_1_method_11_code
def y_CL_same : MethodName := ⟨"ClauseLedger", "same", "(I)I"⟩
theorem hd_CL_same : y_CL_same.cls ≠ "java/lang/invoke/MethodHandle" ∧ y_CL_same.cls ≠ "java/lang/invoke/VarHandle" ∧ (parseMethodDescriptor y_CL_same.desc).map (fun d => d.parameters.length) = some 1 := by decide +kernel
theorem d_CL_same_0 : decode b_CL_same 0 = .ok (.aload_n 0, 1) := by decide +kernel
theorem d_CL_same_1 : decode b_CL_same 1 = .ok (.invokevirtual 102, 3) := by decide +kernel
theorem d_CL_same_4 : decode b_CL_same 4 = .ok (.ifCond .eq 5, 3) := by decide +kernel
theorem d_CL_same_7 : decode b_CL_same 7 = .ok (.iconst (-1), 1) := by decide +kernel
theorem d_CL_same_8 : decode b_CL_same 8 = .ok (.ireturn, 1) := by decide +kernel
theorem d_CL_same_9 : decode b_CL_same 9 = .ok (.aload_n 0, 1) := by decide +kernel
theorem d_CL_same_10 : decode b_CL_same 10 = .ok (.getfield 19, 3) := by decide +kernel
theorem d_CL_same_13 : decode b_CL_same 13 = .ok (.iload_n 1, 1) := by decide +kernel
theorem d_CL_same_14 : decode b_CL_same 14 = .ok (.invokevirtual 130, 3) := by decide +kernel
theorem d_CL_same_17 : decode b_CL_same 17 = .ok (.ifCond .ne 8, 3) := by decide +kernel
theorem d_CL_same_20 : decode b_CL_same 20 = .ok (.aload_n 0, 1) := by decide +kernel
theorem d_CL_same_21 : decode b_CL_same 21 = .ok (.invokevirtual 134, 3) := by decide +kernel
theorem d_CL_same_24 : decode b_CL_same 24 = .ok (.ireturn, 1) := by decide +kernel
theorem d_CL_same_25 : decode b_CL_same 25 = .ok (.aload_n 0, 1) := by decide +kernel
theorem d_CL_same_26 : decode b_CL_same 26 = .ok (.getfield 65, 3) := by decide +kernel
theorem d_CL_same_29 : decode b_CL_same 29 = .ok (.invokevirtual 140, 3) := by decide +kernel
theorem d_CL_same_32 : decode b_CL_same 32 = .ok (.aload_n 0, 1) := by decide +kernel
theorem d_CL_same_33 : decode b_CL_same 33 = .ok (.getfield 65, 3) := by decide +kernel
theorem d_CL_same_36 : decode b_CL_same 36 = .ok (.aload_n 0, 1) := by decide +kernel
theorem d_CL_same_37 : decode b_CL_same 37 = .ok (.getfield 19, 3) := by decide +kernel
theorem d_CL_same_40 : decode b_CL_same 40 = .ok (.iload_n 1, 1) := by decide +kernel
theorem d_CL_same_41 : decode b_CL_same 41 = .ok (.iload_n 1, 1) := by decide +kernel
theorem d_CL_same_42 : decode b_CL_same 42 = .ok (.invokevirtual 169, 3) := by decide +kernel
theorem d_CL_same_45 : decode b_CL_same 45 = .ok (.invokevirtual 141, 3) := by decide +kernel
theorem d_CL_same_48 : decode b_CL_same 48 = .ok (.aload_n 0, 1) := by decide +kernel
theorem d_CL_same_49 : decode b_CL_same 49 = .ok (.aload_n 0, 1) := by decide +kernel
theorem d_CL_same_50 : decode b_CL_same 50 = .ok (.getfield 72, 3) := by decide +kernel
theorem d_CL_same_53 : decode b_CL_same 53 = .ok (.invokevirtual 145, 3) := by decide +kernel
theorem d_CL_same_56 : decode b_CL_same 56 = .ok (.iconst 0, 1) := by decide +kernel
theorem d_CL_same_57 : decode b_CL_same 57 = .ok (.invokevirtual 148, 3) := by decide +kernel
theorem d_CL_same_60 : decode b_CL_same 60 = .ok (.ireturn, 1) := by decide +kernel
def f_CL_same_24 (s0 : Int32) (σ : St) : XR := (.inl s0, σ)
def k_CL_same_24 (s0 : Int32) (σ : St) : Prop := True
def f_CL_same_60 (s0 : Int32) (σ : St) : XR := (.inl s0, σ)
def k_CL_same_60 (s0 : Int32) (σ : St) : Prop := True
def f_CL_same_48 (σ : St) : XR := xb (f_CL_enterRow (f_Sc_innermost σ) 0 σ) (fun x u => f_CL_same_60 x u)
def k_CL_same_48 (σ : St) : Prop := (k_Sc_innermost σ) ∧ ((k_CL_enterRow (f_Sc_innermost σ) 0 σ) ∧ (∀ x, (f_CL_enterRow (f_Sc_innermost σ) 0 σ).1 = .inl x → (k_CL_same_60 x ((f_CL_enterRow (f_Sc_innermost σ) 0 σ).2))))
def f_CL_same_45 (s0 : Int32) (σ : St) : XR := f_CL_same_48 (f_Ro_join s0 σ)
def k_CL_same_45 (s0 : Int32) (σ : St) : Prop := (k_Ro_join s0 σ) ∧ (k_CL_same_48 (f_Ro_join s0 σ))
def f_CL_same_32 (x1 : Int32) (σ : St) : XR := f_CL_same_45 ((f_Te_equation x1 x1 σ).1) ((f_Te_equation x1 x1 σ).2)
def k_CL_same_32 (x1 : Int32) (σ : St) : Prop := (k_Te_equation x1 x1 σ) ∧ (k_CL_same_45 ((f_Te_equation x1 x1 σ).1) ((f_Te_equation x1 x1 σ).2))
def f_CL_same (a1 : Int32) (σ : St) : XR := if (f_CL_isShut σ) = 0 then (if (f_Te_has a1 σ) = 0 then (xb (f_CL_throwMissing σ) (fun x u => f_CL_same_24 x u)) else (f_CL_same_32 a1 (f_Ro_wipe σ))) else (.inl (-1), σ)
def k_CL_same (a1 : Int32) (σ : St) : Prop := (k_CL_isShut σ) ∧ (((f_CL_isShut σ) = 0 → ((k_Te_has a1 σ) ∧ (((f_Te_has a1 σ) = 0 → ((k_CL_throwMissing σ) ∧ (∀ x, (f_CL_throwMissing σ).1 = .inl x → (k_CL_same_24 x ((f_CL_throwMissing σ).2))))) ∧ (¬ (f_Te_has a1 σ) = 0 → ((k_Ro_wipe σ) ∧ (k_CL_same_32 a1 (f_Ro_wipe σ))))))) ∧ (¬ (f_CL_isShut σ) = 0 → True))
abbrev w_CL_same : List Cond := Cond.code y_CL_same b_CL_same 2 (some .int) :: gw
abbrev rm_CL_same : Room := { frames := 8, cells := 1, slots := 6, locals := 142 }
set_option maxHeartbeats 4000000 in
set_option maxRecDepth 100000 in
theorem c_CL_same (l : Launch) (hlt : l.stackTraces = false) (D : va_G) (ty : Nat → ClassId) (h : Nat → Nat) (px : va_W) (sa : Nat → Nat) (σ : St) (sz : Nat) (a1 : Int32) (hk : k_CL_same a1 σ) : xMet l y_CL_same w_CL_same rm_CL_same (va_Pc [.ref (h 0), .int a1] (fun U => U.heap.size = sz ∧ va_P D classes (Wc ty h σ px) U.heap ∧ va_K D classes (Ta ty) U ∧ NW U ∧ XK sa (va_A (Wc ty h σ px) sz) U U.heap ∧ MK sa (va_A (Wc ty h σ px) sz) U U.heap ∧ va_D (fun _ => True) (Wc ty h σ px))) (Rx D classes (fun u => Wc ty h u px) (va_A (Wc ty h σ px) sz) (f_CL_same a1 σ)) 1 6 (va_A (Wc ty h σ px) sz) := by
  refine xMet.ofW (cc := b_CL_same) (maxL := 2) (ret := (some .int)) (by decide) rfl ?_
  intro p e s m args below meth c s₁ B hml htab hv
  obtain ⟨ha, hsz, hP, hK, hN, hX, hM, hD0⟩ := hv
  have hx := B.exec
  have hb := B.bytes
  have hr := B.returns
  have hg : ∀ w ∈ gw, w.before args s = true := fun w h9 => atoms_spec (ws := w_CL_same) B.pre w (List.mem_cons_of_mem _ h9)
  have hown : s.vm.findClass "ClauseLedger" = some m.cls := findClass_of_methodNamed B.named
  have hlocks := B.notSynchronized
  subst hsz
  have hD := hD0.self (sz := s.heap.size)
  generalize hAe : va_A (Wc ty h σ px) s.heap.size = A at hD hM hX ⊢
  have hA : ∀ q : Nat, s.heap.size ≤ q → A q := fun q h9 => by rw [← hAe]; exact Or.inr h9
  have hS : va_S A s.heap s.heap [] := va_S.rf
  have he : entryFrame m args 2 = entryFrame m ([.ref (h 0), .int a1] : List Value).toArray 2 := by rw [ha]
  rw [he, lg_entry_eq]
  have hl := lv_entry ([.ref (h 0), .int a1]) (n := 2) (Nat.le_of_ble_eq_true rfl)
  generalize (lg_sl ([.ref (h 0), .int a1]) ++ List.replicate (2 - (lg_sl ([.ref (h 0), .int a1])).length) Slot.unset).toArray = ls at hl ⊢
  have hl : lv_has ls 2 [(0, .ref (h 0)), (1, .int a1)] := hl
  generalize hv : f_CL_same a1 σ = v
  replace hv := hv.symm
  have B24 : ∀ (H : Heap) (locs : List Loc) (ls : Array Slot) (s0 : Int32) (σ : St), v = f_CL_same_24 s0 σ → k_CL_same_24 s0 σ → lv_has ls 2 [] → va_P D classes (Wc ty h σ px) H → va_D A (Wc ty h σ px) → va_S A s.heap H locs → W p l e (headSpec w_CL_same rm_CL_same).room s m args below meth c H locs 1 6 (xMQ below (Rx D classes (fun u => Wc ty h u px) A v) args s 1 6 A) (F0 m 24 ls [.int s0]) := by
    intro H locs ls s0 σ hv hk hl hP hD hS
    unfold f_CL_same_24 at hv
    unfold k_CL_same_24 at hk
    exact x_ret (fun o t hq => by obtain ⟨rfl, ht⟩ := hq; exact ⟨hS.F ht, by rw [ht, hv]; exact hP, _, rfl, by rw [hv]⟩) (Nat.le_of_ble_eq_true rfl) (Nat.le_of_ble_eq_true rfl) (W.iret (Qc := fun _ _ o t => o = .returned (some (.int s0)) ∧ t.heap = H) hx hb hr (fun t ht hW => ⟨rfl, ht⟩) hS.2.2 d_CL_same_24)
  have B60 : ∀ (H : Heap) (locs : List Loc) (ls : Array Slot) (s0 : Int32) (σ : St), v = f_CL_same_60 s0 σ → k_CL_same_60 s0 σ → lv_has ls 2 [] → va_P D classes (Wc ty h σ px) H → va_D A (Wc ty h σ px) → va_S A s.heap H locs → W p l e (headSpec w_CL_same rm_CL_same).room s m args below meth c H locs 1 6 (xMQ below (Rx D classes (fun u => Wc ty h u px) A v) args s 1 6 A) (F0 m 60 ls [.int s0]) := by
    intro H locs ls s0 σ hv hk hl hP hD hS
    unfold f_CL_same_60 at hv
    unfold k_CL_same_60 at hk
    exact x_ret (fun o t hq => by obtain ⟨rfl, ht⟩ := hq; exact ⟨hS.F ht, by rw [ht, hv]; exact hP, _, rfl, by rw [hv]⟩) (Nat.le_of_ble_eq_true rfl) (Nat.le_of_ble_eq_true rfl) (W.iret (Qc := fun _ _ o t => o = .returned (some (.int s0)) ∧ t.heap = H) hx hb hr (fun t ht hW => ⟨rfl, ht⟩) hS.2.2 d_CL_same_60)
  have B48 : ∀ (H : Heap) (locs : List Loc) (ls : Array Slot) (σ : St), v = f_CL_same_48 σ → k_CL_same_48 σ → lv_has ls 2 [(0, .ref (h 0))] → va_P D classes (Wc ty h σ px) H → va_D A (Wc ty h σ px) → va_S A s.heap H locs → W p l e (headSpec w_CL_same rm_CL_same).room s m args below meth c H locs 0 0 (xMQ below (Rx D classes (fun u => Wc ty h u px) A v) args s 1 6 A) (F0 m 48 ls []) := by
    intro H locs ls σ hv hk hl hP hD hS
    unfold f_CL_same_48 at hv
    unfold k_CL_same_48 at hk
    refine lv_aload_n hx hb d_CL_same_48 rfl (lv_at hl 0 rfl) ?_
    refine lv_aload_n hx hb d_CL_same_49 rfl (lv_at hl 0 rfl) ?_
    refine va_get (v := .ref (h 27)) (C := R_CL) (T := T_CL) (N := 11) hx hb hg in_CL hown hK hP 0 rfl rfl 8 (by decide) (hg _ m_292) (fun _ h9 => h9) rfl d_CL_same_50 ?_
    obtain ⟨hk0, hk⟩ := hk
    refine zz_callV (va_runV (As := []) (rest := [.ref (h 0)]) ⟨hx, hb, hml, hown, hg⟩ (c_Sc_innermost l D ty h px sa σ  hk0) ⟨callB_of 0 hg (gw_C m_943) rfl rfl rfl (hg _ m_11) (hg _ m_940) hd_Sc_innermost ⟨Nat.le_of_ble_eq_true rfl, Nat.le_of_ble_eq_true rfl⟩, hg _ m_941, hg _ m_942⟩ (zz_preV (hM.at hS) hN hK hP 27 rfl rfl) rfl rfl hl.1 rfl (lv_room (Nat.le_of_ble_eq_true rfl)) d_CL_same_53 ⟨Nat.le_of_ble_eq_true rfl, Nat.le_of_ble_eq_true rfl⟩) ?_
    refine lv_iconst (v := 0) hx hb d_CL_same_56 (by decide) ?_
    obtain ⟨hk0, hk⟩ := hk
    refine x_callV (As := [.int (f_Sc_innermost σ), .int 0]) (rest := []) ⟨hx, hb, hml, hown, hg⟩ (c_CL_enterRow l hlt D ty h px sa σ H.size (f_Sc_innermost σ) 0 hk0) ⟨callB_of 2 hg (gw_C m_947) rfl rfl rfl (hg _ m_1) (hg _ m_944) hd_CL_enterRow ⟨Nat.le_of_ble_eq_true rfl, Nat.le_of_ble_eq_true rfl⟩, hg _ m_946, hg _ ms_30⟩ (zz_preX hM hN hX hS hA hK hP hD 0 rfl rfl) rfl hl.1 rfl (Nat.le_of_ble_eq_true rfl) d_CL_same_57 ⟨Nat.le_of_ble_eq_true rfl, Nat.le_of_ble_eq_true rfl⟩ (fun r9 st9 t9 L9 h09 hal9 hR9 hL9 => ?_) (fun q9 st9 t9 L9 h09 h19 hal9 hR9 hL9 => ?_)
    · obtain ⟨hF9, hP9, x, rfl, hz9⟩ := hR9
      have hv := hv.trans (xb_l hz9)
      have hk := hk _ hz9
      have hS := zz_xS hS h09 hF9 (zz_free hD hS hA) hL9
      have hD : va_D A (Wc ty h (f_CL_enterRow (f_Sc_innermost σ) 0 σ).2 px) := zz_D hD rfl
      exact B60 _ _ _ x (f_CL_enterRow (f_Sc_innermost σ) 0 σ).2 hv hk (lv_sub hl [] rfl) hP9 hD hS
    · obtain ⟨hF9, hP9, E9, ce9, hz9, hq9, hn9, hc9⟩ := hR9
      have hv := hv.trans (xb_r hz9)
      have hS := zz_xS hS h09 hF9 (zz_free hD hS hA) hL9
      exact x_out htab hlocks (fun t ht hal => ⟨hS.F ht, by rw [ht, hv]; exact hP9, E9, ce9, by rw [hv], by rw [ht]; exact hq9, hn9, by rw [h19.findClass]; exact hc9⟩) hS.2.2 (Nat.le_of_ble_eq_true rfl) (Nat.le_of_ble_eq_true rfl)
  have B45 : ∀ (H : Heap) (locs : List Loc) (ls : Array Slot) (s0 : Int32) (σ : St), v = f_CL_same_45 s0 σ → k_CL_same_45 s0 σ → lv_has ls 2 [(0, .ref (h 0))] → va_P D classes (Wc ty h σ px) H → va_D A (Wc ty h σ px) → va_S A s.heap H locs → W p l e (headSpec w_CL_same rm_CL_same).room s m args below meth c H locs 0 0 (xMQ below (Rx D classes (fun u => Wc ty h u px) A v) args s 1 6 A) (F0 m 45 ls [.int s0, .ref (h 25)]) := by
    intro H locs ls s0 σ hv hk hl hP hD hS
    unfold f_CL_same_45 at hv
    unfold k_CL_same_45 at hk
    obtain ⟨hk0, hk⟩ := hk
    refine va_callv (va_runV (As := [.int s0]) (rest := []) ⟨hx, hb, hml, hown, hg⟩ (c_Ro_join l D ty h px sa σ H.size s0 hk0) ⟨callB_of 1 hg (gw_C m_939) rfl rfl rfl (hg _ m_10) (hg _ m_936) hd_Ro_join ⟨Nat.le_of_ble_eq_true rfl, Nat.le_of_ble_eq_true rfl⟩, hg _ m_937, hg _ m_938⟩ (zz_preVW hM hS hA hN hK hP hD 25 rfl rfl) rfl rfl hl.1 rfl (lv_room (Nat.le_of_ble_eq_true rfl)) d_CL_same_45 ⟨Nat.le_of_ble_eq_true rfl, Nat.le_of_ble_eq_true rfl⟩) hS (fun q _ h => zz_free hD hS hA q h) (zz_free hD hS hA) (fun u45 t H locs ht hvm hp hP1 hz hk1 hS => ?_)
    rw [ht] at hP1
    rw [← hp] at hv hk
    have hD : va_D A (Wc ty h u45 px) := zz_D hD rfl
    have hP := hP1
    exact B48 _ _ _  u45 hv hk (lv_sub hl [0] rfl) hP hD hS
  have B32 : ∀ (H : Heap) (locs : List Loc) (ls : Array Slot) (x1 : Int32) (σ : St), v = f_CL_same_32 x1 σ → k_CL_same_32 x1 σ → lv_has ls 2 [(0, .ref (h 0)), (1, .int x1)] → va_P D classes (Wc ty h σ px) H → va_D A (Wc ty h σ px) → va_S A s.heap H locs → W p l e (headSpec w_CL_same rm_CL_same).room s m args below meth c H locs 0 0 (xMQ below (Rx D classes (fun u => Wc ty h u px) A v) args s 1 6 A) (F0 m 32 ls []) := by
    intro H locs ls x1 σ hv hk hl hP hD hS
    unfold f_CL_same_32 at hv
    unfold k_CL_same_32 at hk
    refine lv_aload_n hx hb d_CL_same_32 rfl (lv_at hl 0 rfl) ?_
    refine va_get (v := .ref (h 25)) (C := R_CL) (T := T_CL) (N := 11) hx hb hg in_CL hown hK hP 0 rfl rfl 7 (by decide) (hg _ m_291) (fun _ h9 => h9) rfl d_CL_same_33 ?_
    refine lv_aload_n hx hb d_CL_same_36 rfl (lv_at hl 0 rfl) ?_
    refine va_get (v := .ref (h 6)) (C := R_CL) (T := T_CL) (N := 11) hx hb hg in_CL hown hK hP 0 rfl rfl 1 (by decide) (hg _ m_285) (fun _ h9 => h9) rfl d_CL_same_37 ?_
    refine lv_iload_n hx hb d_CL_same_40 rfl (lv_at hl 1 rfl) ?_
    refine lv_iload_n hx hb d_CL_same_41 rfl (lv_at hl 1 rfl) ?_
    obtain ⟨hk0, hk⟩ := hk
    refine va_calli (va_runV (As := [.int x1, .int x1]) (rest := [.ref (h 25)]) ⟨hx, hb, hml, hown, hg⟩ (c_Te_equation l D ty h px sa σ H.size x1 x1 hk0) ⟨callB_of 2 hg (gw_C m_1038) rfl rfl rfl (hg _ m_3) (hg _ m_1035) hd_Te_equation ⟨Nat.le_of_ble_eq_true rfl, Nat.le_of_ble_eq_true rfl⟩, hg _ m_1036, hg _ m_1037⟩ (zz_preVW hM hS hA hN hK hP hD 6 rfl rfl) rfl rfl hl.1 rfl (lv_room (Nat.le_of_ble_eq_true rfl)) d_CL_same_42 ⟨Nat.le_of_ble_eq_true rfl, Nat.le_of_ble_eq_true rfl⟩) hS (fun q _ h => zz_free hD hS hA q h) (zz_free hD hS hA) (fun r42 u42 t H locs ht hvm hp hP1 hz hk1 hS => ?_)
    rw [ht] at hP1
    rw [← hp] at hv hk
    have hD : va_D A (Wc ty h u42 px) := zz_D hD rfl
    have hP := hP1
    exact B45 _ _ _ r42 u42 hv hk (lv_sub hl [0] rfl) hP hD hS
  unfold f_CL_same at hv
  unfold k_CL_same at hk
  refine lv_aload_n hx hb d_CL_same_0 rfl (lv_at hl 0 rfl) ?_
  obtain ⟨hk0, hk⟩ := hk
  refine zz_callV (va_runV (As := []) (rest := []) ⟨hx, hb, hml, hown, hg⟩ (c_CL_isShut l D ty h px sa σ  hk0) ⟨callB_of 0 hg (gw_C m_571) rfl rfl rfl (hg _ m_1) (hg _ m_568) hd_CL_isShut ⟨Nat.le_of_ble_eq_true rfl, Nat.le_of_ble_eq_true rfl⟩, hg _ m_570, hg _ ms_8⟩ (zz_preV (hM.at hS) hN hK hP 0 rfl rfl) rfl rfl hl.1 rfl (lv_room (Nat.le_of_ble_eq_true rfl)) d_CL_same_1 ⟨Nat.le_of_ble_eq_true rfl, Nat.le_of_ble_eq_true rfl⟩) ?_
  refine lv_if_eq (tgt := 9) hx hb d_CL_same_4 (by decide) (fun hc => ?_) (fun hc => ?_)
  · have hv := hv.trans (if_pos hc)
    have hk := hk.1 hc
    refine lv_aload_n hx hb d_CL_same_9 rfl (lv_at hl 0 rfl) ?_
    refine va_get (v := .ref (h 6)) (C := R_CL) (T := T_CL) (N := 11) hx hb hg in_CL hown hK hP 0 rfl rfl 1 (by decide) (hg _ m_285) (fun _ h9 => h9) rfl d_CL_same_10 ?_
    refine lv_iload_n hx hb d_CL_same_13 rfl (lv_at hl 1 rfl) ?_
    obtain ⟨hk0, hk⟩ := hk
    refine zz_callV (va_runV (As := [.int a1]) (rest := []) ⟨hx, hb, hml, hown, hg⟩ (c_Te_has l D ty h px sa σ a1 hk0) ⟨callB_of 1 hg (gw_C m_430) rfl rfl rfl (hg _ m_3) (hg _ m_427) hd_Te_has ⟨Nat.le_of_ble_eq_true rfl, Nat.le_of_ble_eq_true rfl⟩, hg _ m_428, hg _ m_429⟩ (zz_preV (hM.at hS) hN hK hP 6 rfl rfl) rfl rfl hl.1 rfl (lv_room (Nat.le_of_ble_eq_true rfl)) d_CL_same_14 ⟨Nat.le_of_ble_eq_true rfl, Nat.le_of_ble_eq_true rfl⟩) ?_
    refine lv_if_ne (tgt := 25) hx hb d_CL_same_17 (by decide) (fun hc => ?_) (fun hc => ?_)
    · have hv := hv.trans (if_neg hc)
      have hk := hk.2 hc
      refine lv_aload_n hx hb d_CL_same_25 rfl (lv_at hl 0 rfl) ?_
      refine va_get (v := .ref (h 25)) (C := R_CL) (T := T_CL) (N := 11) hx hb hg in_CL hown hK hP 0 rfl rfl 7 (by decide) (hg _ m_291) (fun _ h9 => h9) rfl d_CL_same_26 ?_
      obtain ⟨hk0, hk⟩ := hk
      refine va_callv (va_runV (As := []) (rest := []) ⟨hx, hb, hml, hown, hg⟩ (c_Ro_wipe l D ty h px sa σ s.heap.size  hk0) ⟨callB_of 0 hg (gw_C m_935) rfl rfl rfl (hg _ m_10) (hg _ m_932) hd_Ro_wipe ⟨Nat.le_of_ble_eq_true rfl, Nat.le_of_ble_eq_true rfl⟩, hg _ m_933, hg _ m_934⟩ (zz_preVW hM hS hA hN hK hP hD 25 rfl rfl) rfl rfl hl.1 rfl (lv_room (Nat.le_of_ble_eq_true rfl)) d_CL_same_29 ⟨Nat.le_of_ble_eq_true rfl, Nat.le_of_ble_eq_true rfl⟩) hS (fun q _ h => zz_free hD hS hA q h) (zz_free hD hS hA) (fun u29 t H locs ht hvm hp hP1 hz hk1 hS => ?_)
      rw [ht] at hP1
      rw [← hp] at hv hk
      have hD : va_D A (Wc ty h u29 px) := zz_D hD rfl
      have hP := hP1
      exact B32 _ _ _ a1 u29 hv hk (lv_sub hl [0, 1] rfl) hP hD hS
    · have hv := hv.trans (if_pos hc)
      have hk := hk.1 hc
      refine lv_aload_n hx hb d_CL_same_20 rfl (lv_at hl 0 rfl) ?_
      obtain ⟨hk0, hk⟩ := hk
      refine x_callV (As := []) (rest := []) ⟨hx, hb, hml, hown, hg⟩ (c_CL_throwMissing l hlt D ty h px sa σ s.heap.size  hk0) ⟨callB_of 0 hg (gw_C m_914) rfl rfl rfl (hg _ m_1) (hg _ m_911) hd_CL_throwMissing ⟨Nat.le_of_ble_eq_true rfl, Nat.le_of_ble_eq_true rfl⟩, hg _ m_913, hg _ ms_29⟩ (zz_preX hM hN hX hS hA hK hP hD 0 rfl rfl) rfl hl.1 rfl (Nat.le_of_ble_eq_true rfl) d_CL_same_21 ⟨Nat.le_of_ble_eq_true rfl, Nat.le_of_ble_eq_true rfl⟩ (fun r9 st9 t9 L9 h09 hal9 hR9 hL9 => ?_) (fun q9 st9 t9 L9 h09 h19 hal9 hR9 hL9 => ?_)
      · obtain ⟨hF9, hP9, x, rfl, hz9⟩ := hR9
        have hv := hv.trans (xb_l hz9)
        have hk := hk _ hz9
        have hS := zz_xS hS h09 hF9 (zz_free hD hS hA) hL9
        have hD : va_D A (Wc ty h (f_CL_throwMissing σ).2 px) := zz_D hD rfl
        exact B24 _ _ _ x (f_CL_throwMissing σ).2 hv hk (lv_sub hl [] rfl) hP9 hD hS
      · obtain ⟨hF9, hP9, E9, ce9, hz9, hq9, hn9, hc9⟩ := hR9
        have hv := hv.trans (xb_r hz9)
        have hS := zz_xS hS h09 hF9 (zz_free hD hS hA) hL9
        exact x_out htab hlocks (fun t ht hal => ⟨hS.F ht, by rw [ht, hv]; exact hP9, E9, ce9, by rw [hv], by rw [ht]; exact hq9, hn9, by rw [h19.findClass]; exact hc9⟩) hS.2.2 (Nat.le_of_ble_eq_true rfl) (Nat.le_of_ble_eq_true rfl)
  · have hv := hv.trans (if_neg hc)
    have hk := hk.2 hc
    refine lv_iconst (v := -1) hx hb d_CL_same_7 (by decide) ?_
    exact x_ret (fun o t hq => by obtain ⟨rfl, ht⟩ := hq; exact ⟨hS.F ht, by rw [ht, hv]; exact hP, _, rfl, by rw [hv]⟩) (Nat.le_of_ble_eq_true rfl) (Nat.le_of_ble_eq_true rfl) (W.iret (Qc := fun _ _ o t => o = .returned (some (.int (-1))) ∧ t.heap = s.heap) hx hb hr (fun t ht hW => ⟨rfl, ht⟩) hS.2.2 d_CL_same_8)

-- ClauseLedger.chain(II)I
abbrev b_CL_chain : ByteArray := prog_1_method_12_code
def y_CL_chain : MethodName := ⟨"ClauseLedger", "chain", "(II)I"⟩
theorem hd_CL_chain : y_CL_chain.cls ≠ "java/lang/invoke/MethodHandle" ∧ y_CL_chain.cls ≠ "java/lang/invoke/VarHandle" ∧ (parseMethodDescriptor y_CL_chain.desc).map (fun d => d.parameters.length) = some 2 := by decide +kernel
theorem d_CL_chain_0 : decode b_CL_chain 0 = .ok (.aload_n 0, 1) := by decide +kernel
theorem d_CL_chain_1 : decode b_CL_chain 1 = .ok (.invokevirtual 102, 3) := by decide +kernel
theorem d_CL_chain_4 : decode b_CL_chain 4 = .ok (.ifCond .eq 5, 3) := by decide +kernel
theorem d_CL_chain_7 : decode b_CL_chain 7 = .ok (.iconst (-1), 1) := by decide +kernel
theorem d_CL_chain_8 : decode b_CL_chain 8 = .ok (.ireturn, 1) := by decide +kernel
theorem d_CL_chain_9 : decode b_CL_chain 9 = .ok (.aload_n 0, 1) := by decide +kernel
theorem d_CL_chain_10 : decode b_CL_chain 10 = .ok (.getfield 19, 3) := by decide +kernel
theorem d_CL_chain_13 : decode b_CL_chain 13 = .ok (.iload_n 1, 1) := by decide +kernel
theorem d_CL_chain_14 : decode b_CL_chain 14 = .ok (.invokevirtual 130, 3) := by decide +kernel
theorem d_CL_chain_17 : decode b_CL_chain 17 = .ok (.ifCond .eq 14, 3) := by decide +kernel
theorem d_CL_chain_20 : decode b_CL_chain 20 = .ok (.aload_n 0, 1) := by decide +kernel
theorem d_CL_chain_21 : decode b_CL_chain 21 = .ok (.getfield 19, 3) := by decide +kernel
theorem d_CL_chain_24 : decode b_CL_chain 24 = .ok (.iload_n 2, 1) := by decide +kernel
theorem d_CL_chain_25 : decode b_CL_chain 25 = .ok (.invokevirtual 130, 3) := by decide +kernel
theorem d_CL_chain_28 : decode b_CL_chain 28 = .ok (.ifCond .ne 8, 3) := by decide +kernel
theorem d_CL_chain_31 : decode b_CL_chain 31 = .ok (.aload_n 0, 1) := by decide +kernel
theorem d_CL_chain_32 : decode b_CL_chain 32 = .ok (.invokevirtual 134, 3) := by decide +kernel
theorem d_CL_chain_35 : decode b_CL_chain 35 = .ok (.ireturn, 1) := by decide +kernel
theorem d_CL_chain_36 : decode b_CL_chain 36 = .ok (.aload_n 0, 1) := by decide +kernel
theorem d_CL_chain_37 : decode b_CL_chain 37 = .ok (.getfield 19, 3) := by decide +kernel
theorem d_CL_chain_40 : decode b_CL_chain 40 = .ok (.iload_n 1, 1) := by decide +kernel
theorem d_CL_chain_41 : decode b_CL_chain 41 = .ok (.invokevirtual 173, 3) := by decide +kernel
theorem d_CL_chain_44 : decode b_CL_chain 44 = .ok (.iconst 5, 1) := by decide +kernel
theorem d_CL_chain_45 : decode b_CL_chain 45 = .ok (.if_icmp .ne 34, 3) := by decide +kernel
theorem d_CL_chain_48 : decode b_CL_chain 48 = .ok (.aload_n 0, 1) := by decide +kernel
theorem d_CL_chain_49 : decode b_CL_chain 49 = .ok (.getfield 19, 3) := by decide +kernel
theorem d_CL_chain_52 : decode b_CL_chain 52 = .ok (.iload_n 2, 1) := by decide +kernel
theorem d_CL_chain_53 : decode b_CL_chain 53 = .ok (.invokevirtual 173, 3) := by decide +kernel
theorem d_CL_chain_56 : decode b_CL_chain 56 = .ok (.iconst 5, 1) := by decide +kernel
theorem d_CL_chain_57 : decode b_CL_chain 57 = .ok (.if_icmp .ne 22, 3) := by decide +kernel
theorem d_CL_chain_60 : decode b_CL_chain 60 = .ok (.aload_n 0, 1) := by decide +kernel
theorem d_CL_chain_61 : decode b_CL_chain 61 = .ok (.getfield 19, 3) := by decide +kernel
theorem d_CL_chain_64 : decode b_CL_chain 64 = .ok (.iload_n 1, 1) := by decide +kernel
theorem d_CL_chain_65 : decode b_CL_chain 65 = .ok (.invokevirtual 176, 3) := by decide +kernel
theorem d_CL_chain_68 : decode b_CL_chain 68 = .ok (.aload_n 0, 1) := by decide +kernel
theorem d_CL_chain_69 : decode b_CL_chain 69 = .ok (.getfield 19, 3) := by decide +kernel
theorem d_CL_chain_72 : decode b_CL_chain 72 = .ok (.iload_n 2, 1) := by decide +kernel
theorem d_CL_chain_73 : decode b_CL_chain 73 = .ok (.invokevirtual 179, 3) := by decide +kernel
theorem d_CL_chain_76 : decode b_CL_chain 76 = .ok (.if_icmp .eq 8, 3) := by decide +kernel
theorem d_CL_chain_79 : decode b_CL_chain 79 = .ok (.aload_n 0, 1) := by decide +kernel
theorem d_CL_chain_80 : decode b_CL_chain 80 = .ok (.invokevirtual 112, 3) := by decide +kernel
theorem d_CL_chain_83 : decode b_CL_chain 83 = .ok (.ireturn, 1) := by decide +kernel
theorem d_CL_chain_84 : decode b_CL_chain 84 = .ok (.aload_n 0, 1) := by decide +kernel
theorem d_CL_chain_85 : decode b_CL_chain 85 = .ok (.getfield 65, 3) := by decide +kernel
theorem d_CL_chain_88 : decode b_CL_chain 88 = .ok (.invokevirtual 140, 3) := by decide +kernel
theorem d_CL_chain_91 : decode b_CL_chain 91 = .ok (.aload_n 0, 1) := by decide +kernel
theorem d_CL_chain_92 : decode b_CL_chain 92 = .ok (.getfield 65, 3) := by decide +kernel
theorem d_CL_chain_95 : decode b_CL_chain 95 = .ok (.aload_n 0, 1) := by decide +kernel
theorem d_CL_chain_96 : decode b_CL_chain 96 = .ok (.getfield 19, 3) := by decide +kernel
theorem d_CL_chain_99 : decode b_CL_chain 99 = .ok (.iload_n 1, 1) := by decide +kernel
theorem d_CL_chain_100 : decode b_CL_chain 100 = .ok (.invokevirtual 182, 3) := by decide +kernel
theorem d_CL_chain_103 : decode b_CL_chain 103 = .ok (.invokevirtual 141, 3) := by decide +kernel
theorem d_CL_chain_106 : decode b_CL_chain 106 = .ok (.aload_n 0, 1) := by decide +kernel
theorem d_CL_chain_107 : decode b_CL_chain 107 = .ok (.getfield 65, 3) := by decide +kernel
theorem d_CL_chain_110 : decode b_CL_chain 110 = .ok (.aload_n 0, 1) := by decide +kernel
theorem d_CL_chain_111 : decode b_CL_chain 111 = .ok (.getfield 19, 3) := by decide +kernel
theorem d_CL_chain_114 : decode b_CL_chain 114 = .ok (.iload_n 2, 1) := by decide +kernel
theorem d_CL_chain_115 : decode b_CL_chain 115 = .ok (.invokevirtual 182, 3) := by decide +kernel
theorem d_CL_chain_118 : decode b_CL_chain 118 = .ok (.invokevirtual 141, 3) := by decide +kernel
theorem d_CL_chain_121 : decode b_CL_chain 121 = .ok (.aload_n 0, 1) := by decide +kernel
theorem d_CL_chain_122 : decode b_CL_chain 122 = .ok (.getfield 65, 3) := by decide +kernel
theorem d_CL_chain_125 : decode b_CL_chain 125 = .ok (.aload_n 0, 1) := by decide +kernel
theorem d_CL_chain_126 : decode b_CL_chain 126 = .ok (.getfield 19, 3) := by decide +kernel
theorem d_CL_chain_129 : decode b_CL_chain 129 = .ok (.aload_n 0, 1) := by decide +kernel
theorem d_CL_chain_130 : decode b_CL_chain 130 = .ok (.getfield 19, 3) := by decide +kernel
theorem d_CL_chain_133 : decode b_CL_chain 133 = .ok (.iload_n 1, 1) := by decide +kernel
theorem d_CL_chain_134 : decode b_CL_chain 134 = .ok (.invokevirtual 179, 3) := by decide +kernel
theorem d_CL_chain_137 : decode b_CL_chain 137 = .ok (.aload_n 0, 1) := by decide +kernel
theorem d_CL_chain_138 : decode b_CL_chain 138 = .ok (.getfield 19, 3) := by decide +kernel
theorem d_CL_chain_141 : decode b_CL_chain 141 = .ok (.iload_n 2, 1) := by decide +kernel
theorem d_CL_chain_142 : decode b_CL_chain 142 = .ok (.invokevirtual 176, 3) := by decide +kernel
theorem d_CL_chain_145 : decode b_CL_chain 145 = .ok (.invokevirtual 169, 3) := by decide +kernel
theorem d_CL_chain_148 : decode b_CL_chain 148 = .ok (.invokevirtual 141, 3) := by decide +kernel
theorem d_CL_chain_151 : decode b_CL_chain 151 = .ok (.aload_n 0, 1) := by decide +kernel
theorem d_CL_chain_152 : decode b_CL_chain 152 = .ok (.aload_n 0, 1) := by decide +kernel
theorem d_CL_chain_153 : decode b_CL_chain 153 = .ok (.getfield 72, 3) := by decide +kernel
theorem d_CL_chain_156 : decode b_CL_chain 156 = .ok (.invokevirtual 145, 3) := by decide +kernel
theorem d_CL_chain_159 : decode b_CL_chain 159 = .ok (.iconst 0, 1) := by decide +kernel
theorem d_CL_chain_160 : decode b_CL_chain 160 = .ok (.invokevirtual 148, 3) := by decide +kernel
theorem d_CL_chain_163 : decode b_CL_chain 163 = .ok (.ireturn, 1) := by decide +kernel
def f_CL_chain_35 (s0 : Int32) (σ : St) : XR := (.inl s0, σ)
def k_CL_chain_35 (s0 : Int32) (σ : St) : Prop := True
def f_CL_chain_31 (σ : St) : XR := xb (f_CL_throwMissing σ) (fun x u => f_CL_chain_35 x u)
def k_CL_chain_31 (σ : St) : Prop := (k_CL_throwMissing σ) ∧ (∀ x, (f_CL_throwMissing σ).1 = .inl x → (k_CL_chain_35 x ((f_CL_throwMissing σ).2)))
def f_CL_chain_83 (s0 : Int32) (σ : St) : XR := (.inl s0, σ)
def k_CL_chain_83 (s0 : Int32) (σ : St) : Prop := True
def f_CL_chain_79 (σ : St) : XR := xb (f_CL_throwWrong σ) (fun x u => f_CL_chain_83 x u)
def k_CL_chain_79 (σ : St) : Prop := (k_CL_throwWrong σ) ∧ (∀ x, (f_CL_throwWrong σ).1 = .inl x → (k_CL_chain_83 x ((f_CL_throwWrong σ).2)))
def f_CL_chain_163 (s0 : Int32) (σ : St) : XR := (.inl s0, σ)
def k_CL_chain_163 (s0 : Int32) (σ : St) : Prop := True
def f_CL_chain_151 (σ : St) : XR := xb (f_CL_enterRow (f_Sc_innermost σ) 0 σ) (fun x u => f_CL_chain_163 x u)
def k_CL_chain_151 (σ : St) : Prop := (k_Sc_innermost σ) ∧ ((k_CL_enterRow (f_Sc_innermost σ) 0 σ) ∧ (∀ x, (f_CL_enterRow (f_Sc_innermost σ) 0 σ).1 = .inl x → (k_CL_chain_163 x ((f_CL_enterRow (f_Sc_innermost σ) 0 σ).2))))
def f_CL_chain_148 (s0 : Int32) (σ : St) : XR := f_CL_chain_151 (f_Ro_join s0 σ)
def k_CL_chain_148 (s0 : Int32) (σ : St) : Prop := (k_Ro_join s0 σ) ∧ (k_CL_chain_151 (f_Ro_join s0 σ))
def f_CL_chain_121 (x1 : Int32) (x2 : Int32) (σ : St) : XR := f_CL_chain_148 ((f_Te_equation (f_Te_firstOf x1 σ) (f_Te_secondOf x2 σ) σ).1) ((f_Te_equation (f_Te_firstOf x1 σ) (f_Te_secondOf x2 σ) σ).2)
def k_CL_chain_121 (x1 : Int32) (x2 : Int32) (σ : St) : Prop := (k_Te_firstOf x1 σ) ∧ ((k_Te_secondOf x2 σ) ∧ ((k_Te_equation (f_Te_firstOf x1 σ) (f_Te_secondOf x2 σ) σ) ∧ (k_CL_chain_148 ((f_Te_equation (f_Te_firstOf x1 σ) (f_Te_secondOf x2 σ) σ).1) ((f_Te_equation (f_Te_firstOf x1 σ) (f_Te_secondOf x2 σ) σ).2))))
def f_CL_chain_118 (x1 : Int32) (x2 : Int32) (s0 : Int32) (σ : St) : XR := f_CL_chain_121 x1 x2 (f_Ro_join s0 σ)
def k_CL_chain_118 (x1 : Int32) (x2 : Int32) (s0 : Int32) (σ : St) : Prop := (k_Ro_join s0 σ) ∧ (k_CL_chain_121 x1 x2 (f_Ro_join s0 σ))
def f_CL_chain_106 (x1 : Int32) (x2 : Int32) (σ : St) : XR := f_CL_chain_118 x1 x2 ((f_Te_opposite x2 σ).1) ((f_Te_opposite x2 σ).2)
def k_CL_chain_106 (x1 : Int32) (x2 : Int32) (σ : St) : Prop := (k_Te_opposite x2 σ) ∧ (k_CL_chain_118 x1 x2 ((f_Te_opposite x2 σ).1) ((f_Te_opposite x2 σ).2))
def f_CL_chain_103 (x1 : Int32) (x2 : Int32) (s0 : Int32) (σ : St) : XR := f_CL_chain_106 x1 x2 (f_Ro_join s0 σ)
def k_CL_chain_103 (x1 : Int32) (x2 : Int32) (s0 : Int32) (σ : St) : Prop := (k_Ro_join s0 σ) ∧ (k_CL_chain_106 x1 x2 (f_Ro_join s0 σ))
def f_CL_chain_91 (x1 : Int32) (x2 : Int32) (σ : St) : XR := f_CL_chain_103 x1 x2 ((f_Te_opposite x1 σ).1) ((f_Te_opposite x1 σ).2)
def k_CL_chain_91 (x1 : Int32) (x2 : Int32) (σ : St) : Prop := (k_Te_opposite x1 σ) ∧ (k_CL_chain_103 x1 x2 ((f_Te_opposite x1 σ).1) ((f_Te_opposite x1 σ).2))
def f_CL_chain (a1 : Int32) (a2 : Int32) (σ : St) : XR := if (f_CL_isShut σ) = 0 then (if (f_Te_has a1 σ) = 0 then (f_CL_chain_31 σ) else (if (f_Te_has a2 σ) = 0 then (f_CL_chain_31 σ) else (if (f_Te_kindOf a1 σ) = 5 then (if (f_Te_kindOf a2 σ) = 5 then (if (f_Te_secondOf a1 σ) = (f_Te_firstOf a2 σ) then (f_CL_chain_91 a1 a2 (f_Ro_wipe σ)) else (f_CL_chain_79 σ)) else (f_CL_chain_79 σ)) else (f_CL_chain_79 σ)))) else (.inl (-1), σ)
def k_CL_chain (a1 : Int32) (a2 : Int32) (σ : St) : Prop := (k_CL_isShut σ) ∧ (((f_CL_isShut σ) = 0 → ((k_Te_has a1 σ) ∧ (((f_Te_has a1 σ) = 0 → (k_CL_chain_31 σ)) ∧ (¬ (f_Te_has a1 σ) = 0 → ((k_Te_has a2 σ) ∧ (((f_Te_has a2 σ) = 0 → (k_CL_chain_31 σ)) ∧ (¬ (f_Te_has a2 σ) = 0 → ((k_Te_kindOf a1 σ) ∧ (((f_Te_kindOf a1 σ) = 5 → ((k_Te_kindOf a2 σ) ∧ (((f_Te_kindOf a2 σ) = 5 → ((k_Te_secondOf a1 σ) ∧ ((k_Te_firstOf a2 σ) ∧ (((f_Te_secondOf a1 σ) = (f_Te_firstOf a2 σ) → ((k_Ro_wipe σ) ∧ (k_CL_chain_91 a1 a2 (f_Ro_wipe σ)))) ∧ (¬ (f_Te_secondOf a1 σ) = (f_Te_firstOf a2 σ) → (k_CL_chain_79 σ)))))) ∧ (¬ (f_Te_kindOf a2 σ) = 5 → (k_CL_chain_79 σ))))) ∧ (¬ (f_Te_kindOf a1 σ) = 5 → (k_CL_chain_79 σ))))))))))) ∧ (¬ (f_CL_isShut σ) = 0 → True))
abbrev w_CL_chain : List Cond := Cond.code y_CL_chain b_CL_chain 3 (some .int) :: gw
abbrev rm_CL_chain : Room := { frames := 8, cells := 1, slots := 6, locals := 142 }
set_option maxHeartbeats 4000000 in
set_option maxRecDepth 100000 in
theorem c_CL_chain (l : Launch) (hlt : l.stackTraces = false) (D : va_G) (ty : Nat → ClassId) (h : Nat → Nat) (px : va_W) (sa : Nat → Nat) (σ : St) (sz : Nat) (a1 : Int32) (a2 : Int32) (hk : k_CL_chain a1 a2 σ) : xMet l y_CL_chain w_CL_chain rm_CL_chain (va_Pc [.ref (h 0), .int a1, .int a2] (fun U => U.heap.size = sz ∧ va_P D classes (Wc ty h σ px) U.heap ∧ va_K D classes (Ta ty) U ∧ NW U ∧ XK sa (va_A (Wc ty h σ px) sz) U U.heap ∧ MK sa (va_A (Wc ty h σ px) sz) U U.heap ∧ va_D (fun _ => True) (Wc ty h σ px))) (Rx D classes (fun u => Wc ty h u px) (va_A (Wc ty h σ px) sz) (f_CL_chain a1 a2 σ)) 1 6 (va_A (Wc ty h σ px) sz) := by
  refine xMet.ofW (cc := b_CL_chain) (maxL := 3) (ret := (some .int)) (by decide) rfl ?_
  intro p e s m args below meth c s₁ B hml htab hv
  obtain ⟨ha, hsz, hP, hK, hN, hX, hM, hD0⟩ := hv
  have hx := B.exec
  have hb := B.bytes
  have hr := B.returns
  have hg : ∀ w ∈ gw, w.before args s = true := fun w h9 => atoms_spec (ws := w_CL_chain) B.pre w (List.mem_cons_of_mem _ h9)
  have hown : s.vm.findClass "ClauseLedger" = some m.cls := findClass_of_methodNamed B.named
  have hlocks := B.notSynchronized
  subst hsz
  have hD := hD0.self (sz := s.heap.size)
  generalize hAe : va_A (Wc ty h σ px) s.heap.size = A at hD hM hX ⊢
  have hA : ∀ q : Nat, s.heap.size ≤ q → A q := fun q h9 => by rw [← hAe]; exact Or.inr h9
  have hS : va_S A s.heap s.heap [] := va_S.rf
  have he : entryFrame m args 3 = entryFrame m ([.ref (h 0), .int a1, .int a2] : List Value).toArray 3 := by rw [ha]
  rw [he, lg_entry_eq]
  have hl := lv_entry ([.ref (h 0), .int a1, .int a2]) (n := 3) (Nat.le_of_ble_eq_true rfl)
  generalize (lg_sl ([.ref (h 0), .int a1, .int a2]) ++ List.replicate (3 - (lg_sl ([.ref (h 0), .int a1, .int a2])).length) Slot.unset).toArray = ls at hl ⊢
  have hl : lv_has ls 3 [(0, .ref (h 0)), (1, .int a1), (2, .int a2)] := hl
  generalize hv : f_CL_chain a1 a2 σ = v
  replace hv := hv.symm
  have B35 : ∀ (H : Heap) (locs : List Loc) (ls : Array Slot) (s0 : Int32) (σ : St), v = f_CL_chain_35 s0 σ → k_CL_chain_35 s0 σ → lv_has ls 3 [] → va_P D classes (Wc ty h σ px) H → va_D A (Wc ty h σ px) → va_S A s.heap H locs → W p l e (headSpec w_CL_chain rm_CL_chain).room s m args below meth c H locs 1 6 (xMQ below (Rx D classes (fun u => Wc ty h u px) A v) args s 1 6 A) (F0 m 35 ls [.int s0]) := by
    intro H locs ls s0 σ hv hk hl hP hD hS
    unfold f_CL_chain_35 at hv
    unfold k_CL_chain_35 at hk
    exact x_ret (fun o t hq => by obtain ⟨rfl, ht⟩ := hq; exact ⟨hS.F ht, by rw [ht, hv]; exact hP, _, rfl, by rw [hv]⟩) (Nat.le_of_ble_eq_true rfl) (Nat.le_of_ble_eq_true rfl) (W.iret (Qc := fun _ _ o t => o = .returned (some (.int s0)) ∧ t.heap = H) hx hb hr (fun t ht hW => ⟨rfl, ht⟩) hS.2.2 d_CL_chain_35)
  have B31 : ∀ (H : Heap) (locs : List Loc) (ls : Array Slot) (σ : St), v = f_CL_chain_31 σ → k_CL_chain_31 σ → lv_has ls 3 [(0, .ref (h 0))] → va_P D classes (Wc ty h σ px) H → va_D A (Wc ty h σ px) → va_S A s.heap H locs → W p l e (headSpec w_CL_chain rm_CL_chain).room s m args below meth c H locs 0 0 (xMQ below (Rx D classes (fun u => Wc ty h u px) A v) args s 1 6 A) (F0 m 31 ls []) := by
    intro H locs ls σ hv hk hl hP hD hS
    unfold f_CL_chain_31 at hv
    unfold k_CL_chain_31 at hk
    refine lv_aload_n hx hb d_CL_chain_31 rfl (lv_at hl 0 rfl) ?_
    obtain ⟨hk0, hk⟩ := hk
    refine x_callV (As := []) (rest := []) ⟨hx, hb, hml, hown, hg⟩ (c_CL_throwMissing l hlt D ty h px sa σ H.size  hk0) ⟨callB_of 0 hg (gw_C m_914) rfl rfl rfl (hg _ m_1) (hg _ m_911) hd_CL_throwMissing ⟨Nat.le_of_ble_eq_true rfl, Nat.le_of_ble_eq_true rfl⟩, hg _ m_913, hg _ ms_29⟩ (zz_preX hM hN hX hS hA hK hP hD 0 rfl rfl) rfl hl.1 rfl (Nat.le_of_ble_eq_true rfl) d_CL_chain_32 ⟨Nat.le_of_ble_eq_true rfl, Nat.le_of_ble_eq_true rfl⟩ (fun r9 st9 t9 L9 h09 hal9 hR9 hL9 => ?_) (fun q9 st9 t9 L9 h09 h19 hal9 hR9 hL9 => ?_)
    · obtain ⟨hF9, hP9, x, rfl, hz9⟩ := hR9
      have hv := hv.trans (xb_l hz9)
      have hk := hk _ hz9
      have hS := zz_xS hS h09 hF9 (zz_free hD hS hA) hL9
      have hD : va_D A (Wc ty h (f_CL_throwMissing σ).2 px) := zz_D hD rfl
      exact B35 _ _ _ x (f_CL_throwMissing σ).2 hv hk (lv_sub hl [] rfl) hP9 hD hS
    · obtain ⟨hF9, hP9, E9, ce9, hz9, hq9, hn9, hc9⟩ := hR9
      have hv := hv.trans (xb_r hz9)
      have hS := zz_xS hS h09 hF9 (zz_free hD hS hA) hL9
      exact x_out htab hlocks (fun t ht hal => ⟨hS.F ht, by rw [ht, hv]; exact hP9, E9, ce9, by rw [hv], by rw [ht]; exact hq9, hn9, by rw [h19.findClass]; exact hc9⟩) hS.2.2 (Nat.le_of_ble_eq_true rfl) (Nat.le_of_ble_eq_true rfl)
  have B83 : ∀ (H : Heap) (locs : List Loc) (ls : Array Slot) (s0 : Int32) (σ : St), v = f_CL_chain_83 s0 σ → k_CL_chain_83 s0 σ → lv_has ls 3 [] → va_P D classes (Wc ty h σ px) H → va_D A (Wc ty h σ px) → va_S A s.heap H locs → W p l e (headSpec w_CL_chain rm_CL_chain).room s m args below meth c H locs 1 6 (xMQ below (Rx D classes (fun u => Wc ty h u px) A v) args s 1 6 A) (F0 m 83 ls [.int s0]) := by
    intro H locs ls s0 σ hv hk hl hP hD hS
    unfold f_CL_chain_83 at hv
    unfold k_CL_chain_83 at hk
    exact x_ret (fun o t hq => by obtain ⟨rfl, ht⟩ := hq; exact ⟨hS.F ht, by rw [ht, hv]; exact hP, _, rfl, by rw [hv]⟩) (Nat.le_of_ble_eq_true rfl) (Nat.le_of_ble_eq_true rfl) (W.iret (Qc := fun _ _ o t => o = .returned (some (.int s0)) ∧ t.heap = H) hx hb hr (fun t ht hW => ⟨rfl, ht⟩) hS.2.2 d_CL_chain_83)
  have B79 : ∀ (H : Heap) (locs : List Loc) (ls : Array Slot) (σ : St), v = f_CL_chain_79 σ → k_CL_chain_79 σ → lv_has ls 3 [(0, .ref (h 0))] → va_P D classes (Wc ty h σ px) H → va_D A (Wc ty h σ px) → va_S A s.heap H locs → W p l e (headSpec w_CL_chain rm_CL_chain).room s m args below meth c H locs 0 0 (xMQ below (Rx D classes (fun u => Wc ty h u px) A v) args s 1 6 A) (F0 m 79 ls []) := by
    intro H locs ls σ hv hk hl hP hD hS
    unfold f_CL_chain_79 at hv
    unfold k_CL_chain_79 at hk
    refine lv_aload_n hx hb d_CL_chain_79 rfl (lv_at hl 0 rfl) ?_
    obtain ⟨hk0, hk⟩ := hk
    refine x_callV (As := []) (rest := []) ⟨hx, hb, hml, hown, hg⟩ (c_CL_throwWrong l hlt D ty h px sa σ H.size  hk0) ⟨callB_of 0 hg (gw_C m_774) rfl rfl rfl (hg _ m_1) (hg _ m_771) hd_CL_throwWrong ⟨Nat.le_of_ble_eq_true rfl, Nat.le_of_ble_eq_true rfl⟩, hg _ m_773, hg _ ms_24⟩ (zz_preX hM hN hX hS hA hK hP hD 0 rfl rfl) rfl hl.1 rfl (Nat.le_of_ble_eq_true rfl) d_CL_chain_80 ⟨Nat.le_of_ble_eq_true rfl, Nat.le_of_ble_eq_true rfl⟩ (fun r9 st9 t9 L9 h09 hal9 hR9 hL9 => ?_) (fun q9 st9 t9 L9 h09 h19 hal9 hR9 hL9 => ?_)
    · obtain ⟨hF9, hP9, x, rfl, hz9⟩ := hR9
      have hv := hv.trans (xb_l hz9)
      have hk := hk _ hz9
      have hS := zz_xS hS h09 hF9 (zz_free hD hS hA) hL9
      have hD : va_D A (Wc ty h (f_CL_throwWrong σ).2 px) := zz_D hD rfl
      exact B83 _ _ _ x (f_CL_throwWrong σ).2 hv hk (lv_sub hl [] rfl) hP9 hD hS
    · obtain ⟨hF9, hP9, E9, ce9, hz9, hq9, hn9, hc9⟩ := hR9
      have hv := hv.trans (xb_r hz9)
      have hS := zz_xS hS h09 hF9 (zz_free hD hS hA) hL9
      exact x_out htab hlocks (fun t ht hal => ⟨hS.F ht, by rw [ht, hv]; exact hP9, E9, ce9, by rw [hv], by rw [ht]; exact hq9, hn9, by rw [h19.findClass]; exact hc9⟩) hS.2.2 (Nat.le_of_ble_eq_true rfl) (Nat.le_of_ble_eq_true rfl)
  have B163 : ∀ (H : Heap) (locs : List Loc) (ls : Array Slot) (s0 : Int32) (σ : St), v = f_CL_chain_163 s0 σ → k_CL_chain_163 s0 σ → lv_has ls 3 [] → va_P D classes (Wc ty h σ px) H → va_D A (Wc ty h σ px) → va_S A s.heap H locs → W p l e (headSpec w_CL_chain rm_CL_chain).room s m args below meth c H locs 1 6 (xMQ below (Rx D classes (fun u => Wc ty h u px) A v) args s 1 6 A) (F0 m 163 ls [.int s0]) := by
    intro H locs ls s0 σ hv hk hl hP hD hS
    unfold f_CL_chain_163 at hv
    unfold k_CL_chain_163 at hk
    exact x_ret (fun o t hq => by obtain ⟨rfl, ht⟩ := hq; exact ⟨hS.F ht, by rw [ht, hv]; exact hP, _, rfl, by rw [hv]⟩) (Nat.le_of_ble_eq_true rfl) (Nat.le_of_ble_eq_true rfl) (W.iret (Qc := fun _ _ o t => o = .returned (some (.int s0)) ∧ t.heap = H) hx hb hr (fun t ht hW => ⟨rfl, ht⟩) hS.2.2 d_CL_chain_163)
  have B151 : ∀ (H : Heap) (locs : List Loc) (ls : Array Slot) (σ : St), v = f_CL_chain_151 σ → k_CL_chain_151 σ → lv_has ls 3 [(0, .ref (h 0))] → va_P D classes (Wc ty h σ px) H → va_D A (Wc ty h σ px) → va_S A s.heap H locs → W p l e (headSpec w_CL_chain rm_CL_chain).room s m args below meth c H locs 0 0 (xMQ below (Rx D classes (fun u => Wc ty h u px) A v) args s 1 6 A) (F0 m 151 ls []) := by
    intro H locs ls σ hv hk hl hP hD hS
    unfold f_CL_chain_151 at hv
    unfold k_CL_chain_151 at hk
    refine lv_aload_n hx hb d_CL_chain_151 rfl (lv_at hl 0 rfl) ?_
    refine lv_aload_n hx hb d_CL_chain_152 rfl (lv_at hl 0 rfl) ?_
    refine va_get (v := .ref (h 27)) (C := R_CL) (T := T_CL) (N := 11) hx hb hg in_CL hown hK hP 0 rfl rfl 8 (by decide) (hg _ m_292) (fun _ h9 => h9) rfl d_CL_chain_153 ?_
    obtain ⟨hk0, hk⟩ := hk
    refine zz_callV (va_runV (As := []) (rest := [.ref (h 0)]) ⟨hx, hb, hml, hown, hg⟩ (c_Sc_innermost l D ty h px sa σ  hk0) ⟨callB_of 0 hg (gw_C m_943) rfl rfl rfl (hg _ m_11) (hg _ m_940) hd_Sc_innermost ⟨Nat.le_of_ble_eq_true rfl, Nat.le_of_ble_eq_true rfl⟩, hg _ m_941, hg _ m_942⟩ (zz_preV (hM.at hS) hN hK hP 27 rfl rfl) rfl rfl hl.1 rfl (lv_room (Nat.le_of_ble_eq_true rfl)) d_CL_chain_156 ⟨Nat.le_of_ble_eq_true rfl, Nat.le_of_ble_eq_true rfl⟩) ?_
    refine lv_iconst (v := 0) hx hb d_CL_chain_159 (by decide) ?_
    obtain ⟨hk0, hk⟩ := hk
    refine x_callV (As := [.int (f_Sc_innermost σ), .int 0]) (rest := []) ⟨hx, hb, hml, hown, hg⟩ (c_CL_enterRow l hlt D ty h px sa σ H.size (f_Sc_innermost σ) 0 hk0) ⟨callB_of 2 hg (gw_C m_947) rfl rfl rfl (hg _ m_1) (hg _ m_944) hd_CL_enterRow ⟨Nat.le_of_ble_eq_true rfl, Nat.le_of_ble_eq_true rfl⟩, hg _ m_946, hg _ ms_30⟩ (zz_preX hM hN hX hS hA hK hP hD 0 rfl rfl) rfl hl.1 rfl (Nat.le_of_ble_eq_true rfl) d_CL_chain_160 ⟨Nat.le_of_ble_eq_true rfl, Nat.le_of_ble_eq_true rfl⟩ (fun r9 st9 t9 L9 h09 hal9 hR9 hL9 => ?_) (fun q9 st9 t9 L9 h09 h19 hal9 hR9 hL9 => ?_)
    · obtain ⟨hF9, hP9, x, rfl, hz9⟩ := hR9
      have hv := hv.trans (xb_l hz9)
      have hk := hk _ hz9
      have hS := zz_xS hS h09 hF9 (zz_free hD hS hA) hL9
      have hD : va_D A (Wc ty h (f_CL_enterRow (f_Sc_innermost σ) 0 σ).2 px) := zz_D hD rfl
      exact B163 _ _ _ x (f_CL_enterRow (f_Sc_innermost σ) 0 σ).2 hv hk (lv_sub hl [] rfl) hP9 hD hS
    · obtain ⟨hF9, hP9, E9, ce9, hz9, hq9, hn9, hc9⟩ := hR9
      have hv := hv.trans (xb_r hz9)
      have hS := zz_xS hS h09 hF9 (zz_free hD hS hA) hL9
      exact x_out htab hlocks (fun t ht hal => ⟨hS.F ht, by rw [ht, hv]; exact hP9, E9, ce9, by rw [hv], by rw [ht]; exact hq9, hn9, by rw [h19.findClass]; exact hc9⟩) hS.2.2 (Nat.le_of_ble_eq_true rfl) (Nat.le_of_ble_eq_true rfl)
  have B148 : ∀ (H : Heap) (locs : List Loc) (ls : Array Slot) (s0 : Int32) (σ : St), v = f_CL_chain_148 s0 σ → k_CL_chain_148 s0 σ → lv_has ls 3 [(0, .ref (h 0))] → va_P D classes (Wc ty h σ px) H → va_D A (Wc ty h σ px) → va_S A s.heap H locs → W p l e (headSpec w_CL_chain rm_CL_chain).room s m args below meth c H locs 0 0 (xMQ below (Rx D classes (fun u => Wc ty h u px) A v) args s 1 6 A) (F0 m 148 ls [.int s0, .ref (h 25)]) := by
    intro H locs ls s0 σ hv hk hl hP hD hS
    unfold f_CL_chain_148 at hv
    unfold k_CL_chain_148 at hk
    obtain ⟨hk0, hk⟩ := hk
    refine va_callv (va_runV (As := [.int s0]) (rest := []) ⟨hx, hb, hml, hown, hg⟩ (c_Ro_join l D ty h px sa σ H.size s0 hk0) ⟨callB_of 1 hg (gw_C m_939) rfl rfl rfl (hg _ m_10) (hg _ m_936) hd_Ro_join ⟨Nat.le_of_ble_eq_true rfl, Nat.le_of_ble_eq_true rfl⟩, hg _ m_937, hg _ m_938⟩ (zz_preVW hM hS hA hN hK hP hD 25 rfl rfl) rfl rfl hl.1 rfl (lv_room (Nat.le_of_ble_eq_true rfl)) d_CL_chain_148 ⟨Nat.le_of_ble_eq_true rfl, Nat.le_of_ble_eq_true rfl⟩) hS (fun q _ h => zz_free hD hS hA q h) (zz_free hD hS hA) (fun u148 t H locs ht hvm hp hP1 hz hk1 hS => ?_)
    rw [ht] at hP1
    rw [← hp] at hv hk
    have hD : va_D A (Wc ty h u148 px) := zz_D hD rfl
    have hP := hP1
    exact B151 _ _ _  u148 hv hk (lv_sub hl [0] rfl) hP hD hS
  have B121 : ∀ (H : Heap) (locs : List Loc) (ls : Array Slot) (x1 : Int32) (x2 : Int32) (σ : St), v = f_CL_chain_121 x1 x2 σ → k_CL_chain_121 x1 x2 σ → lv_has ls 3 [(0, .ref (h 0)), (1, .int x1), (2, .int x2)] → va_P D classes (Wc ty h σ px) H → va_D A (Wc ty h σ px) → va_S A s.heap H locs → W p l e (headSpec w_CL_chain rm_CL_chain).room s m args below meth c H locs 0 0 (xMQ below (Rx D classes (fun u => Wc ty h u px) A v) args s 1 6 A) (F0 m 121 ls []) := by
    intro H locs ls x1 x2 σ hv hk hl hP hD hS
    unfold f_CL_chain_121 at hv
    unfold k_CL_chain_121 at hk
    refine lv_aload_n hx hb d_CL_chain_121 rfl (lv_at hl 0 rfl) ?_
    refine va_get (v := .ref (h 25)) (C := R_CL) (T := T_CL) (N := 11) hx hb hg in_CL hown hK hP 0 rfl rfl 7 (by decide) (hg _ m_291) (fun _ h9 => h9) rfl d_CL_chain_122 ?_
    refine lv_aload_n hx hb d_CL_chain_125 rfl (lv_at hl 0 rfl) ?_
    refine va_get (v := .ref (h 6)) (C := R_CL) (T := T_CL) (N := 11) hx hb hg in_CL hown hK hP 0 rfl rfl 1 (by decide) (hg _ m_285) (fun _ h9 => h9) rfl d_CL_chain_126 ?_
    refine lv_aload_n hx hb d_CL_chain_129 rfl (lv_at hl 0 rfl) ?_
    refine va_get (v := .ref (h 6)) (C := R_CL) (T := T_CL) (N := 11) hx hb hg in_CL hown hK hP 0 rfl rfl 1 (by decide) (hg _ m_285) (fun _ h9 => h9) rfl d_CL_chain_130 ?_
    refine lv_iload_n hx hb d_CL_chain_133 rfl (lv_at hl 1 rfl) ?_
    obtain ⟨hk0, hk⟩ := hk
    refine zz_callV (va_runV (As := [.int x1]) (rest := [.ref (h 6), .ref (h 25)]) ⟨hx, hb, hml, hown, hg⟩ (c_Te_firstOf l D ty h px sa σ x1 hk0) ⟨callB_of 1 hg (gw_C m_447) rfl rfl rfl (hg _ m_3) (hg _ m_444) hd_Te_firstOf ⟨Nat.le_of_ble_eq_true rfl, Nat.le_of_ble_eq_true rfl⟩, hg _ m_445, hg _ m_446⟩ (zz_preV (hM.at hS) hN hK hP 6 rfl rfl) rfl rfl hl.1 rfl (lv_room (Nat.le_of_ble_eq_true rfl)) d_CL_chain_134 ⟨Nat.le_of_ble_eq_true rfl, Nat.le_of_ble_eq_true rfl⟩) ?_
    refine lv_aload_n hx hb d_CL_chain_137 rfl (lv_at hl 0 rfl) ?_
    refine va_get (v := .ref (h 6)) (C := R_CL) (T := T_CL) (N := 11) hx hb hg in_CL hown hK hP 0 rfl rfl 1 (by decide) (hg _ m_285) (fun _ h9 => h9) rfl d_CL_chain_138 ?_
    refine lv_iload_n hx hb d_CL_chain_141 rfl (lv_at hl 2 rfl) ?_
    obtain ⟨hk0, hk⟩ := hk
    refine zz_callV (va_runV (As := [.int x2]) (rest := [.int (f_Te_firstOf x1 σ), .ref (h 6), .ref (h 25)]) ⟨hx, hb, hml, hown, hg⟩ (c_Te_secondOf l D ty h px sa σ x2 hk0) ⟨callB_of 1 hg (gw_C m_451) rfl rfl rfl (hg _ m_3) (hg _ m_448) hd_Te_secondOf ⟨Nat.le_of_ble_eq_true rfl, Nat.le_of_ble_eq_true rfl⟩, hg _ m_449, hg _ m_450⟩ (zz_preV (hM.at hS) hN hK hP 6 rfl rfl) rfl rfl hl.1 rfl (lv_room (Nat.le_of_ble_eq_true rfl)) d_CL_chain_142 ⟨Nat.le_of_ble_eq_true rfl, Nat.le_of_ble_eq_true rfl⟩) ?_
    obtain ⟨hk0, hk⟩ := hk
    refine va_calli (va_runV (As := [.int (f_Te_firstOf x1 σ), .int (f_Te_secondOf x2 σ)]) (rest := [.ref (h 25)]) ⟨hx, hb, hml, hown, hg⟩ (c_Te_equation l D ty h px sa σ H.size (f_Te_firstOf x1 σ) (f_Te_secondOf x2 σ) hk0) ⟨callB_of 2 hg (gw_C m_1038) rfl rfl rfl (hg _ m_3) (hg _ m_1035) hd_Te_equation ⟨Nat.le_of_ble_eq_true rfl, Nat.le_of_ble_eq_true rfl⟩, hg _ m_1036, hg _ m_1037⟩ (zz_preVW hM hS hA hN hK hP hD 6 rfl rfl) rfl rfl hl.1 rfl (lv_room (Nat.le_of_ble_eq_true rfl)) d_CL_chain_145 ⟨Nat.le_of_ble_eq_true rfl, Nat.le_of_ble_eq_true rfl⟩) hS (fun q _ h => zz_free hD hS hA q h) (zz_free hD hS hA) (fun r145 u145 t H locs ht hvm hp hP1 hz hk1 hS => ?_)
    rw [ht] at hP1
    rw [← hp] at hv hk
    have hD : va_D A (Wc ty h u145 px) := zz_D hD rfl
    have hP := hP1
    exact B148 _ _ _ r145 u145 hv hk (lv_sub hl [0] rfl) hP hD hS
  have B118 : ∀ (H : Heap) (locs : List Loc) (ls : Array Slot) (x1 : Int32) (x2 : Int32) (s0 : Int32) (σ : St), v = f_CL_chain_118 x1 x2 s0 σ → k_CL_chain_118 x1 x2 s0 σ → lv_has ls 3 [(0, .ref (h 0)), (1, .int x1), (2, .int x2)] → va_P D classes (Wc ty h σ px) H → va_D A (Wc ty h σ px) → va_S A s.heap H locs → W p l e (headSpec w_CL_chain rm_CL_chain).room s m args below meth c H locs 0 0 (xMQ below (Rx D classes (fun u => Wc ty h u px) A v) args s 1 6 A) (F0 m 118 ls [.int s0, .ref (h 25)]) := by
    intro H locs ls x1 x2 s0 σ hv hk hl hP hD hS
    unfold f_CL_chain_118 at hv
    unfold k_CL_chain_118 at hk
    obtain ⟨hk0, hk⟩ := hk
    refine va_callv (va_runV (As := [.int s0]) (rest := []) ⟨hx, hb, hml, hown, hg⟩ (c_Ro_join l D ty h px sa σ H.size s0 hk0) ⟨callB_of 1 hg (gw_C m_939) rfl rfl rfl (hg _ m_10) (hg _ m_936) hd_Ro_join ⟨Nat.le_of_ble_eq_true rfl, Nat.le_of_ble_eq_true rfl⟩, hg _ m_937, hg _ m_938⟩ (zz_preVW hM hS hA hN hK hP hD 25 rfl rfl) rfl rfl hl.1 rfl (lv_room (Nat.le_of_ble_eq_true rfl)) d_CL_chain_118 ⟨Nat.le_of_ble_eq_true rfl, Nat.le_of_ble_eq_true rfl⟩) hS (fun q _ h => zz_free hD hS hA q h) (zz_free hD hS hA) (fun u118 t H locs ht hvm hp hP1 hz hk1 hS => ?_)
    rw [ht] at hP1
    rw [← hp] at hv hk
    have hD : va_D A (Wc ty h u118 px) := zz_D hD rfl
    have hP := hP1
    exact B121 _ _ _ x1 x2 u118 hv hk (lv_sub hl [0, 1, 2] rfl) hP hD hS
  have B106 : ∀ (H : Heap) (locs : List Loc) (ls : Array Slot) (x1 : Int32) (x2 : Int32) (σ : St), v = f_CL_chain_106 x1 x2 σ → k_CL_chain_106 x1 x2 σ → lv_has ls 3 [(0, .ref (h 0)), (1, .int x1), (2, .int x2)] → va_P D classes (Wc ty h σ px) H → va_D A (Wc ty h σ px) → va_S A s.heap H locs → W p l e (headSpec w_CL_chain rm_CL_chain).room s m args below meth c H locs 0 0 (xMQ below (Rx D classes (fun u => Wc ty h u px) A v) args s 1 6 A) (F0 m 106 ls []) := by
    intro H locs ls x1 x2 σ hv hk hl hP hD hS
    unfold f_CL_chain_106 at hv
    unfold k_CL_chain_106 at hk
    refine lv_aload_n hx hb d_CL_chain_106 rfl (lv_at hl 0 rfl) ?_
    refine va_get (v := .ref (h 25)) (C := R_CL) (T := T_CL) (N := 11) hx hb hg in_CL hown hK hP 0 rfl rfl 7 (by decide) (hg _ m_291) (fun _ h9 => h9) rfl d_CL_chain_107 ?_
    refine lv_aload_n hx hb d_CL_chain_110 rfl (lv_at hl 0 rfl) ?_
    refine va_get (v := .ref (h 6)) (C := R_CL) (T := T_CL) (N := 11) hx hb hg in_CL hown hK hP 0 rfl rfl 1 (by decide) (hg _ m_285) (fun _ h9 => h9) rfl d_CL_chain_111 ?_
    refine lv_iload_n hx hb d_CL_chain_114 rfl (lv_at hl 2 rfl) ?_
    obtain ⟨hk0, hk⟩ := hk
    refine va_calli (va_runV (As := [.int x2]) (rest := [.ref (h 25)]) ⟨hx, hb, hml, hown, hg⟩ (c_Te_opposite l D ty h px sa σ H.size x2 hk0) ⟨callB_of 1 hg (gw_C m_1014) rfl rfl rfl (hg _ m_3) (hg _ m_1011) hd_Te_opposite ⟨Nat.le_of_ble_eq_true rfl, Nat.le_of_ble_eq_true rfl⟩, hg _ m_1012, hg _ m_1013⟩ (zz_preVW hM hS hA hN hK hP hD 6 rfl rfl) rfl rfl hl.1 rfl (lv_room (Nat.le_of_ble_eq_true rfl)) d_CL_chain_115 ⟨Nat.le_of_ble_eq_true rfl, Nat.le_of_ble_eq_true rfl⟩) hS (fun q _ h => zz_free hD hS hA q h) (zz_free hD hS hA) (fun r115 u115 t H locs ht hvm hp hP1 hz hk1 hS => ?_)
    rw [ht] at hP1
    rw [← hp] at hv hk
    have hD : va_D A (Wc ty h u115 px) := zz_D hD rfl
    have hP := hP1
    exact B118 _ _ _ x1 x2 r115 u115 hv hk (lv_sub hl [0, 1, 2] rfl) hP hD hS
  have B103 : ∀ (H : Heap) (locs : List Loc) (ls : Array Slot) (x1 : Int32) (x2 : Int32) (s0 : Int32) (σ : St), v = f_CL_chain_103 x1 x2 s0 σ → k_CL_chain_103 x1 x2 s0 σ → lv_has ls 3 [(0, .ref (h 0)), (1, .int x1), (2, .int x2)] → va_P D classes (Wc ty h σ px) H → va_D A (Wc ty h σ px) → va_S A s.heap H locs → W p l e (headSpec w_CL_chain rm_CL_chain).room s m args below meth c H locs 0 0 (xMQ below (Rx D classes (fun u => Wc ty h u px) A v) args s 1 6 A) (F0 m 103 ls [.int s0, .ref (h 25)]) := by
    intro H locs ls x1 x2 s0 σ hv hk hl hP hD hS
    unfold f_CL_chain_103 at hv
    unfold k_CL_chain_103 at hk
    obtain ⟨hk0, hk⟩ := hk
    refine va_callv (va_runV (As := [.int s0]) (rest := []) ⟨hx, hb, hml, hown, hg⟩ (c_Ro_join l D ty h px sa σ H.size s0 hk0) ⟨callB_of 1 hg (gw_C m_939) rfl rfl rfl (hg _ m_10) (hg _ m_936) hd_Ro_join ⟨Nat.le_of_ble_eq_true rfl, Nat.le_of_ble_eq_true rfl⟩, hg _ m_937, hg _ m_938⟩ (zz_preVW hM hS hA hN hK hP hD 25 rfl rfl) rfl rfl hl.1 rfl (lv_room (Nat.le_of_ble_eq_true rfl)) d_CL_chain_103 ⟨Nat.le_of_ble_eq_true rfl, Nat.le_of_ble_eq_true rfl⟩) hS (fun q _ h => zz_free hD hS hA q h) (zz_free hD hS hA) (fun u103 t H locs ht hvm hp hP1 hz hk1 hS => ?_)
    rw [ht] at hP1
    rw [← hp] at hv hk
    have hD : va_D A (Wc ty h u103 px) := zz_D hD rfl
    have hP := hP1
    exact B106 _ _ _ x1 x2 u103 hv hk (lv_sub hl [0, 1, 2] rfl) hP hD hS
  have B91 : ∀ (H : Heap) (locs : List Loc) (ls : Array Slot) (x1 : Int32) (x2 : Int32) (σ : St), v = f_CL_chain_91 x1 x2 σ → k_CL_chain_91 x1 x2 σ → lv_has ls 3 [(0, .ref (h 0)), (1, .int x1), (2, .int x2)] → va_P D classes (Wc ty h σ px) H → va_D A (Wc ty h σ px) → va_S A s.heap H locs → W p l e (headSpec w_CL_chain rm_CL_chain).room s m args below meth c H locs 0 0 (xMQ below (Rx D classes (fun u => Wc ty h u px) A v) args s 1 6 A) (F0 m 91 ls []) := by
    intro H locs ls x1 x2 σ hv hk hl hP hD hS
    unfold f_CL_chain_91 at hv
    unfold k_CL_chain_91 at hk
    refine lv_aload_n hx hb d_CL_chain_91 rfl (lv_at hl 0 rfl) ?_
    refine va_get (v := .ref (h 25)) (C := R_CL) (T := T_CL) (N := 11) hx hb hg in_CL hown hK hP 0 rfl rfl 7 (by decide) (hg _ m_291) (fun _ h9 => h9) rfl d_CL_chain_92 ?_
    refine lv_aload_n hx hb d_CL_chain_95 rfl (lv_at hl 0 rfl) ?_
    refine va_get (v := .ref (h 6)) (C := R_CL) (T := T_CL) (N := 11) hx hb hg in_CL hown hK hP 0 rfl rfl 1 (by decide) (hg _ m_285) (fun _ h9 => h9) rfl d_CL_chain_96 ?_
    refine lv_iload_n hx hb d_CL_chain_99 rfl (lv_at hl 1 rfl) ?_
    obtain ⟨hk0, hk⟩ := hk
    refine va_calli (va_runV (As := [.int x1]) (rest := [.ref (h 25)]) ⟨hx, hb, hml, hown, hg⟩ (c_Te_opposite l D ty h px sa σ H.size x1 hk0) ⟨callB_of 1 hg (gw_C m_1014) rfl rfl rfl (hg _ m_3) (hg _ m_1011) hd_Te_opposite ⟨Nat.le_of_ble_eq_true rfl, Nat.le_of_ble_eq_true rfl⟩, hg _ m_1012, hg _ m_1013⟩ (zz_preVW hM hS hA hN hK hP hD 6 rfl rfl) rfl rfl hl.1 rfl (lv_room (Nat.le_of_ble_eq_true rfl)) d_CL_chain_100 ⟨Nat.le_of_ble_eq_true rfl, Nat.le_of_ble_eq_true rfl⟩) hS (fun q _ h => zz_free hD hS hA q h) (zz_free hD hS hA) (fun r100 u100 t H locs ht hvm hp hP1 hz hk1 hS => ?_)
    rw [ht] at hP1
    rw [← hp] at hv hk
    have hD : va_D A (Wc ty h u100 px) := zz_D hD rfl
    have hP := hP1
    exact B103 _ _ _ x1 x2 r100 u100 hv hk (lv_sub hl [0, 1, 2] rfl) hP hD hS
  unfold f_CL_chain at hv
  unfold k_CL_chain at hk
  refine lv_aload_n hx hb d_CL_chain_0 rfl (lv_at hl 0 rfl) ?_
  obtain ⟨hk0, hk⟩ := hk
  refine zz_callV (va_runV (As := []) (rest := []) ⟨hx, hb, hml, hown, hg⟩ (c_CL_isShut l D ty h px sa σ  hk0) ⟨callB_of 0 hg (gw_C m_571) rfl rfl rfl (hg _ m_1) (hg _ m_568) hd_CL_isShut ⟨Nat.le_of_ble_eq_true rfl, Nat.le_of_ble_eq_true rfl⟩, hg _ m_570, hg _ ms_8⟩ (zz_preV (hM.at hS) hN hK hP 0 rfl rfl) rfl rfl hl.1 rfl (lv_room (Nat.le_of_ble_eq_true rfl)) d_CL_chain_1 ⟨Nat.le_of_ble_eq_true rfl, Nat.le_of_ble_eq_true rfl⟩) ?_
  refine lv_if_eq (tgt := 9) hx hb d_CL_chain_4 (by decide) (fun hc => ?_) (fun hc => ?_)
  · have hv := hv.trans (if_pos hc)
    have hk := hk.1 hc
    refine lv_aload_n hx hb d_CL_chain_9 rfl (lv_at hl 0 rfl) ?_
    refine va_get (v := .ref (h 6)) (C := R_CL) (T := T_CL) (N := 11) hx hb hg in_CL hown hK hP 0 rfl rfl 1 (by decide) (hg _ m_285) (fun _ h9 => h9) rfl d_CL_chain_10 ?_
    refine lv_iload_n hx hb d_CL_chain_13 rfl (lv_at hl 1 rfl) ?_
    obtain ⟨hk0, hk⟩ := hk
    refine zz_callV (va_runV (As := [.int a1]) (rest := []) ⟨hx, hb, hml, hown, hg⟩ (c_Te_has l D ty h px sa σ a1 hk0) ⟨callB_of 1 hg (gw_C m_430) rfl rfl rfl (hg _ m_3) (hg _ m_427) hd_Te_has ⟨Nat.le_of_ble_eq_true rfl, Nat.le_of_ble_eq_true rfl⟩, hg _ m_428, hg _ m_429⟩ (zz_preV (hM.at hS) hN hK hP 6 rfl rfl) rfl rfl hl.1 rfl (lv_room (Nat.le_of_ble_eq_true rfl)) d_CL_chain_14 ⟨Nat.le_of_ble_eq_true rfl, Nat.le_of_ble_eq_true rfl⟩) ?_
    refine lv_if_eq (tgt := 31) hx hb d_CL_chain_17 (by decide) (fun hc => ?_) (fun hc => ?_)
    · have hv := hv.trans (if_pos hc)
      have hk := hk.1 hc
      exact B31 _ _ _  σ hv hk (lv_sub hl [0] rfl) hP hD hS
    · have hv := hv.trans (if_neg hc)
      have hk := hk.2 hc
      refine lv_aload_n hx hb d_CL_chain_20 rfl (lv_at hl 0 rfl) ?_
      refine va_get (v := .ref (h 6)) (C := R_CL) (T := T_CL) (N := 11) hx hb hg in_CL hown hK hP 0 rfl rfl 1 (by decide) (hg _ m_285) (fun _ h9 => h9) rfl d_CL_chain_21 ?_
      refine lv_iload_n hx hb d_CL_chain_24 rfl (lv_at hl 2 rfl) ?_
      obtain ⟨hk0, hk⟩ := hk
      refine zz_callV (va_runV (As := [.int a2]) (rest := []) ⟨hx, hb, hml, hown, hg⟩ (c_Te_has l D ty h px sa σ a2 hk0) ⟨callB_of 1 hg (gw_C m_430) rfl rfl rfl (hg _ m_3) (hg _ m_427) hd_Te_has ⟨Nat.le_of_ble_eq_true rfl, Nat.le_of_ble_eq_true rfl⟩, hg _ m_428, hg _ m_429⟩ (zz_preV (hM.at hS) hN hK hP 6 rfl rfl) rfl rfl hl.1 rfl (lv_room (Nat.le_of_ble_eq_true rfl)) d_CL_chain_25 ⟨Nat.le_of_ble_eq_true rfl, Nat.le_of_ble_eq_true rfl⟩) ?_
      refine lv_if_ne (tgt := 36) hx hb d_CL_chain_28 (by decide) (fun hc => ?_) (fun hc => ?_)
      · have hv := hv.trans (if_neg hc)
        have hk := hk.2 hc
        refine lv_aload_n hx hb d_CL_chain_36 rfl (lv_at hl 0 rfl) ?_
        refine va_get (v := .ref (h 6)) (C := R_CL) (T := T_CL) (N := 11) hx hb hg in_CL hown hK hP 0 rfl rfl 1 (by decide) (hg _ m_285) (fun _ h9 => h9) rfl d_CL_chain_37 ?_
        refine lv_iload_n hx hb d_CL_chain_40 rfl (lv_at hl 1 rfl) ?_
        obtain ⟨hk0, hk⟩ := hk
        refine zz_callV (va_runV (As := [.int a1]) (rest := []) ⟨hx, hb, hml, hown, hg⟩ (c_Te_kindOf l D ty h px sa σ a1 hk0) ⟨callB_of 1 hg (gw_C m_434) rfl rfl rfl (hg _ m_3) (hg _ m_431) hd_Te_kindOf ⟨Nat.le_of_ble_eq_true rfl, Nat.le_of_ble_eq_true rfl⟩, hg _ m_432, hg _ m_433⟩ (zz_preV (hM.at hS) hN hK hP 6 rfl rfl) rfl rfl hl.1 rfl (lv_room (Nat.le_of_ble_eq_true rfl)) d_CL_chain_41 ⟨Nat.le_of_ble_eq_true rfl, Nat.le_of_ble_eq_true rfl⟩) ?_
        refine lv_iconst (v := 5) hx hb d_CL_chain_44 (by decide) ?_
        refine lv_icmp_ne (tgt := 79) hx hb d_CL_chain_45 (by decide) (fun hc => ?_) (fun hc => ?_)
        · have hv := hv.trans (if_neg hc)
          have hk := hk.2 hc
          exact B79 _ _ _  σ hv hk (lv_sub hl [0] rfl) hP hD hS
        · have hv := hv.trans (if_pos hc)
          have hk := hk.1 hc
          refine lv_aload_n hx hb d_CL_chain_48 rfl (lv_at hl 0 rfl) ?_
          refine va_get (v := .ref (h 6)) (C := R_CL) (T := T_CL) (N := 11) hx hb hg in_CL hown hK hP 0 rfl rfl 1 (by decide) (hg _ m_285) (fun _ h9 => h9) rfl d_CL_chain_49 ?_
          refine lv_iload_n hx hb d_CL_chain_52 rfl (lv_at hl 2 rfl) ?_
          obtain ⟨hk0, hk⟩ := hk
          refine zz_callV (va_runV (As := [.int a2]) (rest := []) ⟨hx, hb, hml, hown, hg⟩ (c_Te_kindOf l D ty h px sa σ a2 hk0) ⟨callB_of 1 hg (gw_C m_434) rfl rfl rfl (hg _ m_3) (hg _ m_431) hd_Te_kindOf ⟨Nat.le_of_ble_eq_true rfl, Nat.le_of_ble_eq_true rfl⟩, hg _ m_432, hg _ m_433⟩ (zz_preV (hM.at hS) hN hK hP 6 rfl rfl) rfl rfl hl.1 rfl (lv_room (Nat.le_of_ble_eq_true rfl)) d_CL_chain_53 ⟨Nat.le_of_ble_eq_true rfl, Nat.le_of_ble_eq_true rfl⟩) ?_
          refine lv_iconst (v := 5) hx hb d_CL_chain_56 (by decide) ?_
          refine lv_icmp_ne (tgt := 79) hx hb d_CL_chain_57 (by decide) (fun hc => ?_) (fun hc => ?_)
          · have hv := hv.trans (if_neg hc)
            have hk := hk.2 hc
            exact B79 _ _ _  σ hv hk (lv_sub hl [0] rfl) hP hD hS
          · have hv := hv.trans (if_pos hc)
            have hk := hk.1 hc
            refine lv_aload_n hx hb d_CL_chain_60 rfl (lv_at hl 0 rfl) ?_
            refine va_get (v := .ref (h 6)) (C := R_CL) (T := T_CL) (N := 11) hx hb hg in_CL hown hK hP 0 rfl rfl 1 (by decide) (hg _ m_285) (fun _ h9 => h9) rfl d_CL_chain_61 ?_
            refine lv_iload_n hx hb d_CL_chain_64 rfl (lv_at hl 1 rfl) ?_
            obtain ⟨hk0, hk⟩ := hk
            refine zz_callV (va_runV (As := [.int a1]) (rest := []) ⟨hx, hb, hml, hown, hg⟩ (c_Te_secondOf l D ty h px sa σ a1 hk0) ⟨callB_of 1 hg (gw_C m_451) rfl rfl rfl (hg _ m_3) (hg _ m_448) hd_Te_secondOf ⟨Nat.le_of_ble_eq_true rfl, Nat.le_of_ble_eq_true rfl⟩, hg _ m_449, hg _ m_450⟩ (zz_preV (hM.at hS) hN hK hP 6 rfl rfl) rfl rfl hl.1 rfl (lv_room (Nat.le_of_ble_eq_true rfl)) d_CL_chain_65 ⟨Nat.le_of_ble_eq_true rfl, Nat.le_of_ble_eq_true rfl⟩) ?_
            refine lv_aload_n hx hb d_CL_chain_68 rfl (lv_at hl 0 rfl) ?_
            refine va_get (v := .ref (h 6)) (C := R_CL) (T := T_CL) (N := 11) hx hb hg in_CL hown hK hP 0 rfl rfl 1 (by decide) (hg _ m_285) (fun _ h9 => h9) rfl d_CL_chain_69 ?_
            refine lv_iload_n hx hb d_CL_chain_72 rfl (lv_at hl 2 rfl) ?_
            obtain ⟨hk0, hk⟩ := hk
            refine zz_callV (va_runV (As := [.int a2]) (rest := [.int (f_Te_secondOf a1 σ)]) ⟨hx, hb, hml, hown, hg⟩ (c_Te_firstOf l D ty h px sa σ a2 hk0) ⟨callB_of 1 hg (gw_C m_447) rfl rfl rfl (hg _ m_3) (hg _ m_444) hd_Te_firstOf ⟨Nat.le_of_ble_eq_true rfl, Nat.le_of_ble_eq_true rfl⟩, hg _ m_445, hg _ m_446⟩ (zz_preV (hM.at hS) hN hK hP 6 rfl rfl) rfl rfl hl.1 rfl (lv_room (Nat.le_of_ble_eq_true rfl)) d_CL_chain_73 ⟨Nat.le_of_ble_eq_true rfl, Nat.le_of_ble_eq_true rfl⟩) ?_
            refine lv_icmp_eq (tgt := 84) hx hb d_CL_chain_76 (by decide) (fun hc => ?_) (fun hc => ?_)
            · have hv := hv.trans (if_pos hc)
              have hk := hk.1 hc
              refine lv_aload_n hx hb d_CL_chain_84 rfl (lv_at hl 0 rfl) ?_
              refine va_get (v := .ref (h 25)) (C := R_CL) (T := T_CL) (N := 11) hx hb hg in_CL hown hK hP 0 rfl rfl 7 (by decide) (hg _ m_291) (fun _ h9 => h9) rfl d_CL_chain_85 ?_
              obtain ⟨hk0, hk⟩ := hk
              refine va_callv (va_runV (As := []) (rest := []) ⟨hx, hb, hml, hown, hg⟩ (c_Ro_wipe l D ty h px sa σ s.heap.size  hk0) ⟨callB_of 0 hg (gw_C m_935) rfl rfl rfl (hg _ m_10) (hg _ m_932) hd_Ro_wipe ⟨Nat.le_of_ble_eq_true rfl, Nat.le_of_ble_eq_true rfl⟩, hg _ m_933, hg _ m_934⟩ (zz_preVW hM hS hA hN hK hP hD 25 rfl rfl) rfl rfl hl.1 rfl (lv_room (Nat.le_of_ble_eq_true rfl)) d_CL_chain_88 ⟨Nat.le_of_ble_eq_true rfl, Nat.le_of_ble_eq_true rfl⟩) hS (fun q _ h => zz_free hD hS hA q h) (zz_free hD hS hA) (fun u88 t H locs ht hvm hp hP1 hz hk1 hS => ?_)
              rw [ht] at hP1
              rw [← hp] at hv hk
              have hD : va_D A (Wc ty h u88 px) := zz_D hD rfl
              have hP := hP1
              exact B91 _ _ _ a1 a2 u88 hv hk (lv_sub hl [0, 1, 2] rfl) hP hD hS
            · have hv := hv.trans (if_neg hc)
              have hk := hk.2 hc
              exact B79 _ _ _  σ hv hk (lv_sub hl [0] rfl) hP hD hS
      · have hv := hv.trans (if_pos hc)
        have hk := hk.1 hc
        exact B31 _ _ _  σ hv hk (lv_sub hl [0] rfl) hP hD hS
  · have hv := hv.trans (if_neg hc)
    have hk := hk.2 hc
    refine lv_iconst (v := -1) hx hb d_CL_chain_7 (by decide) ?_
    exact x_ret (fun o t hq => by obtain ⟨rfl, ht⟩ := hq; exact ⟨hS.F ht, by rw [ht, hv]; exact hP, _, rfl, by rw [hv]⟩) (Nat.le_of_ble_eq_true rfl) (Nat.le_of_ble_eq_true rfl) (W.iret (Qc := fun _ _ o t => o = .returned (some (.int (-1))) ∧ t.heap = s.heap) hx hb hr (fun t ht hW => ⟨rfl, ht⟩) hS.2.2 d_CL_chain_8)

-- ClauseLedger.turn(I)I
abbrev b_CL_turn : ByteArray := prog_1_method_13_code
def y_CL_turn : MethodName := ⟨"ClauseLedger", "turn", "(I)I"⟩
theorem hd_CL_turn : y_CL_turn.cls ≠ "java/lang/invoke/MethodHandle" ∧ y_CL_turn.cls ≠ "java/lang/invoke/VarHandle" ∧ (parseMethodDescriptor y_CL_turn.desc).map (fun d => d.parameters.length) = some 1 := by decide +kernel
theorem d_CL_turn_0 : decode b_CL_turn 0 = .ok (.aload_n 0, 1) := by decide +kernel
theorem d_CL_turn_1 : decode b_CL_turn 1 = .ok (.invokevirtual 102, 3) := by decide +kernel
theorem d_CL_turn_4 : decode b_CL_turn 4 = .ok (.ifCond .eq 5, 3) := by decide +kernel
theorem d_CL_turn_7 : decode b_CL_turn 7 = .ok (.iconst (-1), 1) := by decide +kernel
theorem d_CL_turn_8 : decode b_CL_turn 8 = .ok (.ireturn, 1) := by decide +kernel
theorem d_CL_turn_9 : decode b_CL_turn 9 = .ok (.aload_n 0, 1) := by decide +kernel
theorem d_CL_turn_10 : decode b_CL_turn 10 = .ok (.getfield 19, 3) := by decide +kernel
theorem d_CL_turn_13 : decode b_CL_turn 13 = .ok (.iload_n 1, 1) := by decide +kernel
theorem d_CL_turn_14 : decode b_CL_turn 14 = .ok (.invokevirtual 130, 3) := by decide +kernel
theorem d_CL_turn_17 : decode b_CL_turn 17 = .ok (.ifCond .ne 8, 3) := by decide +kernel
theorem d_CL_turn_20 : decode b_CL_turn 20 = .ok (.aload_n 0, 1) := by decide +kernel
theorem d_CL_turn_21 : decode b_CL_turn 21 = .ok (.invokevirtual 134, 3) := by decide +kernel
theorem d_CL_turn_24 : decode b_CL_turn 24 = .ok (.ireturn, 1) := by decide +kernel
theorem d_CL_turn_25 : decode b_CL_turn 25 = .ok (.aload_n 0, 1) := by decide +kernel
theorem d_CL_turn_26 : decode b_CL_turn 26 = .ok (.getfield 19, 3) := by decide +kernel
theorem d_CL_turn_29 : decode b_CL_turn 29 = .ok (.iload_n 1, 1) := by decide +kernel
theorem d_CL_turn_30 : decode b_CL_turn 30 = .ok (.invokevirtual 173, 3) := by decide +kernel
theorem d_CL_turn_33 : decode b_CL_turn 33 = .ok (.iconst 5, 1) := by decide +kernel
theorem d_CL_turn_34 : decode b_CL_turn 34 = .ok (.if_icmp .eq 8, 3) := by decide +kernel
theorem d_CL_turn_37 : decode b_CL_turn 37 = .ok (.aload_n 0, 1) := by decide +kernel
theorem d_CL_turn_38 : decode b_CL_turn 38 = .ok (.invokevirtual 112, 3) := by decide +kernel
theorem d_CL_turn_41 : decode b_CL_turn 41 = .ok (.ireturn, 1) := by decide +kernel
theorem d_CL_turn_42 : decode b_CL_turn 42 = .ok (.aload_n 0, 1) := by decide +kernel
theorem d_CL_turn_43 : decode b_CL_turn 43 = .ok (.getfield 65, 3) := by decide +kernel
theorem d_CL_turn_46 : decode b_CL_turn 46 = .ok (.invokevirtual 140, 3) := by decide +kernel
theorem d_CL_turn_49 : decode b_CL_turn 49 = .ok (.aload_n 0, 1) := by decide +kernel
theorem d_CL_turn_50 : decode b_CL_turn 50 = .ok (.getfield 65, 3) := by decide +kernel
theorem d_CL_turn_53 : decode b_CL_turn 53 = .ok (.aload_n 0, 1) := by decide +kernel
theorem d_CL_turn_54 : decode b_CL_turn 54 = .ok (.getfield 19, 3) := by decide +kernel
theorem d_CL_turn_57 : decode b_CL_turn 57 = .ok (.iload_n 1, 1) := by decide +kernel
theorem d_CL_turn_58 : decode b_CL_turn 58 = .ok (.invokevirtual 182, 3) := by decide +kernel
theorem d_CL_turn_61 : decode b_CL_turn 61 = .ok (.invokevirtual 141, 3) := by decide +kernel
theorem d_CL_turn_64 : decode b_CL_turn 64 = .ok (.aload_n 0, 1) := by decide +kernel
theorem d_CL_turn_65 : decode b_CL_turn 65 = .ok (.getfield 65, 3) := by decide +kernel
theorem d_CL_turn_68 : decode b_CL_turn 68 = .ok (.aload_n 0, 1) := by decide +kernel
theorem d_CL_turn_69 : decode b_CL_turn 69 = .ok (.getfield 19, 3) := by decide +kernel
theorem d_CL_turn_72 : decode b_CL_turn 72 = .ok (.aload_n 0, 1) := by decide +kernel
theorem d_CL_turn_73 : decode b_CL_turn 73 = .ok (.getfield 19, 3) := by decide +kernel
theorem d_CL_turn_76 : decode b_CL_turn 76 = .ok (.iload_n 1, 1) := by decide +kernel
theorem d_CL_turn_77 : decode b_CL_turn 77 = .ok (.invokevirtual 176, 3) := by decide +kernel
theorem d_CL_turn_80 : decode b_CL_turn 80 = .ok (.aload_n 0, 1) := by decide +kernel
theorem d_CL_turn_81 : decode b_CL_turn 81 = .ok (.getfield 19, 3) := by decide +kernel
theorem d_CL_turn_84 : decode b_CL_turn 84 = .ok (.iload_n 1, 1) := by decide +kernel
theorem d_CL_turn_85 : decode b_CL_turn 85 = .ok (.invokevirtual 179, 3) := by decide +kernel
theorem d_CL_turn_88 : decode b_CL_turn 88 = .ok (.invokevirtual 169, 3) := by decide +kernel
theorem d_CL_turn_91 : decode b_CL_turn 91 = .ok (.invokevirtual 141, 3) := by decide +kernel
theorem d_CL_turn_94 : decode b_CL_turn 94 = .ok (.aload_n 0, 1) := by decide +kernel
theorem d_CL_turn_95 : decode b_CL_turn 95 = .ok (.aload_n 0, 1) := by decide +kernel
theorem d_CL_turn_96 : decode b_CL_turn 96 = .ok (.getfield 72, 3) := by decide +kernel
theorem d_CL_turn_99 : decode b_CL_turn 99 = .ok (.invokevirtual 145, 3) := by decide +kernel
theorem d_CL_turn_102 : decode b_CL_turn 102 = .ok (.iconst 0, 1) := by decide +kernel
theorem d_CL_turn_103 : decode b_CL_turn 103 = .ok (.invokevirtual 148, 3) := by decide +kernel
theorem d_CL_turn_106 : decode b_CL_turn 106 = .ok (.ireturn, 1) := by decide +kernel
def f_CL_turn_24 (s0 : Int32) (σ : St) : XR := (.inl s0, σ)
def k_CL_turn_24 (s0 : Int32) (σ : St) : Prop := True
def f_CL_turn_41 (s0 : Int32) (σ : St) : XR := (.inl s0, σ)
def k_CL_turn_41 (s0 : Int32) (σ : St) : Prop := True
def f_CL_turn_106 (s0 : Int32) (σ : St) : XR := (.inl s0, σ)
def k_CL_turn_106 (s0 : Int32) (σ : St) : Prop := True
def f_CL_turn_94 (σ : St) : XR := xb (f_CL_enterRow (f_Sc_innermost σ) 0 σ) (fun x u => f_CL_turn_106 x u)
def k_CL_turn_94 (σ : St) : Prop := (k_Sc_innermost σ) ∧ ((k_CL_enterRow (f_Sc_innermost σ) 0 σ) ∧ (∀ x, (f_CL_enterRow (f_Sc_innermost σ) 0 σ).1 = .inl x → (k_CL_turn_106 x ((f_CL_enterRow (f_Sc_innermost σ) 0 σ).2))))
def f_CL_turn_91 (s0 : Int32) (σ : St) : XR := f_CL_turn_94 (f_Ro_join s0 σ)
def k_CL_turn_91 (s0 : Int32) (σ : St) : Prop := (k_Ro_join s0 σ) ∧ (k_CL_turn_94 (f_Ro_join s0 σ))
def f_CL_turn_64 (x1 : Int32) (σ : St) : XR := f_CL_turn_91 ((f_Te_equation (f_Te_secondOf x1 σ) (f_Te_firstOf x1 σ) σ).1) ((f_Te_equation (f_Te_secondOf x1 σ) (f_Te_firstOf x1 σ) σ).2)
def k_CL_turn_64 (x1 : Int32) (σ : St) : Prop := (k_Te_secondOf x1 σ) ∧ ((k_Te_firstOf x1 σ) ∧ ((k_Te_equation (f_Te_secondOf x1 σ) (f_Te_firstOf x1 σ) σ) ∧ (k_CL_turn_91 ((f_Te_equation (f_Te_secondOf x1 σ) (f_Te_firstOf x1 σ) σ).1) ((f_Te_equation (f_Te_secondOf x1 σ) (f_Te_firstOf x1 σ) σ).2))))
def f_CL_turn_61 (x1 : Int32) (s0 : Int32) (σ : St) : XR := f_CL_turn_64 x1 (f_Ro_join s0 σ)
def k_CL_turn_61 (x1 : Int32) (s0 : Int32) (σ : St) : Prop := (k_Ro_join s0 σ) ∧ (k_CL_turn_64 x1 (f_Ro_join s0 σ))
def f_CL_turn_49 (x1 : Int32) (σ : St) : XR := f_CL_turn_61 x1 ((f_Te_opposite x1 σ).1) ((f_Te_opposite x1 σ).2)
def k_CL_turn_49 (x1 : Int32) (σ : St) : Prop := (k_Te_opposite x1 σ) ∧ (k_CL_turn_61 x1 ((f_Te_opposite x1 σ).1) ((f_Te_opposite x1 σ).2))
def f_CL_turn (a1 : Int32) (σ : St) : XR := if (f_CL_isShut σ) = 0 then (if (f_Te_has a1 σ) = 0 then (xb (f_CL_throwMissing σ) (fun x u => f_CL_turn_24 x u)) else (if (f_Te_kindOf a1 σ) = 5 then (f_CL_turn_49 a1 (f_Ro_wipe σ)) else (xb (f_CL_throwWrong σ) (fun x u => f_CL_turn_41 x u)))) else (.inl (-1), σ)
def k_CL_turn (a1 : Int32) (σ : St) : Prop := (k_CL_isShut σ) ∧ (((f_CL_isShut σ) = 0 → ((k_Te_has a1 σ) ∧ (((f_Te_has a1 σ) = 0 → ((k_CL_throwMissing σ) ∧ (∀ x, (f_CL_throwMissing σ).1 = .inl x → (k_CL_turn_24 x ((f_CL_throwMissing σ).2))))) ∧ (¬ (f_Te_has a1 σ) = 0 → ((k_Te_kindOf a1 σ) ∧ (((f_Te_kindOf a1 σ) = 5 → ((k_Ro_wipe σ) ∧ (k_CL_turn_49 a1 (f_Ro_wipe σ)))) ∧ (¬ (f_Te_kindOf a1 σ) = 5 → ((k_CL_throwWrong σ) ∧ (∀ x, (f_CL_throwWrong σ).1 = .inl x → (k_CL_turn_41 x ((f_CL_throwWrong σ).2))))))))))) ∧ (¬ (f_CL_isShut σ) = 0 → True))
abbrev w_CL_turn : List Cond := Cond.code y_CL_turn b_CL_turn 2 (some .int) :: gw
abbrev rm_CL_turn : Room := { frames := 8, cells := 1, slots := 6, locals := 142 }
set_option maxHeartbeats 4000000 in
set_option maxRecDepth 100000 in
theorem c_CL_turn (l : Launch) (hlt : l.stackTraces = false) (D : va_G) (ty : Nat → ClassId) (h : Nat → Nat) (px : va_W) (sa : Nat → Nat) (σ : St) (sz : Nat) (a1 : Int32) (hk : k_CL_turn a1 σ) : xMet l y_CL_turn w_CL_turn rm_CL_turn (va_Pc [.ref (h 0), .int a1] (fun U => U.heap.size = sz ∧ va_P D classes (Wc ty h σ px) U.heap ∧ va_K D classes (Ta ty) U ∧ NW U ∧ XK sa (va_A (Wc ty h σ px) sz) U U.heap ∧ MK sa (va_A (Wc ty h σ px) sz) U U.heap ∧ va_D (fun _ => True) (Wc ty h σ px))) (Rx D classes (fun u => Wc ty h u px) (va_A (Wc ty h σ px) sz) (f_CL_turn a1 σ)) 1 6 (va_A (Wc ty h σ px) sz) := by
  refine xMet.ofW (cc := b_CL_turn) (maxL := 2) (ret := (some .int)) (by decide) rfl ?_
  intro p e s m args below meth c s₁ B hml htab hv
  obtain ⟨ha, hsz, hP, hK, hN, hX, hM, hD0⟩ := hv
  have hx := B.exec
  have hb := B.bytes
  have hr := B.returns
  have hg : ∀ w ∈ gw, w.before args s = true := fun w h9 => atoms_spec (ws := w_CL_turn) B.pre w (List.mem_cons_of_mem _ h9)
  have hown : s.vm.findClass "ClauseLedger" = some m.cls := findClass_of_methodNamed B.named
  have hlocks := B.notSynchronized
  subst hsz
  have hD := hD0.self (sz := s.heap.size)
  generalize hAe : va_A (Wc ty h σ px) s.heap.size = A at hD hM hX ⊢
  have hA : ∀ q : Nat, s.heap.size ≤ q → A q := fun q h9 => by rw [← hAe]; exact Or.inr h9
  have hS : va_S A s.heap s.heap [] := va_S.rf
  have he : entryFrame m args 2 = entryFrame m ([.ref (h 0), .int a1] : List Value).toArray 2 := by rw [ha]
  rw [he, lg_entry_eq]
  have hl := lv_entry ([.ref (h 0), .int a1]) (n := 2) (Nat.le_of_ble_eq_true rfl)
  generalize (lg_sl ([.ref (h 0), .int a1]) ++ List.replicate (2 - (lg_sl ([.ref (h 0), .int a1])).length) Slot.unset).toArray = ls at hl ⊢
  have hl : lv_has ls 2 [(0, .ref (h 0)), (1, .int a1)] := hl
  generalize hv : f_CL_turn a1 σ = v
  replace hv := hv.symm
  have B24 : ∀ (H : Heap) (locs : List Loc) (ls : Array Slot) (s0 : Int32) (σ : St), v = f_CL_turn_24 s0 σ → k_CL_turn_24 s0 σ → lv_has ls 2 [] → va_P D classes (Wc ty h σ px) H → va_D A (Wc ty h σ px) → va_S A s.heap H locs → W p l e (headSpec w_CL_turn rm_CL_turn).room s m args below meth c H locs 1 6 (xMQ below (Rx D classes (fun u => Wc ty h u px) A v) args s 1 6 A) (F0 m 24 ls [.int s0]) := by
    intro H locs ls s0 σ hv hk hl hP hD hS
    unfold f_CL_turn_24 at hv
    unfold k_CL_turn_24 at hk
    exact x_ret (fun o t hq => by obtain ⟨rfl, ht⟩ := hq; exact ⟨hS.F ht, by rw [ht, hv]; exact hP, _, rfl, by rw [hv]⟩) (Nat.le_of_ble_eq_true rfl) (Nat.le_of_ble_eq_true rfl) (W.iret (Qc := fun _ _ o t => o = .returned (some (.int s0)) ∧ t.heap = H) hx hb hr (fun t ht hW => ⟨rfl, ht⟩) hS.2.2 d_CL_turn_24)
  have B41 : ∀ (H : Heap) (locs : List Loc) (ls : Array Slot) (s0 : Int32) (σ : St), v = f_CL_turn_41 s0 σ → k_CL_turn_41 s0 σ → lv_has ls 2 [] → va_P D classes (Wc ty h σ px) H → va_D A (Wc ty h σ px) → va_S A s.heap H locs → W p l e (headSpec w_CL_turn rm_CL_turn).room s m args below meth c H locs 1 6 (xMQ below (Rx D classes (fun u => Wc ty h u px) A v) args s 1 6 A) (F0 m 41 ls [.int s0]) := by
    intro H locs ls s0 σ hv hk hl hP hD hS
    unfold f_CL_turn_41 at hv
    unfold k_CL_turn_41 at hk
    exact x_ret (fun o t hq => by obtain ⟨rfl, ht⟩ := hq; exact ⟨hS.F ht, by rw [ht, hv]; exact hP, _, rfl, by rw [hv]⟩) (Nat.le_of_ble_eq_true rfl) (Nat.le_of_ble_eq_true rfl) (W.iret (Qc := fun _ _ o t => o = .returned (some (.int s0)) ∧ t.heap = H) hx hb hr (fun t ht hW => ⟨rfl, ht⟩) hS.2.2 d_CL_turn_41)
  have B106 : ∀ (H : Heap) (locs : List Loc) (ls : Array Slot) (s0 : Int32) (σ : St), v = f_CL_turn_106 s0 σ → k_CL_turn_106 s0 σ → lv_has ls 2 [] → va_P D classes (Wc ty h σ px) H → va_D A (Wc ty h σ px) → va_S A s.heap H locs → W p l e (headSpec w_CL_turn rm_CL_turn).room s m args below meth c H locs 1 6 (xMQ below (Rx D classes (fun u => Wc ty h u px) A v) args s 1 6 A) (F0 m 106 ls [.int s0]) := by
    intro H locs ls s0 σ hv hk hl hP hD hS
    unfold f_CL_turn_106 at hv
    unfold k_CL_turn_106 at hk
    exact x_ret (fun o t hq => by obtain ⟨rfl, ht⟩ := hq; exact ⟨hS.F ht, by rw [ht, hv]; exact hP, _, rfl, by rw [hv]⟩) (Nat.le_of_ble_eq_true rfl) (Nat.le_of_ble_eq_true rfl) (W.iret (Qc := fun _ _ o t => o = .returned (some (.int s0)) ∧ t.heap = H) hx hb hr (fun t ht hW => ⟨rfl, ht⟩) hS.2.2 d_CL_turn_106)
  have B94 : ∀ (H : Heap) (locs : List Loc) (ls : Array Slot) (σ : St), v = f_CL_turn_94 σ → k_CL_turn_94 σ → lv_has ls 2 [(0, .ref (h 0))] → va_P D classes (Wc ty h σ px) H → va_D A (Wc ty h σ px) → va_S A s.heap H locs → W p l e (headSpec w_CL_turn rm_CL_turn).room s m args below meth c H locs 0 0 (xMQ below (Rx D classes (fun u => Wc ty h u px) A v) args s 1 6 A) (F0 m 94 ls []) := by
    intro H locs ls σ hv hk hl hP hD hS
    unfold f_CL_turn_94 at hv
    unfold k_CL_turn_94 at hk
    refine lv_aload_n hx hb d_CL_turn_94 rfl (lv_at hl 0 rfl) ?_
    refine lv_aload_n hx hb d_CL_turn_95 rfl (lv_at hl 0 rfl) ?_
    refine va_get (v := .ref (h 27)) (C := R_CL) (T := T_CL) (N := 11) hx hb hg in_CL hown hK hP 0 rfl rfl 8 (by decide) (hg _ m_292) (fun _ h9 => h9) rfl d_CL_turn_96 ?_
    obtain ⟨hk0, hk⟩ := hk
    refine zz_callV (va_runV (As := []) (rest := [.ref (h 0)]) ⟨hx, hb, hml, hown, hg⟩ (c_Sc_innermost l D ty h px sa σ  hk0) ⟨callB_of 0 hg (gw_C m_943) rfl rfl rfl (hg _ m_11) (hg _ m_940) hd_Sc_innermost ⟨Nat.le_of_ble_eq_true rfl, Nat.le_of_ble_eq_true rfl⟩, hg _ m_941, hg _ m_942⟩ (zz_preV (hM.at hS) hN hK hP 27 rfl rfl) rfl rfl hl.1 rfl (lv_room (Nat.le_of_ble_eq_true rfl)) d_CL_turn_99 ⟨Nat.le_of_ble_eq_true rfl, Nat.le_of_ble_eq_true rfl⟩) ?_
    refine lv_iconst (v := 0) hx hb d_CL_turn_102 (by decide) ?_
    obtain ⟨hk0, hk⟩ := hk
    refine x_callV (As := [.int (f_Sc_innermost σ), .int 0]) (rest := []) ⟨hx, hb, hml, hown, hg⟩ (c_CL_enterRow l hlt D ty h px sa σ H.size (f_Sc_innermost σ) 0 hk0) ⟨callB_of 2 hg (gw_C m_947) rfl rfl rfl (hg _ m_1) (hg _ m_944) hd_CL_enterRow ⟨Nat.le_of_ble_eq_true rfl, Nat.le_of_ble_eq_true rfl⟩, hg _ m_946, hg _ ms_30⟩ (zz_preX hM hN hX hS hA hK hP hD 0 rfl rfl) rfl hl.1 rfl (Nat.le_of_ble_eq_true rfl) d_CL_turn_103 ⟨Nat.le_of_ble_eq_true rfl, Nat.le_of_ble_eq_true rfl⟩ (fun r9 st9 t9 L9 h09 hal9 hR9 hL9 => ?_) (fun q9 st9 t9 L9 h09 h19 hal9 hR9 hL9 => ?_)
    · obtain ⟨hF9, hP9, x, rfl, hz9⟩ := hR9
      have hv := hv.trans (xb_l hz9)
      have hk := hk _ hz9
      have hS := zz_xS hS h09 hF9 (zz_free hD hS hA) hL9
      have hD : va_D A (Wc ty h (f_CL_enterRow (f_Sc_innermost σ) 0 σ).2 px) := zz_D hD rfl
      exact B106 _ _ _ x (f_CL_enterRow (f_Sc_innermost σ) 0 σ).2 hv hk (lv_sub hl [] rfl) hP9 hD hS
    · obtain ⟨hF9, hP9, E9, ce9, hz9, hq9, hn9, hc9⟩ := hR9
      have hv := hv.trans (xb_r hz9)
      have hS := zz_xS hS h09 hF9 (zz_free hD hS hA) hL9
      exact x_out htab hlocks (fun t ht hal => ⟨hS.F ht, by rw [ht, hv]; exact hP9, E9, ce9, by rw [hv], by rw [ht]; exact hq9, hn9, by rw [h19.findClass]; exact hc9⟩) hS.2.2 (Nat.le_of_ble_eq_true rfl) (Nat.le_of_ble_eq_true rfl)
  have B91 : ∀ (H : Heap) (locs : List Loc) (ls : Array Slot) (s0 : Int32) (σ : St), v = f_CL_turn_91 s0 σ → k_CL_turn_91 s0 σ → lv_has ls 2 [(0, .ref (h 0))] → va_P D classes (Wc ty h σ px) H → va_D A (Wc ty h σ px) → va_S A s.heap H locs → W p l e (headSpec w_CL_turn rm_CL_turn).room s m args below meth c H locs 0 0 (xMQ below (Rx D classes (fun u => Wc ty h u px) A v) args s 1 6 A) (F0 m 91 ls [.int s0, .ref (h 25)]) := by
    intro H locs ls s0 σ hv hk hl hP hD hS
    unfold f_CL_turn_91 at hv
    unfold k_CL_turn_91 at hk
    obtain ⟨hk0, hk⟩ := hk
    refine va_callv (va_runV (As := [.int s0]) (rest := []) ⟨hx, hb, hml, hown, hg⟩ (c_Ro_join l D ty h px sa σ H.size s0 hk0) ⟨callB_of 1 hg (gw_C m_939) rfl rfl rfl (hg _ m_10) (hg _ m_936) hd_Ro_join ⟨Nat.le_of_ble_eq_true rfl, Nat.le_of_ble_eq_true rfl⟩, hg _ m_937, hg _ m_938⟩ (zz_preVW hM hS hA hN hK hP hD 25 rfl rfl) rfl rfl hl.1 rfl (lv_room (Nat.le_of_ble_eq_true rfl)) d_CL_turn_91 ⟨Nat.le_of_ble_eq_true rfl, Nat.le_of_ble_eq_true rfl⟩) hS (fun q _ h => zz_free hD hS hA q h) (zz_free hD hS hA) (fun u91 t H locs ht hvm hp hP1 hz hk1 hS => ?_)
    rw [ht] at hP1
    rw [← hp] at hv hk
    have hD : va_D A (Wc ty h u91 px) := zz_D hD rfl
    have hP := hP1
    exact B94 _ _ _  u91 hv hk (lv_sub hl [0] rfl) hP hD hS
  have B64 : ∀ (H : Heap) (locs : List Loc) (ls : Array Slot) (x1 : Int32) (σ : St), v = f_CL_turn_64 x1 σ → k_CL_turn_64 x1 σ → lv_has ls 2 [(0, .ref (h 0)), (1, .int x1)] → va_P D classes (Wc ty h σ px) H → va_D A (Wc ty h σ px) → va_S A s.heap H locs → W p l e (headSpec w_CL_turn rm_CL_turn).room s m args below meth c H locs 0 0 (xMQ below (Rx D classes (fun u => Wc ty h u px) A v) args s 1 6 A) (F0 m 64 ls []) := by
    intro H locs ls x1 σ hv hk hl hP hD hS
    unfold f_CL_turn_64 at hv
    unfold k_CL_turn_64 at hk
    refine lv_aload_n hx hb d_CL_turn_64 rfl (lv_at hl 0 rfl) ?_
    refine va_get (v := .ref (h 25)) (C := R_CL) (T := T_CL) (N := 11) hx hb hg in_CL hown hK hP 0 rfl rfl 7 (by decide) (hg _ m_291) (fun _ h9 => h9) rfl d_CL_turn_65 ?_
    refine lv_aload_n hx hb d_CL_turn_68 rfl (lv_at hl 0 rfl) ?_
    refine va_get (v := .ref (h 6)) (C := R_CL) (T := T_CL) (N := 11) hx hb hg in_CL hown hK hP 0 rfl rfl 1 (by decide) (hg _ m_285) (fun _ h9 => h9) rfl d_CL_turn_69 ?_
    refine lv_aload_n hx hb d_CL_turn_72 rfl (lv_at hl 0 rfl) ?_
    refine va_get (v := .ref (h 6)) (C := R_CL) (T := T_CL) (N := 11) hx hb hg in_CL hown hK hP 0 rfl rfl 1 (by decide) (hg _ m_285) (fun _ h9 => h9) rfl d_CL_turn_73 ?_
    refine lv_iload_n hx hb d_CL_turn_76 rfl (lv_at hl 1 rfl) ?_
    obtain ⟨hk0, hk⟩ := hk
    refine zz_callV (va_runV (As := [.int x1]) (rest := [.ref (h 6), .ref (h 25)]) ⟨hx, hb, hml, hown, hg⟩ (c_Te_secondOf l D ty h px sa σ x1 hk0) ⟨callB_of 1 hg (gw_C m_451) rfl rfl rfl (hg _ m_3) (hg _ m_448) hd_Te_secondOf ⟨Nat.le_of_ble_eq_true rfl, Nat.le_of_ble_eq_true rfl⟩, hg _ m_449, hg _ m_450⟩ (zz_preV (hM.at hS) hN hK hP 6 rfl rfl) rfl rfl hl.1 rfl (lv_room (Nat.le_of_ble_eq_true rfl)) d_CL_turn_77 ⟨Nat.le_of_ble_eq_true rfl, Nat.le_of_ble_eq_true rfl⟩) ?_
    refine lv_aload_n hx hb d_CL_turn_80 rfl (lv_at hl 0 rfl) ?_
    refine va_get (v := .ref (h 6)) (C := R_CL) (T := T_CL) (N := 11) hx hb hg in_CL hown hK hP 0 rfl rfl 1 (by decide) (hg _ m_285) (fun _ h9 => h9) rfl d_CL_turn_81 ?_
    refine lv_iload_n hx hb d_CL_turn_84 rfl (lv_at hl 1 rfl) ?_
    obtain ⟨hk0, hk⟩ := hk
    refine zz_callV (va_runV (As := [.int x1]) (rest := [.int (f_Te_secondOf x1 σ), .ref (h 6), .ref (h 25)]) ⟨hx, hb, hml, hown, hg⟩ (c_Te_firstOf l D ty h px sa σ x1 hk0) ⟨callB_of 1 hg (gw_C m_447) rfl rfl rfl (hg _ m_3) (hg _ m_444) hd_Te_firstOf ⟨Nat.le_of_ble_eq_true rfl, Nat.le_of_ble_eq_true rfl⟩, hg _ m_445, hg _ m_446⟩ (zz_preV (hM.at hS) hN hK hP 6 rfl rfl) rfl rfl hl.1 rfl (lv_room (Nat.le_of_ble_eq_true rfl)) d_CL_turn_85 ⟨Nat.le_of_ble_eq_true rfl, Nat.le_of_ble_eq_true rfl⟩) ?_
    obtain ⟨hk0, hk⟩ := hk
    refine va_calli (va_runV (As := [.int (f_Te_secondOf x1 σ), .int (f_Te_firstOf x1 σ)]) (rest := [.ref (h 25)]) ⟨hx, hb, hml, hown, hg⟩ (c_Te_equation l D ty h px sa σ H.size (f_Te_secondOf x1 σ) (f_Te_firstOf x1 σ) hk0) ⟨callB_of 2 hg (gw_C m_1038) rfl rfl rfl (hg _ m_3) (hg _ m_1035) hd_Te_equation ⟨Nat.le_of_ble_eq_true rfl, Nat.le_of_ble_eq_true rfl⟩, hg _ m_1036, hg _ m_1037⟩ (zz_preVW hM hS hA hN hK hP hD 6 rfl rfl) rfl rfl hl.1 rfl (lv_room (Nat.le_of_ble_eq_true rfl)) d_CL_turn_88 ⟨Nat.le_of_ble_eq_true rfl, Nat.le_of_ble_eq_true rfl⟩) hS (fun q _ h => zz_free hD hS hA q h) (zz_free hD hS hA) (fun r88 u88 t H locs ht hvm hp hP1 hz hk1 hS => ?_)
    rw [ht] at hP1
    rw [← hp] at hv hk
    have hD : va_D A (Wc ty h u88 px) := zz_D hD rfl
    have hP := hP1
    exact B91 _ _ _ r88 u88 hv hk (lv_sub hl [0] rfl) hP hD hS
  have B61 : ∀ (H : Heap) (locs : List Loc) (ls : Array Slot) (x1 : Int32) (s0 : Int32) (σ : St), v = f_CL_turn_61 x1 s0 σ → k_CL_turn_61 x1 s0 σ → lv_has ls 2 [(0, .ref (h 0)), (1, .int x1)] → va_P D classes (Wc ty h σ px) H → va_D A (Wc ty h σ px) → va_S A s.heap H locs → W p l e (headSpec w_CL_turn rm_CL_turn).room s m args below meth c H locs 0 0 (xMQ below (Rx D classes (fun u => Wc ty h u px) A v) args s 1 6 A) (F0 m 61 ls [.int s0, .ref (h 25)]) := by
    intro H locs ls x1 s0 σ hv hk hl hP hD hS
    unfold f_CL_turn_61 at hv
    unfold k_CL_turn_61 at hk
    obtain ⟨hk0, hk⟩ := hk
    refine va_callv (va_runV (As := [.int s0]) (rest := []) ⟨hx, hb, hml, hown, hg⟩ (c_Ro_join l D ty h px sa σ H.size s0 hk0) ⟨callB_of 1 hg (gw_C m_939) rfl rfl rfl (hg _ m_10) (hg _ m_936) hd_Ro_join ⟨Nat.le_of_ble_eq_true rfl, Nat.le_of_ble_eq_true rfl⟩, hg _ m_937, hg _ m_938⟩ (zz_preVW hM hS hA hN hK hP hD 25 rfl rfl) rfl rfl hl.1 rfl (lv_room (Nat.le_of_ble_eq_true rfl)) d_CL_turn_61 ⟨Nat.le_of_ble_eq_true rfl, Nat.le_of_ble_eq_true rfl⟩) hS (fun q _ h => zz_free hD hS hA q h) (zz_free hD hS hA) (fun u61 t H locs ht hvm hp hP1 hz hk1 hS => ?_)
    rw [ht] at hP1
    rw [← hp] at hv hk
    have hD : va_D A (Wc ty h u61 px) := zz_D hD rfl
    have hP := hP1
    exact B64 _ _ _ x1 u61 hv hk (lv_sub hl [0, 1] rfl) hP hD hS
  have B49 : ∀ (H : Heap) (locs : List Loc) (ls : Array Slot) (x1 : Int32) (σ : St), v = f_CL_turn_49 x1 σ → k_CL_turn_49 x1 σ → lv_has ls 2 [(0, .ref (h 0)), (1, .int x1)] → va_P D classes (Wc ty h σ px) H → va_D A (Wc ty h σ px) → va_S A s.heap H locs → W p l e (headSpec w_CL_turn rm_CL_turn).room s m args below meth c H locs 0 0 (xMQ below (Rx D classes (fun u => Wc ty h u px) A v) args s 1 6 A) (F0 m 49 ls []) := by
    intro H locs ls x1 σ hv hk hl hP hD hS
    unfold f_CL_turn_49 at hv
    unfold k_CL_turn_49 at hk
    refine lv_aload_n hx hb d_CL_turn_49 rfl (lv_at hl 0 rfl) ?_
    refine va_get (v := .ref (h 25)) (C := R_CL) (T := T_CL) (N := 11) hx hb hg in_CL hown hK hP 0 rfl rfl 7 (by decide) (hg _ m_291) (fun _ h9 => h9) rfl d_CL_turn_50 ?_
    refine lv_aload_n hx hb d_CL_turn_53 rfl (lv_at hl 0 rfl) ?_
    refine va_get (v := .ref (h 6)) (C := R_CL) (T := T_CL) (N := 11) hx hb hg in_CL hown hK hP 0 rfl rfl 1 (by decide) (hg _ m_285) (fun _ h9 => h9) rfl d_CL_turn_54 ?_
    refine lv_iload_n hx hb d_CL_turn_57 rfl (lv_at hl 1 rfl) ?_
    obtain ⟨hk0, hk⟩ := hk
    refine va_calli (va_runV (As := [.int x1]) (rest := [.ref (h 25)]) ⟨hx, hb, hml, hown, hg⟩ (c_Te_opposite l D ty h px sa σ H.size x1 hk0) ⟨callB_of 1 hg (gw_C m_1014) rfl rfl rfl (hg _ m_3) (hg _ m_1011) hd_Te_opposite ⟨Nat.le_of_ble_eq_true rfl, Nat.le_of_ble_eq_true rfl⟩, hg _ m_1012, hg _ m_1013⟩ (zz_preVW hM hS hA hN hK hP hD 6 rfl rfl) rfl rfl hl.1 rfl (lv_room (Nat.le_of_ble_eq_true rfl)) d_CL_turn_58 ⟨Nat.le_of_ble_eq_true rfl, Nat.le_of_ble_eq_true rfl⟩) hS (fun q _ h => zz_free hD hS hA q h) (zz_free hD hS hA) (fun r58 u58 t H locs ht hvm hp hP1 hz hk1 hS => ?_)
    rw [ht] at hP1
    rw [← hp] at hv hk
    have hD : va_D A (Wc ty h u58 px) := zz_D hD rfl
    have hP := hP1
    exact B61 _ _ _ x1 r58 u58 hv hk (lv_sub hl [0, 1] rfl) hP hD hS
  unfold f_CL_turn at hv
  unfold k_CL_turn at hk
  refine lv_aload_n hx hb d_CL_turn_0 rfl (lv_at hl 0 rfl) ?_
  obtain ⟨hk0, hk⟩ := hk
  refine zz_callV (va_runV (As := []) (rest := []) ⟨hx, hb, hml, hown, hg⟩ (c_CL_isShut l D ty h px sa σ  hk0) ⟨callB_of 0 hg (gw_C m_571) rfl rfl rfl (hg _ m_1) (hg _ m_568) hd_CL_isShut ⟨Nat.le_of_ble_eq_true rfl, Nat.le_of_ble_eq_true rfl⟩, hg _ m_570, hg _ ms_8⟩ (zz_preV (hM.at hS) hN hK hP 0 rfl rfl) rfl rfl hl.1 rfl (lv_room (Nat.le_of_ble_eq_true rfl)) d_CL_turn_1 ⟨Nat.le_of_ble_eq_true rfl, Nat.le_of_ble_eq_true rfl⟩) ?_
  refine lv_if_eq (tgt := 9) hx hb d_CL_turn_4 (by decide) (fun hc => ?_) (fun hc => ?_)
  · have hv := hv.trans (if_pos hc)
    have hk := hk.1 hc
    refine lv_aload_n hx hb d_CL_turn_9 rfl (lv_at hl 0 rfl) ?_
    refine va_get (v := .ref (h 6)) (C := R_CL) (T := T_CL) (N := 11) hx hb hg in_CL hown hK hP 0 rfl rfl 1 (by decide) (hg _ m_285) (fun _ h9 => h9) rfl d_CL_turn_10 ?_
    refine lv_iload_n hx hb d_CL_turn_13 rfl (lv_at hl 1 rfl) ?_
    obtain ⟨hk0, hk⟩ := hk
    refine zz_callV (va_runV (As := [.int a1]) (rest := []) ⟨hx, hb, hml, hown, hg⟩ (c_Te_has l D ty h px sa σ a1 hk0) ⟨callB_of 1 hg (gw_C m_430) rfl rfl rfl (hg _ m_3) (hg _ m_427) hd_Te_has ⟨Nat.le_of_ble_eq_true rfl, Nat.le_of_ble_eq_true rfl⟩, hg _ m_428, hg _ m_429⟩ (zz_preV (hM.at hS) hN hK hP 6 rfl rfl) rfl rfl hl.1 rfl (lv_room (Nat.le_of_ble_eq_true rfl)) d_CL_turn_14 ⟨Nat.le_of_ble_eq_true rfl, Nat.le_of_ble_eq_true rfl⟩) ?_
    refine lv_if_ne (tgt := 25) hx hb d_CL_turn_17 (by decide) (fun hc => ?_) (fun hc => ?_)
    · have hv := hv.trans (if_neg hc)
      have hk := hk.2 hc
      refine lv_aload_n hx hb d_CL_turn_25 rfl (lv_at hl 0 rfl) ?_
      refine va_get (v := .ref (h 6)) (C := R_CL) (T := T_CL) (N := 11) hx hb hg in_CL hown hK hP 0 rfl rfl 1 (by decide) (hg _ m_285) (fun _ h9 => h9) rfl d_CL_turn_26 ?_
      refine lv_iload_n hx hb d_CL_turn_29 rfl (lv_at hl 1 rfl) ?_
      obtain ⟨hk0, hk⟩ := hk
      refine zz_callV (va_runV (As := [.int a1]) (rest := []) ⟨hx, hb, hml, hown, hg⟩ (c_Te_kindOf l D ty h px sa σ a1 hk0) ⟨callB_of 1 hg (gw_C m_434) rfl rfl rfl (hg _ m_3) (hg _ m_431) hd_Te_kindOf ⟨Nat.le_of_ble_eq_true rfl, Nat.le_of_ble_eq_true rfl⟩, hg _ m_432, hg _ m_433⟩ (zz_preV (hM.at hS) hN hK hP 6 rfl rfl) rfl rfl hl.1 rfl (lv_room (Nat.le_of_ble_eq_true rfl)) d_CL_turn_30 ⟨Nat.le_of_ble_eq_true rfl, Nat.le_of_ble_eq_true rfl⟩) ?_
      refine lv_iconst (v := 5) hx hb d_CL_turn_33 (by decide) ?_
      refine lv_icmp_eq (tgt := 42) hx hb d_CL_turn_34 (by decide) (fun hc => ?_) (fun hc => ?_)
      · have hv := hv.trans (if_pos hc)
        have hk := hk.1 hc
        refine lv_aload_n hx hb d_CL_turn_42 rfl (lv_at hl 0 rfl) ?_
        refine va_get (v := .ref (h 25)) (C := R_CL) (T := T_CL) (N := 11) hx hb hg in_CL hown hK hP 0 rfl rfl 7 (by decide) (hg _ m_291) (fun _ h9 => h9) rfl d_CL_turn_43 ?_
        obtain ⟨hk0, hk⟩ := hk
        refine va_callv (va_runV (As := []) (rest := []) ⟨hx, hb, hml, hown, hg⟩ (c_Ro_wipe l D ty h px sa σ s.heap.size  hk0) ⟨callB_of 0 hg (gw_C m_935) rfl rfl rfl (hg _ m_10) (hg _ m_932) hd_Ro_wipe ⟨Nat.le_of_ble_eq_true rfl, Nat.le_of_ble_eq_true rfl⟩, hg _ m_933, hg _ m_934⟩ (zz_preVW hM hS hA hN hK hP hD 25 rfl rfl) rfl rfl hl.1 rfl (lv_room (Nat.le_of_ble_eq_true rfl)) d_CL_turn_46 ⟨Nat.le_of_ble_eq_true rfl, Nat.le_of_ble_eq_true rfl⟩) hS (fun q _ h => zz_free hD hS hA q h) (zz_free hD hS hA) (fun u46 t H locs ht hvm hp hP1 hz hk1 hS => ?_)
        rw [ht] at hP1
        rw [← hp] at hv hk
        have hD : va_D A (Wc ty h u46 px) := zz_D hD rfl
        have hP := hP1
        exact B49 _ _ _ a1 u46 hv hk (lv_sub hl [0, 1] rfl) hP hD hS
      · have hv := hv.trans (if_neg hc)
        have hk := hk.2 hc
        refine lv_aload_n hx hb d_CL_turn_37 rfl (lv_at hl 0 rfl) ?_
        obtain ⟨hk0, hk⟩ := hk
        refine x_callV (As := []) (rest := []) ⟨hx, hb, hml, hown, hg⟩ (c_CL_throwWrong l hlt D ty h px sa σ s.heap.size  hk0) ⟨callB_of 0 hg (gw_C m_774) rfl rfl rfl (hg _ m_1) (hg _ m_771) hd_CL_throwWrong ⟨Nat.le_of_ble_eq_true rfl, Nat.le_of_ble_eq_true rfl⟩, hg _ m_773, hg _ ms_24⟩ (zz_preX hM hN hX hS hA hK hP hD 0 rfl rfl) rfl hl.1 rfl (Nat.le_of_ble_eq_true rfl) d_CL_turn_38 ⟨Nat.le_of_ble_eq_true rfl, Nat.le_of_ble_eq_true rfl⟩ (fun r9 st9 t9 L9 h09 hal9 hR9 hL9 => ?_) (fun q9 st9 t9 L9 h09 h19 hal9 hR9 hL9 => ?_)
        · obtain ⟨hF9, hP9, x, rfl, hz9⟩ := hR9
          have hv := hv.trans (xb_l hz9)
          have hk := hk _ hz9
          have hS := zz_xS hS h09 hF9 (zz_free hD hS hA) hL9
          have hD : va_D A (Wc ty h (f_CL_throwWrong σ).2 px) := zz_D hD rfl
          exact B41 _ _ _ x (f_CL_throwWrong σ).2 hv hk (lv_sub hl [] rfl) hP9 hD hS
        · obtain ⟨hF9, hP9, E9, ce9, hz9, hq9, hn9, hc9⟩ := hR9
          have hv := hv.trans (xb_r hz9)
          have hS := zz_xS hS h09 hF9 (zz_free hD hS hA) hL9
          exact x_out htab hlocks (fun t ht hal => ⟨hS.F ht, by rw [ht, hv]; exact hP9, E9, ce9, by rw [hv], by rw [ht]; exact hq9, hn9, by rw [h19.findClass]; exact hc9⟩) hS.2.2 (Nat.le_of_ble_eq_true rfl) (Nat.le_of_ble_eq_true rfl)
    · have hv := hv.trans (if_pos hc)
      have hk := hk.1 hc
      refine lv_aload_n hx hb d_CL_turn_20 rfl (lv_at hl 0 rfl) ?_
      obtain ⟨hk0, hk⟩ := hk
      refine x_callV (As := []) (rest := []) ⟨hx, hb, hml, hown, hg⟩ (c_CL_throwMissing l hlt D ty h px sa σ s.heap.size  hk0) ⟨callB_of 0 hg (gw_C m_914) rfl rfl rfl (hg _ m_1) (hg _ m_911) hd_CL_throwMissing ⟨Nat.le_of_ble_eq_true rfl, Nat.le_of_ble_eq_true rfl⟩, hg _ m_913, hg _ ms_29⟩ (zz_preX hM hN hX hS hA hK hP hD 0 rfl rfl) rfl hl.1 rfl (Nat.le_of_ble_eq_true rfl) d_CL_turn_21 ⟨Nat.le_of_ble_eq_true rfl, Nat.le_of_ble_eq_true rfl⟩ (fun r9 st9 t9 L9 h09 hal9 hR9 hL9 => ?_) (fun q9 st9 t9 L9 h09 h19 hal9 hR9 hL9 => ?_)
      · obtain ⟨hF9, hP9, x, rfl, hz9⟩ := hR9
        have hv := hv.trans (xb_l hz9)
        have hk := hk _ hz9
        have hS := zz_xS hS h09 hF9 (zz_free hD hS hA) hL9
        have hD : va_D A (Wc ty h (f_CL_throwMissing σ).2 px) := zz_D hD rfl
        exact B24 _ _ _ x (f_CL_throwMissing σ).2 hv hk (lv_sub hl [] rfl) hP9 hD hS
      · obtain ⟨hF9, hP9, E9, ce9, hz9, hq9, hn9, hc9⟩ := hR9
        have hv := hv.trans (xb_r hz9)
        have hS := zz_xS hS h09 hF9 (zz_free hD hS hA) hL9
        exact x_out htab hlocks (fun t ht hal => ⟨hS.F ht, by rw [ht, hv]; exact hP9, E9, ce9, by rw [hv], by rw [ht]; exact hq9, hn9, by rw [h19.findClass]; exact hc9⟩) hS.2.2 (Nat.le_of_ble_eq_true rfl) (Nat.le_of_ble_eq_true rfl)
  · have hv := hv.trans (if_neg hc)
    have hk := hk.2 hc
    refine lv_iconst (v := -1) hx hb d_CL_turn_7 (by decide) ?_
    exact x_ret (fun o t hq => by obtain ⟨rfl, ht⟩ := hq; exact ⟨hS.F ht, by rw [ht, hv]; exact hP, _, rfl, by rw [hv]⟩) (Nat.le_of_ble_eq_true rfl) (Nat.le_of_ble_eq_true rfl) (W.iret (Qc := fun _ _ o t => o = .returned (some (.int (-1))) ∧ t.heap = s.heap) hx hb hr (fun t ht hW => ⟨rfl, ht⟩) hS.2.2 d_CL_turn_8)

-- ClauseLedger$Terms.nameOf(I)I
abbrev b_Te_nameOf : ByteArray := prog_11_method_7_code
def y_Te_nameOf : MethodName := ⟨"ClauseLedger$Terms", "nameOf", "(I)I"⟩
theorem hd_Te_nameOf : y_Te_nameOf.cls ≠ "java/lang/invoke/MethodHandle" ∧ y_Te_nameOf.cls ≠ "java/lang/invoke/VarHandle" ∧ (parseMethodDescriptor y_Te_nameOf.desc).map (fun d => d.parameters.length) = some 1 := by decide +kernel
theorem d_Te_nameOf_0 : decode b_Te_nameOf 0 = .ok (.aload_n 0, 1) := by decide +kernel
theorem d_Te_nameOf_1 : decode b_Te_nameOf 1 = .ok (.iload_n 1, 1) := by decide +kernel
theorem d_Te_nameOf_2 : decode b_Te_nameOf 2 = .ok (.invokevirtual 57, 3) := by decide +kernel
theorem d_Te_nameOf_5 : decode b_Te_nameOf 5 = .ok (.ifCond .eq 12, 3) := by decide +kernel
theorem d_Te_nameOf_8 : decode b_Te_nameOf 8 = .ok (.aload_n 0, 1) := by decide +kernel
theorem d_Te_nameOf_9 : decode b_Te_nameOf 9 = .ok (.getfield 18, 3) := by decide +kernel
theorem d_Te_nameOf_12 : decode b_Te_nameOf 12 = .ok (.iload_n 1, 1) := by decide +kernel
theorem d_Te_nameOf_13 : decode b_Te_nameOf 13 = .ok (.iaload, 1) := by decide +kernel
theorem d_Te_nameOf_14 : decode b_Te_nameOf 14 = .ok (.goto 4, 3) := by decide +kernel
theorem d_Te_nameOf_17 : decode b_Te_nameOf 17 = .ok (.iconst (-1), 1) := by decide +kernel
theorem d_Te_nameOf_18 : decode b_Te_nameOf 18 = .ok (.ireturn, 1) := by decide +kernel
def f_Te_nameOf_18 (s0 : Int32) (σ : St) : Int32 := s0
def k_Te_nameOf_18 (s0 : Int32) (σ : St) : Prop := True
def f_Te_nameOf (a1 : Int32) (σ : St) : Int32 := if (f_Te_has a1 σ) = 0 then (f_Te_nameOf_18 (-1) σ) else (f_Te_nameOf_18 (σ.1 9 a1.toNatClampNeg) σ)
def k_Te_nameOf (a1 : Int32) (σ : St) : Prop := (k_Te_has a1 σ) ∧ (((f_Te_has a1 σ) = 0 → (k_Te_nameOf_18 (-1) σ)) ∧ (¬ (f_Te_has a1 σ) = 0 → (vp_in a1 208 ∧ (k_Te_nameOf_18 (σ.1 9 a1.toNatClampNeg) σ))))
abbrev w_Te_nameOf : List Cond := Cond.code y_Te_nameOf b_Te_nameOf 2 (some .int) :: gw
abbrev rm_Te_nameOf : Room := { frames := 1, cells := 0, slots := 0, locals := 21 }
set_option maxHeartbeats 4000000 in
set_option maxRecDepth 100000 in
theorem c_Te_nameOf (l : Launch) (D : va_G) (ty : Nat → ClassId) (h : Nat → Nat) (px : va_W) (sa : Nat → Nat) (σ : St) (a1 : Int32) (hk : k_Te_nameOf a1 σ) : Met l y_Te_nameOf w_Te_nameOf rm_Te_nameOf (va_Pc [.ref (h 6), .int a1] (fun U => va_P D classes (Wc ty h σ px) U.heap ∧ va_K D classes (Ta ty) U ∧ NW U ∧ MK sa (fun _ => False) U U.heap)) (k2_QcV (.int (f_Te_nameOf a1 σ))) 0 0 (fun _ => False) := by
  refine Met.ofW (cc := b_Te_nameOf) (maxL := 2) (ret := (some .int)) (by decide) rfl ?_
  intro p e s m args below meth c s₁ B hml hv
  obtain ⟨ha, hP, hK, hN, hM⟩ := hv
  have hx := B.exec
  have hb := B.bytes
  have hr := B.returns
  have hg : ∀ w ∈ gw, w.before args s = true := fun w h9 => atoms_spec (ws := w_Te_nameOf) B.pre w (List.mem_cons_of_mem _ h9)
  have hown : s.vm.findClass "ClauseLedger$Terms" = some m.cls := findClass_of_methodNamed B.named
  have hlocks := B.notSynchronized
  have he : entryFrame m args 2 = entryFrame m ([.ref (h 6), .int a1] : List Value).toArray 2 := by rw [ha]
  rw [he, lg_entry_eq]
  have hl := lv_entry ([.ref (h 6), .int a1]) (n := 2) (Nat.le_of_ble_eq_true rfl)
  generalize (lg_sl ([.ref (h 6), .int a1]) ++ List.replicate (2 - (lg_sl ([.ref (h 6), .int a1])).length) Slot.unset).toArray = ls at hl ⊢
  have hl : lv_has ls 2 [(0, .ref (h 6)), (1, .int a1)] := hl
  generalize hv : f_Te_nameOf a1 σ = v
  replace hv := hv.symm
  have B18 : ∀ (ls : Array Slot) (s0 : Int32), v = f_Te_nameOf_18 s0 σ → k_Te_nameOf_18 s0 σ → lv_has ls 2 [] → W p l e (headSpec w_Te_nameOf rm_Te_nameOf).room s m args below meth c s.heap [] 0 0 (MQ below (k2_QcV (.int v)) args s 0 0 (fun _ => False)) (F0 m 18 ls [.int s0]) := by
    intro ls s0 hv hk hl
    unfold f_Te_nameOf_18 at hv
    unfold k_Te_nameOf_18 at hk
    exact W.iret hx hb hr (fun t ht hW => ⟨by rw [hv], ht⟩) (fun q h => nomatch h) d_Te_nameOf_18
  unfold f_Te_nameOf at hv
  unfold k_Te_nameOf at hk
  refine lv_aload_n hx hb d_Te_nameOf_0 rfl (lv_at hl 0 rfl) ?_
  refine lv_iload_n hx hb d_Te_nameOf_1 rfl (lv_at hl 1 rfl) ?_
  obtain ⟨hk0, hk⟩ := hk
  refine zz_callV (va_runV (As := [.int a1]) (rest := []) ⟨hx, hb, hml, hown, hg⟩ (c_Te_has l D ty h px sa σ a1 hk0) ⟨callB_of 1 hg (gw_C m_430) rfl rfl rfl (hg _ m_3) (hg _ m_435) hd_Te_has ⟨Nat.le_of_ble_eq_true rfl, Nat.le_of_ble_eq_true rfl⟩, hg _ m_428, hg _ m_429⟩ (zz_preV hM hN hK hP 6 rfl rfl) rfl rfl hl.1 rfl (lv_room (Nat.le_of_ble_eq_true rfl)) d_Te_nameOf_2 ⟨Nat.le_of_ble_eq_true rfl, Nat.le_of_ble_eq_true rfl⟩) ?_
  refine lv_if_eq (tgt := 17) hx hb d_Te_nameOf_5 (by decide) (fun hc => ?_) (fun hc => ?_)
  · have hv := hv.trans (if_pos hc)
    have hk := hk.1 hc
    refine lv_iconst (v := -1) hx hb d_Te_nameOf_17 (by decide) ?_
    exact B18 _ (-1) hv hk (lv_sub hl [] rfl)
  · have hv := hv.trans (if_neg hc)
    have hk := hk.2 hc
    refine lv_aload_n hx hb d_Te_nameOf_8 rfl (lv_at hl 0 rfl) ?_
    refine va_get (v := .ref (h 9)) (C := R_Te) (T := T_Te) (N := 14) hx hb hg in_Te hown hK hP 6 rfl rfl 2 (by decide) (hg _ m_71) (fun _ h9 => h9) rfl d_Te_nameOf_9 ?_
    refine lv_iload_n hx hb d_Te_nameOf_12 rfl (lv_at hl 1 rfl) ?_
    obtain ⟨hk0, hk⟩ := hk
    refine va_iald hx hb hK hP 9 0 rfl rfl hk0 d_Te_nameOf_13 ?_
    refine lv_goto (tgt := 18) hx hb d_Te_nameOf_14 (by decide) ?_
    exact B18 _ (σ.1 9 a1.toNatClampNeg) hv hk (lv_sub hl [] rfl)

-- ClauseLedger.isReplaceable(II)Z
abbrev b_CL_isReplaceable : ByteArray := prog_1_method_33_code
def y_CL_isReplaceable : MethodName := ⟨"ClauseLedger", "isReplaceable", "(II)Z"⟩
theorem hd_CL_isReplaceable : y_CL_isReplaceable.cls ≠ "java/lang/invoke/MethodHandle" ∧ y_CL_isReplaceable.cls ≠ "java/lang/invoke/VarHandle" ∧ (parseMethodDescriptor y_CL_isReplaceable.desc).map (fun d => d.parameters.length) = some 2 := by decide +kernel
theorem d_CL_isReplaceable_0 : decode b_CL_isReplaceable 0 = .ok (.aload_n 0, 1) := by decide +kernel
theorem d_CL_isReplaceable_1 : decode b_CL_isReplaceable 1 = .ok (.getfield 19, 3) := by decide +kernel
theorem d_CL_isReplaceable_4 : decode b_CL_isReplaceable 4 = .ok (.iload_n 1, 1) := by decide +kernel
theorem d_CL_isReplaceable_5 : decode b_CL_isReplaceable 5 = .ok (.invokevirtual 173, 3) := by decide +kernel
theorem d_CL_isReplaceable_8 : decode b_CL_isReplaceable 8 = .ok (.istore_n 3, 1) := by decide +kernel
theorem d_CL_isReplaceable_9 : decode b_CL_isReplaceable 9 = .ok (.iload_n 3, 1) := by decide +kernel
theorem d_CL_isReplaceable_10 : decode b_CL_isReplaceable 10 = .ok (.aload_n 0, 1) := by decide +kernel
theorem d_CL_isReplaceable_11 : decode b_CL_isReplaceable 11 = .ok (.getfield 19, 3) := by decide +kernel
theorem d_CL_isReplaceable_14 : decode b_CL_isReplaceable 14 = .ok (.iload_n 2, 1) := by decide +kernel
theorem d_CL_isReplaceable_15 : decode b_CL_isReplaceable 15 = .ok (.invokevirtual 173, 3) := by decide +kernel
theorem d_CL_isReplaceable_18 : decode b_CL_isReplaceable 18 = .ok (.if_icmp .ne 44, 3) := by decide +kernel
theorem d_CL_isReplaceable_21 : decode b_CL_isReplaceable 21 = .ok (.iload_n 3, 1) := by decide +kernel
theorem d_CL_isReplaceable_22 : decode b_CL_isReplaceable 22 = .ok (.bipush 10, 2) := by decide +kernel
theorem d_CL_isReplaceable_24 : decode b_CL_isReplaceable 24 = .ok (.if_icmp .eq 38, 3) := by decide +kernel
theorem d_CL_isReplaceable_27 : decode b_CL_isReplaceable 27 = .ok (.aload_n 0, 1) := by decide +kernel
theorem d_CL_isReplaceable_28 : decode b_CL_isReplaceable 28 = .ok (.getfield 19, 3) := by decide +kernel
theorem d_CL_isReplaceable_31 : decode b_CL_isReplaceable 31 = .ok (.iload_n 1, 1) := by decide +kernel
theorem d_CL_isReplaceable_32 : decode b_CL_isReplaceable 32 = .ok (.invokevirtual 179, 3) := by decide +kernel
theorem d_CL_isReplaceable_35 : decode b_CL_isReplaceable 35 = .ok (.iconst (-1), 1) := by decide +kernel
theorem d_CL_isReplaceable_36 : decode b_CL_isReplaceable 36 = .ok (.if_icmp .eq 26, 3) := by decide +kernel
theorem d_CL_isReplaceable_39 : decode b_CL_isReplaceable 39 = .ok (.aload_n 0, 1) := by decide +kernel
theorem d_CL_isReplaceable_40 : decode b_CL_isReplaceable 40 = .ok (.getfield 19, 3) := by decide +kernel
theorem d_CL_isReplaceable_43 : decode b_CL_isReplaceable 43 = .ok (.iload_n 1, 1) := by decide +kernel
theorem d_CL_isReplaceable_44 : decode b_CL_isReplaceable 44 = .ok (.invokevirtual 209, 3) := by decide +kernel
theorem d_CL_isReplaceable_47 : decode b_CL_isReplaceable 47 = .ok (.aload_n 0, 1) := by decide +kernel
theorem d_CL_isReplaceable_48 : decode b_CL_isReplaceable 48 = .ok (.getfield 19, 3) := by decide +kernel
theorem d_CL_isReplaceable_51 : decode b_CL_isReplaceable 51 = .ok (.iload_n 2, 1) := by decide +kernel
theorem d_CL_isReplaceable_52 : decode b_CL_isReplaceable 52 = .ok (.invokevirtual 209, 3) := by decide +kernel
theorem d_CL_isReplaceable_55 : decode b_CL_isReplaceable 55 = .ok (.if_icmp .ne 7, 3) := by decide +kernel
theorem d_CL_isReplaceable_58 : decode b_CL_isReplaceable 58 = .ok (.iconst 1, 1) := by decide +kernel
theorem d_CL_isReplaceable_59 : decode b_CL_isReplaceable 59 = .ok (.goto 4, 3) := by decide +kernel
theorem d_CL_isReplaceable_62 : decode b_CL_isReplaceable 62 = .ok (.iconst 0, 1) := by decide +kernel
theorem d_CL_isReplaceable_63 : decode b_CL_isReplaceable 63 = .ok (.ireturn, 1) := by decide +kernel
def f_CL_isReplaceable_63 (s0 : Int32) (σ : St) : Int32 := s0
def k_CL_isReplaceable_63 (s0 : Int32) (σ : St) : Prop := (narrow .boolean (.int s0) = .int s0) ∧ True
def f_CL_isReplaceable_62 (σ : St) : Int32 := f_CL_isReplaceable_63 0 σ
def k_CL_isReplaceable_62 (σ : St) : Prop := k_CL_isReplaceable_63 0 σ
def f_CL_isReplaceable_9 (x1 : Int32) (x2 : Int32) (x3 : Int32) (σ : St) : Int32 := if x3 = (f_Te_kindOf x2 σ) then (if x3 = 10 then (f_CL_isReplaceable_62 σ) else (if (f_Te_firstOf x1 σ) = (-1) then (f_CL_isReplaceable_62 σ) else (if (f_Te_nameOf x1 σ) = (f_Te_nameOf x2 σ) then (f_CL_isReplaceable_63 1 σ) else (f_CL_isReplaceable_62 σ)))) else (f_CL_isReplaceable_62 σ)
def k_CL_isReplaceable_9 (x1 : Int32) (x2 : Int32) (x3 : Int32) (σ : St) : Prop := (k_Te_kindOf x2 σ) ∧ ((x3 = (f_Te_kindOf x2 σ) → ((x3 = 10 → (k_CL_isReplaceable_62 σ)) ∧ (¬ x3 = 10 → ((k_Te_firstOf x1 σ) ∧ (((f_Te_firstOf x1 σ) = (-1) → (k_CL_isReplaceable_62 σ)) ∧ (¬ (f_Te_firstOf x1 σ) = (-1) → ((k_Te_nameOf x1 σ) ∧ ((k_Te_nameOf x2 σ) ∧ (((f_Te_nameOf x1 σ) = (f_Te_nameOf x2 σ) → (k_CL_isReplaceable_63 1 σ)) ∧ (¬ (f_Te_nameOf x1 σ) = (f_Te_nameOf x2 σ) → (k_CL_isReplaceable_62 σ))))))))))) ∧ (¬ x3 = (f_Te_kindOf x2 σ) → (k_CL_isReplaceable_62 σ)))
def f_CL_isReplaceable (a1 : Int32) (a2 : Int32) (σ : St) : Int32 := f_CL_isReplaceable_9 a1 a2 (f_Te_kindOf a1 σ) σ
def k_CL_isReplaceable (a1 : Int32) (a2 : Int32) (σ : St) : Prop := (k_Te_kindOf a1 σ) ∧ (k_CL_isReplaceable_9 a1 a2 (f_Te_kindOf a1 σ) σ)
abbrev w_CL_isReplaceable : List Cond := Cond.code y_CL_isReplaceable b_CL_isReplaceable 4 (some .boolean) :: gw
abbrev rm_CL_isReplaceable : Room := { frames := 2, cells := 0, slots := 0, locals := 42 }
set_option maxHeartbeats 4000000 in
set_option maxRecDepth 100000 in
theorem c_CL_isReplaceable (l : Launch) (D : va_G) (ty : Nat → ClassId) (h : Nat → Nat) (px : va_W) (sa : Nat → Nat) (σ : St) (a1 : Int32) (a2 : Int32) (hk : k_CL_isReplaceable a1 a2 σ) : Met l y_CL_isReplaceable w_CL_isReplaceable rm_CL_isReplaceable (va_Pc [.ref (h 0), .int a1, .int a2] (fun U => va_P D classes (Wc ty h σ px) U.heap ∧ va_K D classes (Ta ty) U ∧ NW U ∧ MK sa (fun _ => False) U U.heap)) (k2_QcV (.int (f_CL_isReplaceable a1 a2 σ))) 0 0 (fun _ => False) := by
  refine Met.ofW (cc := b_CL_isReplaceable) (maxL := 4) (ret := (some .boolean)) (by decide) rfl ?_
  intro p e s m args below meth c s₁ B hml hv
  obtain ⟨ha, hP, hK, hN, hM⟩ := hv
  have hx := B.exec
  have hb := B.bytes
  have hr := B.returns
  have hg : ∀ w ∈ gw, w.before args s = true := fun w h9 => atoms_spec (ws := w_CL_isReplaceable) B.pre w (List.mem_cons_of_mem _ h9)
  have hown : s.vm.findClass "ClauseLedger" = some m.cls := findClass_of_methodNamed B.named
  have hlocks := B.notSynchronized
  have he : entryFrame m args 4 = entryFrame m ([.ref (h 0), .int a1, .int a2] : List Value).toArray 4 := by rw [ha]
  rw [he, lg_entry_eq]
  have hl := lv_entry ([.ref (h 0), .int a1, .int a2]) (n := 4) (Nat.le_of_ble_eq_true rfl)
  generalize (lg_sl ([.ref (h 0), .int a1, .int a2]) ++ List.replicate (4 - (lg_sl ([.ref (h 0), .int a1, .int a2])).length) Slot.unset).toArray = ls at hl ⊢
  have hl : lv_has ls 4 [(0, .ref (h 0)), (1, .int a1), (2, .int a2)] := hl
  generalize hv : f_CL_isReplaceable a1 a2 σ = v
  replace hv := hv.symm
  have B63 : ∀ (ls : Array Slot) (s0 : Int32), v = f_CL_isReplaceable_63 s0 σ → k_CL_isReplaceable_63 s0 σ → lv_has ls 4 [] → W p l e (headSpec w_CL_isReplaceable rm_CL_isReplaceable).room s m args below meth c s.heap [] 0 0 (MQ below (k2_QcV (.int v)) args s 0 0 (fun _ => False)) (F0 m 63 ls [.int s0]) := by
    intro ls s0 hv hk hl
    unfold f_CL_isReplaceable_63 at hv
    unfold k_CL_isReplaceable_63 at hk
    obtain ⟨hk0, hk⟩ := hk
    exact W.zret hx hb hr hk0 (fun t ht hW => ⟨by rw [hv], ht⟩) (fun q h => nomatch h) d_CL_isReplaceable_63
  have B62 : ∀ (ls : Array Slot), v = f_CL_isReplaceable_62 σ → k_CL_isReplaceable_62 σ → lv_has ls 4 [] → W p l e (headSpec w_CL_isReplaceable rm_CL_isReplaceable).room s m args below meth c s.heap [] 0 0 (MQ below (k2_QcV (.int v)) args s 0 0 (fun _ => False)) (F0 m 62 ls []) := by
    intro ls hv hk hl
    unfold f_CL_isReplaceable_62 at hv
    unfold k_CL_isReplaceable_62 at hk
    refine lv_iconst (v := 0) hx hb d_CL_isReplaceable_62 (by decide) ?_
    exact B63 _ 0 hv hk (lv_sub hl [] rfl)
  have B9 : ∀ (ls : Array Slot) (x1 : Int32) (x2 : Int32) (x3 : Int32), v = f_CL_isReplaceable_9 x1 x2 x3 σ → k_CL_isReplaceable_9 x1 x2 x3 σ → lv_has ls 4 [(0, .ref (h 0)), (1, .int x1), (2, .int x2), (3, .int x3)] → W p l e (headSpec w_CL_isReplaceable rm_CL_isReplaceable).room s m args below meth c s.heap [] 0 0 (MQ below (k2_QcV (.int v)) args s 0 0 (fun _ => False)) (F0 m 9 ls []) := by
    intro ls x1 x2 x3 hv hk hl
    unfold f_CL_isReplaceable_9 at hv
    unfold k_CL_isReplaceable_9 at hk
    refine lv_iload_n hx hb d_CL_isReplaceable_9 rfl (lv_at hl 3 rfl) ?_
    refine lv_aload_n hx hb d_CL_isReplaceable_10 rfl (lv_at hl 0 rfl) ?_
    refine va_get (v := .ref (h 6)) (C := R_CL) (T := T_CL) (N := 11) hx hb hg in_CL hown hK hP 0 rfl rfl 1 (by decide) (hg _ m_285) (fun _ h9 => h9) rfl d_CL_isReplaceable_11 ?_
    refine lv_iload_n hx hb d_CL_isReplaceable_14 rfl (lv_at hl 2 rfl) ?_
    obtain ⟨hk0, hk⟩ := hk
    refine zz_callV (va_runV (As := [.int x2]) (rest := [.int x3]) ⟨hx, hb, hml, hown, hg⟩ (c_Te_kindOf l D ty h px sa σ x2 hk0) ⟨callB_of 1 hg (gw_C m_434) rfl rfl rfl (hg _ m_3) (hg _ m_431) hd_Te_kindOf ⟨Nat.le_of_ble_eq_true rfl, Nat.le_of_ble_eq_true rfl⟩, hg _ m_432, hg _ m_433⟩ (zz_preV hM hN hK hP 6 rfl rfl) rfl rfl hl.1 rfl (lv_room (Nat.le_of_ble_eq_true rfl)) d_CL_isReplaceable_15 ⟨Nat.le_of_ble_eq_true rfl, Nat.le_of_ble_eq_true rfl⟩) ?_
    refine lv_icmp_ne (tgt := 62) hx hb d_CL_isReplaceable_18 (by decide) (fun hc => ?_) (fun hc => ?_)
    · have hv := hv.trans (if_neg hc)
      have hk := hk.2 hc
      exact B62 _  hv hk (lv_sub hl [] rfl)
    · have hv := hv.trans (if_pos hc)
      have hk := hk.1 hc
      refine lv_iload_n hx hb d_CL_isReplaceable_21 rfl (lv_at hl 3 rfl) ?_
      refine lv_bipush (v := 10) hx hb d_CL_isReplaceable_22 (by decide) ?_
      refine lv_icmp_eq (tgt := 62) hx hb d_CL_isReplaceable_24 (by decide) (fun hc => ?_) (fun hc => ?_)
      · have hv := hv.trans (if_pos hc)
        have hk := hk.1 hc
        exact B62 _  hv hk (lv_sub hl [] rfl)
      · have hv := hv.trans (if_neg hc)
        have hk := hk.2 hc
        refine lv_aload_n hx hb d_CL_isReplaceable_27 rfl (lv_at hl 0 rfl) ?_
        refine va_get (v := .ref (h 6)) (C := R_CL) (T := T_CL) (N := 11) hx hb hg in_CL hown hK hP 0 rfl rfl 1 (by decide) (hg _ m_285) (fun _ h9 => h9) rfl d_CL_isReplaceable_28 ?_
        refine lv_iload_n hx hb d_CL_isReplaceable_31 rfl (lv_at hl 1 rfl) ?_
        obtain ⟨hk0, hk⟩ := hk
        refine zz_callV (va_runV (As := [.int x1]) (rest := []) ⟨hx, hb, hml, hown, hg⟩ (c_Te_firstOf l D ty h px sa σ x1 hk0) ⟨callB_of 1 hg (gw_C m_447) rfl rfl rfl (hg _ m_3) (hg _ m_444) hd_Te_firstOf ⟨Nat.le_of_ble_eq_true rfl, Nat.le_of_ble_eq_true rfl⟩, hg _ m_445, hg _ m_446⟩ (zz_preV hM hN hK hP 6 rfl rfl) rfl rfl hl.1 rfl (lv_room (Nat.le_of_ble_eq_true rfl)) d_CL_isReplaceable_32 ⟨Nat.le_of_ble_eq_true rfl, Nat.le_of_ble_eq_true rfl⟩) ?_
        refine lv_iconst (v := -1) hx hb d_CL_isReplaceable_35 (by decide) ?_
        refine lv_icmp_eq (tgt := 62) hx hb d_CL_isReplaceable_36 (by decide) (fun hc => ?_) (fun hc => ?_)
        · have hv := hv.trans (if_pos hc)
          have hk := hk.1 hc
          exact B62 _  hv hk (lv_sub hl [] rfl)
        · have hv := hv.trans (if_neg hc)
          have hk := hk.2 hc
          refine lv_aload_n hx hb d_CL_isReplaceable_39 rfl (lv_at hl 0 rfl) ?_
          refine va_get (v := .ref (h 6)) (C := R_CL) (T := T_CL) (N := 11) hx hb hg in_CL hown hK hP 0 rfl rfl 1 (by decide) (hg _ m_285) (fun _ h9 => h9) rfl d_CL_isReplaceable_40 ?_
          refine lv_iload_n hx hb d_CL_isReplaceable_43 rfl (lv_at hl 1 rfl) ?_
          obtain ⟨hk0, hk⟩ := hk
          refine zz_callV (va_runV (As := [.int x1]) (rest := []) ⟨hx, hb, hml, hown, hg⟩ (c_Te_nameOf l D ty h px sa σ x1 hk0) ⟨callB_of 1 hg (gw_C m_455) rfl rfl rfl (hg _ m_3) (hg _ m_452) hd_Te_nameOf ⟨Nat.le_of_ble_eq_true rfl, Nat.le_of_ble_eq_true rfl⟩, hg _ m_453, hg _ m_454⟩ (zz_preV hM hN hK hP 6 rfl rfl) rfl rfl hl.1 rfl (lv_room (Nat.le_of_ble_eq_true rfl)) d_CL_isReplaceable_44 ⟨Nat.le_of_ble_eq_true rfl, Nat.le_of_ble_eq_true rfl⟩) ?_
          refine lv_aload_n hx hb d_CL_isReplaceable_47 rfl (lv_at hl 0 rfl) ?_
          refine va_get (v := .ref (h 6)) (C := R_CL) (T := T_CL) (N := 11) hx hb hg in_CL hown hK hP 0 rfl rfl 1 (by decide) (hg _ m_285) (fun _ h9 => h9) rfl d_CL_isReplaceable_48 ?_
          refine lv_iload_n hx hb d_CL_isReplaceable_51 rfl (lv_at hl 2 rfl) ?_
          obtain ⟨hk0, hk⟩ := hk
          refine zz_callV (va_runV (As := [.int x2]) (rest := [.int (f_Te_nameOf x1 σ)]) ⟨hx, hb, hml, hown, hg⟩ (c_Te_nameOf l D ty h px sa σ x2 hk0) ⟨callB_of 1 hg (gw_C m_455) rfl rfl rfl (hg _ m_3) (hg _ m_452) hd_Te_nameOf ⟨Nat.le_of_ble_eq_true rfl, Nat.le_of_ble_eq_true rfl⟩, hg _ m_453, hg _ m_454⟩ (zz_preV hM hN hK hP 6 rfl rfl) rfl rfl hl.1 rfl (lv_room (Nat.le_of_ble_eq_true rfl)) d_CL_isReplaceable_52 ⟨Nat.le_of_ble_eq_true rfl, Nat.le_of_ble_eq_true rfl⟩) ?_
          refine lv_icmp_ne (tgt := 62) hx hb d_CL_isReplaceable_55 (by decide) (fun hc => ?_) (fun hc => ?_)
          · have hv := hv.trans (if_neg hc)
            have hk := hk.2 hc
            exact B62 _  hv hk (lv_sub hl [] rfl)
          · have hv := hv.trans (if_pos hc)
            have hk := hk.1 hc
            refine lv_iconst (v := 1) hx hb d_CL_isReplaceable_58 (by decide) ?_
            refine lv_goto (tgt := 63) hx hb d_CL_isReplaceable_59 (by decide) ?_
            exact B63 _ 1 hv hk (lv_sub hl [] rfl)
  unfold f_CL_isReplaceable at hv
  unfold k_CL_isReplaceable at hk
  refine lv_aload_n hx hb d_CL_isReplaceable_0 rfl (lv_at hl 0 rfl) ?_
  refine va_get (v := .ref (h 6)) (C := R_CL) (T := T_CL) (N := 11) hx hb hg in_CL hown hK hP 0 rfl rfl 1 (by decide) (hg _ m_285) (fun _ h9 => h9) rfl d_CL_isReplaceable_1 ?_
  refine lv_iload_n hx hb d_CL_isReplaceable_4 rfl (lv_at hl 1 rfl) ?_
  obtain ⟨hk0, hk⟩ := hk
  refine zz_callV (va_runV (As := [.int a1]) (rest := []) ⟨hx, hb, hml, hown, hg⟩ (c_Te_kindOf l D ty h px sa σ a1 hk0) ⟨callB_of 1 hg (gw_C m_434) rfl rfl rfl (hg _ m_3) (hg _ m_431) hd_Te_kindOf ⟨Nat.le_of_ble_eq_true rfl, Nat.le_of_ble_eq_true rfl⟩, hg _ m_432, hg _ m_433⟩ (zz_preV hM hN hK hP 6 rfl rfl) rfl rfl hl.1 rfl (lv_room (Nat.le_of_ble_eq_true rfl)) d_CL_isReplaceable_5 ⟨Nat.le_of_ble_eq_true rfl, Nat.le_of_ble_eq_true rfl⟩) ?_
  refine lv_istore_n (lv' := [(3, .int (f_Te_kindOf a1 σ)), (0, .ref (h 0)), (1, .int a1), (2, .int a2)]) hx hb d_CL_isReplaceable_8 rfl hl (by decide) rfl (fun ls hl => ?_)
  exact B9 _ a1 a2 (f_Te_kindOf a1 σ) hv hk (lv_sub hl [1, 2, 3, 0] rfl)

-- ClauseLedger.joinDifference(II)Z
abbrev b_CL_joinDifference : ByteArray := prog_1_method_34_code
def y_CL_joinDifference : MethodName := ⟨"ClauseLedger", "joinDifference", "(II)Z"⟩
theorem hd_CL_joinDifference : y_CL_joinDifference.cls ≠ "java/lang/invoke/MethodHandle" ∧ y_CL_joinDifference.cls ≠ "java/lang/invoke/VarHandle" ∧ (parseMethodDescriptor y_CL_joinDifference.desc).map (fun d => d.parameters.length) = some 2 := by decide +kernel
theorem d_CL_joinDifference_0 : decode b_CL_joinDifference 0 = .ok (.iload_n 1, 1) := by decide +kernel
theorem d_CL_joinDifference_1 : decode b_CL_joinDifference 1 = .ok (.iload_n 2, 1) := by decide +kernel
theorem d_CL_joinDifference_2 : decode b_CL_joinDifference 2 = .ok (.if_icmp .ne 5, 3) := by decide +kernel
theorem d_CL_joinDifference_5 : decode b_CL_joinDifference 5 = .ok (.iconst 1, 1) := by decide +kernel
theorem d_CL_joinDifference_6 : decode b_CL_joinDifference 6 = .ok (.ireturn, 1) := by decide +kernel
theorem d_CL_joinDifference_7 : decode b_CL_joinDifference 7 = .ok (.aload_n 0, 1) := by decide +kernel
theorem d_CL_joinDifference_8 : decode b_CL_joinDifference 8 = .ok (.getfield 19, 3) := by decide +kernel
theorem d_CL_joinDifference_11 : decode b_CL_joinDifference 11 = .ok (.iload_n 1, 1) := by decide +kernel
theorem d_CL_joinDifference_12 : decode b_CL_joinDifference 12 = .ok (.invokevirtual 212, 3) := by decide +kernel
theorem d_CL_joinDifference_15 : decode b_CL_joinDifference 15 = .ok (.aload_n 0, 1) := by decide +kernel
theorem d_CL_joinDifference_16 : decode b_CL_joinDifference 16 = .ok (.getfield 19, 3) := by decide +kernel
theorem d_CL_joinDifference_19 : decode b_CL_joinDifference 19 = .ok (.iload_n 2, 1) := by decide +kernel
theorem d_CL_joinDifference_20 : decode b_CL_joinDifference 20 = .ok (.invokevirtual 212, 3) := by decide +kernel
theorem d_CL_joinDifference_23 : decode b_CL_joinDifference 23 = .ok (.if_icmp .eq 5, 3) := by decide +kernel
theorem d_CL_joinDifference_26 : decode b_CL_joinDifference 26 = .ok (.iconst 0, 1) := by decide +kernel
theorem d_CL_joinDifference_27 : decode b_CL_joinDifference 27 = .ok (.ireturn, 1) := by decide +kernel
theorem d_CL_joinDifference_28 : decode b_CL_joinDifference 28 = .ok (.aload_n 0, 1) := by decide +kernel
theorem d_CL_joinDifference_29 : decode b_CL_joinDifference 29 = .ok (.getfield 65, 3) := by decide +kernel
theorem d_CL_joinDifference_32 : decode b_CL_joinDifference 32 = .ok (.aload_n 0, 1) := by decide +kernel
theorem d_CL_joinDifference_33 : decode b_CL_joinDifference 33 = .ok (.getfield 19, 3) := by decide +kernel
theorem d_CL_joinDifference_36 : decode b_CL_joinDifference 36 = .ok (.aload_n 0, 1) := by decide +kernel
theorem d_CL_joinDifference_37 : decode b_CL_joinDifference 37 = .ok (.getfield 19, 3) := by decide +kernel
theorem d_CL_joinDifference_40 : decode b_CL_joinDifference 40 = .ok (.iload_n 1, 1) := by decide +kernel
theorem d_CL_joinDifference_41 : decode b_CL_joinDifference 41 = .ok (.iload_n 2, 1) := by decide +kernel
theorem d_CL_joinDifference_42 : decode b_CL_joinDifference 42 = .ok (.invokevirtual 169, 3) := by decide +kernel
theorem d_CL_joinDifference_45 : decode b_CL_joinDifference 45 = .ok (.invokevirtual 182, 3) := by decide +kernel
theorem d_CL_joinDifference_48 : decode b_CL_joinDifference 48 = .ok (.invokevirtual 141, 3) := by decide +kernel
theorem d_CL_joinDifference_51 : decode b_CL_joinDifference 51 = .ok (.iconst 1, 1) := by decide +kernel
theorem d_CL_joinDifference_52 : decode b_CL_joinDifference 52 = .ok (.ireturn, 1) := by decide +kernel
def f_CL_joinDifference_51 (σ : St) : Int32 × St := (1, σ)
def k_CL_joinDifference_51 (σ : St) : Prop := True
def f_CL_joinDifference_48 (s0 : Int32) (σ : St) : Int32 × St := f_CL_joinDifference_51 (f_Ro_join s0 σ)
def k_CL_joinDifference_48 (s0 : Int32) (σ : St) : Prop := (k_Ro_join s0 σ) ∧ (k_CL_joinDifference_51 (f_Ro_join s0 σ))
def f_CL_joinDifference_45 (s0 : Int32) (σ : St) : Int32 × St := f_CL_joinDifference_48 ((f_Te_opposite s0 σ).1) ((f_Te_opposite s0 σ).2)
def k_CL_joinDifference_45 (s0 : Int32) (σ : St) : Prop := (k_Te_opposite s0 σ) ∧ (k_CL_joinDifference_48 ((f_Te_opposite s0 σ).1) ((f_Te_opposite s0 σ).2))
def f_CL_joinDifference (a1 : Int32) (a2 : Int32) (σ : St) : Int32 × St := if a1 = a2 then (1, σ) else (if (f_Te_sortOf a1 σ) = (f_Te_sortOf a2 σ) then (f_CL_joinDifference_45 ((f_Te_equation a1 a2 σ).1) ((f_Te_equation a1 a2 σ).2)) else (0, σ))
def k_CL_joinDifference (a1 : Int32) (a2 : Int32) (σ : St) : Prop := (a1 = a2 → True) ∧ (¬ a1 = a2 → ((k_Te_sortOf a1 σ) ∧ ((k_Te_sortOf a2 σ) ∧ (((f_Te_sortOf a1 σ) = (f_Te_sortOf a2 σ) → ((k_Te_equation a1 a2 σ) ∧ (k_CL_joinDifference_45 ((f_Te_equation a1 a2 σ).1) ((f_Te_equation a1 a2 σ).2)))) ∧ (¬ (f_Te_sortOf a1 σ) = (f_Te_sortOf a2 σ) → True)))))
abbrev w_CL_joinDifference : List Cond := Cond.code y_CL_joinDifference b_CL_joinDifference 3 (some .boolean) :: gw
abbrev rm_CL_joinDifference : Room := { frames := 4, cells := 0, slots := 0, locals := 98 }
set_option maxHeartbeats 4000000 in
set_option maxRecDepth 100000 in
theorem c_CL_joinDifference (l : Launch) (D : va_G) (ty : Nat → ClassId) (h : Nat → Nat) (px : va_W) (sa : Nat → Nat) (σ : St) (sz : Nat) (a1 : Int32) (a2 : Int32) (hk : k_CL_joinDifference a1 a2 σ) : Met l y_CL_joinDifference w_CL_joinDifference rm_CL_joinDifference (va_Pc [.ref (h 0), .int a1, .int a2] (fun U => U.heap.size = sz ∧ va_P D classes (Wc ty h σ px) U.heap ∧ va_K D classes (Ta ty) U ∧ NW U ∧ MK sa (va_A (Wc ty h σ px) sz) U U.heap ∧ va_D (fun _ => True) (Wc ty h σ px))) (va_Qi (fun r (u : St) => (r, u) = f_CL_joinDifference a1 a2 σ) (fun u t => va_P D classes (Wc ty h u px) t.heap) (va_A (Wc ty h σ px) sz)) 0 0 (va_A (Wc ty h σ px) sz) := by
  refine Met.ofW (cc := b_CL_joinDifference) (maxL := 3) (ret := (some .boolean)) (by decide) rfl ?_
  intro p e s m args below meth c s₁ B hml hv
  obtain ⟨ha, hsz, hP, hK, hN, hM, hD0⟩ := hv
  have hx := B.exec
  have hb := B.bytes
  have hr := B.returns
  have hg : ∀ w ∈ gw, w.before args s = true := fun w h9 => atoms_spec (ws := w_CL_joinDifference) B.pre w (List.mem_cons_of_mem _ h9)
  have hown : s.vm.findClass "ClauseLedger" = some m.cls := findClass_of_methodNamed B.named
  have hlocks := B.notSynchronized
  subst hsz
  have hD := hD0.self (sz := s.heap.size)
  generalize hAe : va_A (Wc ty h σ px) s.heap.size = A at hD hM ⊢
  have hA : ∀ q : Nat, s.heap.size ≤ q → A q := fun q h9 => by rw [← hAe]; exact Or.inr h9
  have hS : va_S A s.heap s.heap [] := va_S.rf
  have he : entryFrame m args 3 = entryFrame m ([.ref (h 0), .int a1, .int a2] : List Value).toArray 3 := by rw [ha]
  rw [he, lg_entry_eq]
  have hl := lv_entry ([.ref (h 0), .int a1, .int a2]) (n := 3) (Nat.le_of_ble_eq_true rfl)
  generalize (lg_sl ([.ref (h 0), .int a1, .int a2]) ++ List.replicate (3 - (lg_sl ([.ref (h 0), .int a1, .int a2])).length) Slot.unset).toArray = ls at hl ⊢
  have hl : lv_has ls 3 [(0, .ref (h 0)), (1, .int a1), (2, .int a2)] := hl
  generalize hv : f_CL_joinDifference a1 a2 σ = v
  replace hv := hv.symm
  have B51 : ∀ (H : Heap) (locs : List Loc) (ls : Array Slot) (σ : St), v = f_CL_joinDifference_51 σ → k_CL_joinDifference_51 σ → lv_has ls 3 [] → va_P D classes (Wc ty h σ px) H → va_D A (Wc ty h σ px) → va_S A s.heap H locs → W p l e (headSpec w_CL_joinDifference rm_CL_joinDifference).room s m args below meth c H locs 0 0 (MQ below (va_Qi (fun r (u : St) => (r, u) = v) (fun u t => va_P D classes (Wc ty h u px) t.heap) A) args s 0 0 A) (F0 m 51 ls []) := by
    intro H locs ls σ hv hk hl hP hD hS
    unfold f_CL_joinDifference_51 at hv
    unfold k_CL_joinDifference_51 at hk
    refine lv_iconst (v := 1) hx hb d_CL_joinDifference_51 (by decide) ?_
    exact W.zret hx hb hr rfl (fun t ht hW => ⟨⟨_, _, rfl, hv.symm, by dsimp only; rw [ht]; exact hP⟩, hS.F ht⟩) hS.2.2 d_CL_joinDifference_52
  have B48 : ∀ (H : Heap) (locs : List Loc) (ls : Array Slot) (s0 : Int32) (σ : St), v = f_CL_joinDifference_48 s0 σ → k_CL_joinDifference_48 s0 σ → lv_has ls 3 [] → va_P D classes (Wc ty h σ px) H → va_D A (Wc ty h σ px) → va_S A s.heap H locs → W p l e (headSpec w_CL_joinDifference rm_CL_joinDifference).room s m args below meth c H locs 0 0 (MQ below (va_Qi (fun r (u : St) => (r, u) = v) (fun u t => va_P D classes (Wc ty h u px) t.heap) A) args s 0 0 A) (F0 m 48 ls [.int s0, .ref (h 25)]) := by
    intro H locs ls s0 σ hv hk hl hP hD hS
    unfold f_CL_joinDifference_48 at hv
    unfold k_CL_joinDifference_48 at hk
    obtain ⟨hk0, hk⟩ := hk
    refine va_callv (va_runV (As := [.int s0]) (rest := []) ⟨hx, hb, hml, hown, hg⟩ (c_Ro_join l D ty h px sa σ H.size s0 hk0) ⟨callB_of 1 hg (gw_C m_939) rfl rfl rfl (hg _ m_10) (hg _ m_936) hd_Ro_join ⟨Nat.le_of_ble_eq_true rfl, Nat.le_of_ble_eq_true rfl⟩, hg _ m_937, hg _ m_938⟩ (zz_preVW hM hS hA hN hK hP hD 25 rfl rfl) rfl rfl hl.1 rfl (lv_room (Nat.le_of_ble_eq_true rfl)) d_CL_joinDifference_48 ⟨Nat.le_of_ble_eq_true rfl, Nat.le_of_ble_eq_true rfl⟩) hS (fun q _ h => zz_free hD hS hA q h) (zz_free hD hS hA) (fun u48 t H locs ht hvm hp hP1 hz hk1 hS => ?_)
    rw [ht] at hP1
    rw [← hp] at hv hk
    have hD : va_D A (Wc ty h u48 px) := zz_D hD rfl
    have hP := hP1
    exact B51 _ _ _  u48 hv hk (lv_sub hl [] rfl) hP hD hS
  have B45 : ∀ (H : Heap) (locs : List Loc) (ls : Array Slot) (s0 : Int32) (σ : St), v = f_CL_joinDifference_45 s0 σ → k_CL_joinDifference_45 s0 σ → lv_has ls 3 [] → va_P D classes (Wc ty h σ px) H → va_D A (Wc ty h σ px) → va_S A s.heap H locs → W p l e (headSpec w_CL_joinDifference rm_CL_joinDifference).room s m args below meth c H locs 0 0 (MQ below (va_Qi (fun r (u : St) => (r, u) = v) (fun u t => va_P D classes (Wc ty h u px) t.heap) A) args s 0 0 A) (F0 m 45 ls [.int s0, .ref (h 6), .ref (h 25)]) := by
    intro H locs ls s0 σ hv hk hl hP hD hS
    unfold f_CL_joinDifference_45 at hv
    unfold k_CL_joinDifference_45 at hk
    obtain ⟨hk0, hk⟩ := hk
    refine va_calli (va_runV (As := [.int s0]) (rest := [.ref (h 25)]) ⟨hx, hb, hml, hown, hg⟩ (c_Te_opposite l D ty h px sa σ H.size s0 hk0) ⟨callB_of 1 hg (gw_C m_1014) rfl rfl rfl (hg _ m_3) (hg _ m_1011) hd_Te_opposite ⟨Nat.le_of_ble_eq_true rfl, Nat.le_of_ble_eq_true rfl⟩, hg _ m_1012, hg _ m_1013⟩ (zz_preVW hM hS hA hN hK hP hD 6 rfl rfl) rfl rfl hl.1 rfl (lv_room (Nat.le_of_ble_eq_true rfl)) d_CL_joinDifference_45 ⟨Nat.le_of_ble_eq_true rfl, Nat.le_of_ble_eq_true rfl⟩) hS (fun q _ h => zz_free hD hS hA q h) (zz_free hD hS hA) (fun r45 u45 t H locs ht hvm hp hP1 hz hk1 hS => ?_)
    rw [ht] at hP1
    rw [← hp] at hv hk
    have hD : va_D A (Wc ty h u45 px) := zz_D hD rfl
    have hP := hP1
    exact B48 _ _ _ r45 u45 hv hk (lv_sub hl [] rfl) hP hD hS
  unfold f_CL_joinDifference at hv
  unfold k_CL_joinDifference at hk
  refine lv_iload_n hx hb d_CL_joinDifference_0 rfl (lv_at hl 1 rfl) ?_
  refine lv_iload_n hx hb d_CL_joinDifference_1 rfl (lv_at hl 2 rfl) ?_
  refine lv_icmp_ne (tgt := 7) hx hb d_CL_joinDifference_2 (by decide) (fun hc => ?_) (fun hc => ?_)
  · have hv := hv.trans (if_neg hc)
    have hk := hk.2 hc
    refine lv_aload_n hx hb d_CL_joinDifference_7 rfl (lv_at hl 0 rfl) ?_
    refine va_get (v := .ref (h 6)) (C := R_CL) (T := T_CL) (N := 11) hx hb hg in_CL hown hK hP 0 rfl rfl 1 (by decide) (hg _ m_285) (fun _ h9 => h9) rfl d_CL_joinDifference_8 ?_
    refine lv_iload_n hx hb d_CL_joinDifference_11 rfl (lv_at hl 1 rfl) ?_
    obtain ⟨hk0, hk⟩ := hk
    refine zz_callV (va_runV (As := [.int a1]) (rest := []) ⟨hx, hb, hml, hown, hg⟩ (c_Te_sortOf l D ty h px sa σ a1 hk0) ⟨callB_of 1 hg (gw_C m_439) rfl rfl rfl (hg _ m_3) (hg _ m_436) hd_Te_sortOf ⟨Nat.le_of_ble_eq_true rfl, Nat.le_of_ble_eq_true rfl⟩, hg _ m_437, hg _ m_438⟩ (zz_preV (hM.at hS) hN hK hP 6 rfl rfl) rfl rfl hl.1 rfl (lv_room (Nat.le_of_ble_eq_true rfl)) d_CL_joinDifference_12 ⟨Nat.le_of_ble_eq_true rfl, Nat.le_of_ble_eq_true rfl⟩) ?_
    refine lv_aload_n hx hb d_CL_joinDifference_15 rfl (lv_at hl 0 rfl) ?_
    refine va_get (v := .ref (h 6)) (C := R_CL) (T := T_CL) (N := 11) hx hb hg in_CL hown hK hP 0 rfl rfl 1 (by decide) (hg _ m_285) (fun _ h9 => h9) rfl d_CL_joinDifference_16 ?_
    refine lv_iload_n hx hb d_CL_joinDifference_19 rfl (lv_at hl 2 rfl) ?_
    obtain ⟨hk0, hk⟩ := hk
    refine zz_callV (va_runV (As := [.int a2]) (rest := [.int (f_Te_sortOf a1 σ)]) ⟨hx, hb, hml, hown, hg⟩ (c_Te_sortOf l D ty h px sa σ a2 hk0) ⟨callB_of 1 hg (gw_C m_439) rfl rfl rfl (hg _ m_3) (hg _ m_436) hd_Te_sortOf ⟨Nat.le_of_ble_eq_true rfl, Nat.le_of_ble_eq_true rfl⟩, hg _ m_437, hg _ m_438⟩ (zz_preV (hM.at hS) hN hK hP 6 rfl rfl) rfl rfl hl.1 rfl (lv_room (Nat.le_of_ble_eq_true rfl)) d_CL_joinDifference_20 ⟨Nat.le_of_ble_eq_true rfl, Nat.le_of_ble_eq_true rfl⟩) ?_
    refine lv_icmp_eq (tgt := 28) hx hb d_CL_joinDifference_23 (by decide) (fun hc => ?_) (fun hc => ?_)
    · have hv := hv.trans (if_pos hc)
      have hk := hk.1 hc
      refine lv_aload_n hx hb d_CL_joinDifference_28 rfl (lv_at hl 0 rfl) ?_
      refine va_get (v := .ref (h 25)) (C := R_CL) (T := T_CL) (N := 11) hx hb hg in_CL hown hK hP 0 rfl rfl 7 (by decide) (hg _ m_291) (fun _ h9 => h9) rfl d_CL_joinDifference_29 ?_
      refine lv_aload_n hx hb d_CL_joinDifference_32 rfl (lv_at hl 0 rfl) ?_
      refine va_get (v := .ref (h 6)) (C := R_CL) (T := T_CL) (N := 11) hx hb hg in_CL hown hK hP 0 rfl rfl 1 (by decide) (hg _ m_285) (fun _ h9 => h9) rfl d_CL_joinDifference_33 ?_
      refine lv_aload_n hx hb d_CL_joinDifference_36 rfl (lv_at hl 0 rfl) ?_
      refine va_get (v := .ref (h 6)) (C := R_CL) (T := T_CL) (N := 11) hx hb hg in_CL hown hK hP 0 rfl rfl 1 (by decide) (hg _ m_285) (fun _ h9 => h9) rfl d_CL_joinDifference_37 ?_
      refine lv_iload_n hx hb d_CL_joinDifference_40 rfl (lv_at hl 1 rfl) ?_
      refine lv_iload_n hx hb d_CL_joinDifference_41 rfl (lv_at hl 2 rfl) ?_
      obtain ⟨hk0, hk⟩ := hk
      refine va_calli (va_runV (As := [.int a1, .int a2]) (rest := [.ref (h 6), .ref (h 25)]) ⟨hx, hb, hml, hown, hg⟩ (c_Te_equation l D ty h px sa σ s.heap.size a1 a2 hk0) ⟨callB_of 2 hg (gw_C m_1038) rfl rfl rfl (hg _ m_3) (hg _ m_1035) hd_Te_equation ⟨Nat.le_of_ble_eq_true rfl, Nat.le_of_ble_eq_true rfl⟩, hg _ m_1036, hg _ m_1037⟩ (zz_preVW hM hS hA hN hK hP hD 6 rfl rfl) rfl rfl hl.1 rfl (lv_room (Nat.le_of_ble_eq_true rfl)) d_CL_joinDifference_42 ⟨Nat.le_of_ble_eq_true rfl, Nat.le_of_ble_eq_true rfl⟩) hS (fun q _ h => zz_free hD hS hA q h) (zz_free hD hS hA) (fun r42 u42 t H locs ht hvm hp hP1 hz hk1 hS => ?_)
      rw [ht] at hP1
      rw [← hp] at hv hk
      have hD : va_D A (Wc ty h u42 px) := zz_D hD rfl
      have hP := hP1
      exact B45 _ _ _ r42 u42 hv hk (lv_sub hl [] rfl) hP hD hS
    · have hv := hv.trans (if_neg hc)
      have hk := hk.2 hc
      refine lv_iconst (v := 0) hx hb d_CL_joinDifference_26 (by decide) ?_
      exact W.zret hx hb hr rfl (fun t ht hW => ⟨⟨_, _, rfl, hv.symm, by dsimp only; rw [ht]; exact hP⟩, hS.F ht⟩) hS.2.2 d_CL_joinDifference_27
  · have hv := hv.trans (if_pos hc)
    have hk := hk.1 hc
    refine lv_iconst (v := 1) hx hb d_CL_joinDifference_5 (by decide) ?_
    exact W.zret hx hb hr rfl (fun t ht hW => ⟨⟨_, _, rfl, hv.symm, by dsimp only; rw [ht]; exact hP⟩, hS.F ht⟩) hS.2.2 d_CL_joinDifference_6

-- ClauseLedger.replace(II)I
abbrev b_CL_replace : ByteArray := prog_1_method_14_code
def y_CL_replace : MethodName := ⟨"ClauseLedger", "replace", "(II)I"⟩
theorem hd_CL_replace : y_CL_replace.cls ≠ "java/lang/invoke/MethodHandle" ∧ y_CL_replace.cls ≠ "java/lang/invoke/VarHandle" ∧ (parseMethodDescriptor y_CL_replace.desc).map (fun d => d.parameters.length) = some 2 := by decide +kernel
theorem d_CL_replace_0 : decode b_CL_replace 0 = .ok (.aload_n 0, 1) := by decide +kernel
theorem d_CL_replace_1 : decode b_CL_replace 1 = .ok (.invokevirtual 102, 3) := by decide +kernel
theorem d_CL_replace_4 : decode b_CL_replace 4 = .ok (.ifCond .eq 5, 3) := by decide +kernel
theorem d_CL_replace_7 : decode b_CL_replace 7 = .ok (.iconst (-1), 1) := by decide +kernel
theorem d_CL_replace_8 : decode b_CL_replace 8 = .ok (.ireturn, 1) := by decide +kernel
theorem d_CL_replace_9 : decode b_CL_replace 9 = .ok (.aload_n 0, 1) := by decide +kernel
theorem d_CL_replace_10 : decode b_CL_replace 10 = .ok (.getfield 19, 3) := by decide +kernel
theorem d_CL_replace_13 : decode b_CL_replace 13 = .ok (.iload_n 1, 1) := by decide +kernel
theorem d_CL_replace_14 : decode b_CL_replace 14 = .ok (.invokevirtual 130, 3) := by decide +kernel
theorem d_CL_replace_17 : decode b_CL_replace 17 = .ok (.ifCond .eq 14, 3) := by decide +kernel
theorem d_CL_replace_20 : decode b_CL_replace 20 = .ok (.aload_n 0, 1) := by decide +kernel
theorem d_CL_replace_21 : decode b_CL_replace 21 = .ok (.getfield 19, 3) := by decide +kernel
theorem d_CL_replace_24 : decode b_CL_replace 24 = .ok (.iload_n 2, 1) := by decide +kernel
theorem d_CL_replace_25 : decode b_CL_replace 25 = .ok (.invokevirtual 130, 3) := by decide +kernel
theorem d_CL_replace_28 : decode b_CL_replace 28 = .ok (.ifCond .ne 8, 3) := by decide +kernel
theorem d_CL_replace_31 : decode b_CL_replace 31 = .ok (.aload_n 0, 1) := by decide +kernel
theorem d_CL_replace_32 : decode b_CL_replace 32 = .ok (.invokevirtual 134, 3) := by decide +kernel
theorem d_CL_replace_35 : decode b_CL_replace 35 = .ok (.ireturn, 1) := by decide +kernel
theorem d_CL_replace_36 : decode b_CL_replace 36 = .ok (.aload_n 0, 1) := by decide +kernel
theorem d_CL_replace_37 : decode b_CL_replace 37 = .ok (.getfield 65, 3) := by decide +kernel
theorem d_CL_replace_40 : decode b_CL_replace 40 = .ok (.invokevirtual 140, 3) := by decide +kernel
theorem d_CL_replace_43 : decode b_CL_replace 43 = .ok (.aload_n 0, 1) := by decide +kernel
theorem d_CL_replace_44 : decode b_CL_replace 44 = .ok (.iload_n 1, 1) := by decide +kernel
theorem d_CL_replace_45 : decode b_CL_replace 45 = .ok (.iload_n 2, 1) := by decide +kernel
theorem d_CL_replace_46 : decode b_CL_replace 46 = .ok (.invokevirtual 185, 3) := by decide +kernel
theorem d_CL_replace_49 : decode b_CL_replace 49 = .ok (.ifCond .eq 49, 3) := by decide +kernel
theorem d_CL_replace_52 : decode b_CL_replace 52 = .ok (.aload_n 0, 1) := by decide +kernel
theorem d_CL_replace_53 : decode b_CL_replace 53 = .ok (.aload_n 0, 1) := by decide +kernel
theorem d_CL_replace_54 : decode b_CL_replace 54 = .ok (.getfield 19, 3) := by decide +kernel
theorem d_CL_replace_57 : decode b_CL_replace 57 = .ok (.iload_n 1, 1) := by decide +kernel
theorem d_CL_replace_58 : decode b_CL_replace 58 = .ok (.invokevirtual 179, 3) := by decide +kernel
theorem d_CL_replace_61 : decode b_CL_replace 61 = .ok (.aload_n 0, 1) := by decide +kernel
theorem d_CL_replace_62 : decode b_CL_replace 62 = .ok (.getfield 19, 3) := by decide +kernel
theorem d_CL_replace_65 : decode b_CL_replace 65 = .ok (.iload_n 2, 1) := by decide +kernel
theorem d_CL_replace_66 : decode b_CL_replace 66 = .ok (.invokevirtual 179, 3) := by decide +kernel
theorem d_CL_replace_69 : decode b_CL_replace 69 = .ok (.invokevirtual 188, 3) := by decide +kernel
theorem d_CL_replace_72 : decode b_CL_replace 72 = .ok (.ifCond .eq 26, 3) := by decide +kernel
theorem d_CL_replace_75 : decode b_CL_replace 75 = .ok (.aload_n 0, 1) := by decide +kernel
theorem d_CL_replace_76 : decode b_CL_replace 76 = .ok (.aload_n 0, 1) := by decide +kernel
theorem d_CL_replace_77 : decode b_CL_replace 77 = .ok (.getfield 19, 3) := by decide +kernel
theorem d_CL_replace_80 : decode b_CL_replace 80 = .ok (.iload_n 1, 1) := by decide +kernel
theorem d_CL_replace_81 : decode b_CL_replace 81 = .ok (.invokevirtual 176, 3) := by decide +kernel
theorem d_CL_replace_84 : decode b_CL_replace 84 = .ok (.aload_n 0, 1) := by decide +kernel
theorem d_CL_replace_85 : decode b_CL_replace 85 = .ok (.getfield 19, 3) := by decide +kernel
theorem d_CL_replace_88 : decode b_CL_replace 88 = .ok (.iload_n 2, 1) := by decide +kernel
theorem d_CL_replace_89 : decode b_CL_replace 89 = .ok (.invokevirtual 176, 3) := by decide +kernel
theorem d_CL_replace_92 : decode b_CL_replace 92 = .ok (.invokevirtual 188, 3) := by decide +kernel
theorem d_CL_replace_95 : decode b_CL_replace 95 = .ok (.ifCond .ne 8, 3) := by decide +kernel
theorem d_CL_replace_98 : decode b_CL_replace 98 = .ok (.aload_n 0, 1) := by decide +kernel
theorem d_CL_replace_99 : decode b_CL_replace 99 = .ok (.invokevirtual 112, 3) := by decide +kernel
theorem d_CL_replace_102 : decode b_CL_replace 102 = .ok (.ireturn, 1) := by decide +kernel
theorem d_CL_replace_103 : decode b_CL_replace 103 = .ok (.aload_n 0, 1) := by decide +kernel
theorem d_CL_replace_104 : decode b_CL_replace 104 = .ok (.getfield 65, 3) := by decide +kernel
theorem d_CL_replace_107 : decode b_CL_replace 107 = .ok (.aload_n 0, 1) := by decide +kernel
theorem d_CL_replace_108 : decode b_CL_replace 108 = .ok (.getfield 19, 3) := by decide +kernel
theorem d_CL_replace_111 : decode b_CL_replace 111 = .ok (.iload_n 1, 1) := by decide +kernel
theorem d_CL_replace_112 : decode b_CL_replace 112 = .ok (.iload_n 2, 1) := by decide +kernel
theorem d_CL_replace_113 : decode b_CL_replace 113 = .ok (.invokevirtual 169, 3) := by decide +kernel
theorem d_CL_replace_116 : decode b_CL_replace 116 = .ok (.invokevirtual 141, 3) := by decide +kernel
theorem d_CL_replace_119 : decode b_CL_replace 119 = .ok (.aload_n 0, 1) := by decide +kernel
theorem d_CL_replace_120 : decode b_CL_replace 120 = .ok (.aload_n 0, 1) := by decide +kernel
theorem d_CL_replace_121 : decode b_CL_replace 121 = .ok (.getfield 72, 3) := by decide +kernel
theorem d_CL_replace_124 : decode b_CL_replace 124 = .ok (.invokevirtual 145, 3) := by decide +kernel
theorem d_CL_replace_127 : decode b_CL_replace 127 = .ok (.iconst 0, 1) := by decide +kernel
theorem d_CL_replace_128 : decode b_CL_replace 128 = .ok (.invokevirtual 148, 3) := by decide +kernel
theorem d_CL_replace_131 : decode b_CL_replace 131 = .ok (.ireturn, 1) := by decide +kernel
def f_CL_replace_35 (s0 : Int32) (σ : St) : XR := (.inl s0, σ)
def k_CL_replace_35 (s0 : Int32) (σ : St) : Prop := True
def f_CL_replace_31 (σ : St) : XR := xb (f_CL_throwMissing σ) (fun x u => f_CL_replace_35 x u)
def k_CL_replace_31 (σ : St) : Prop := (k_CL_throwMissing σ) ∧ (∀ x, (f_CL_throwMissing σ).1 = .inl x → (k_CL_replace_35 x ((f_CL_throwMissing σ).2)))
def f_CL_replace_102 (s0 : Int32) (σ : St) : XR := (.inl s0, σ)
def k_CL_replace_102 (s0 : Int32) (σ : St) : Prop := True
def f_CL_replace_98 (σ : St) : XR := xb (f_CL_throwWrong σ) (fun x u => f_CL_replace_102 x u)
def k_CL_replace_98 (σ : St) : Prop := (k_CL_throwWrong σ) ∧ (∀ x, (f_CL_throwWrong σ).1 = .inl x → (k_CL_replace_102 x ((f_CL_throwWrong σ).2)))
def f_CL_replace_131 (s0 : Int32) (σ : St) : XR := (.inl s0, σ)
def k_CL_replace_131 (s0 : Int32) (σ : St) : Prop := True
def f_CL_replace_119 (σ : St) : XR := xb (f_CL_enterRow (f_Sc_innermost σ) 0 σ) (fun x u => f_CL_replace_131 x u)
def k_CL_replace_119 (σ : St) : Prop := (k_Sc_innermost σ) ∧ ((k_CL_enterRow (f_Sc_innermost σ) 0 σ) ∧ (∀ x, (f_CL_enterRow (f_Sc_innermost σ) 0 σ).1 = .inl x → (k_CL_replace_131 x ((f_CL_enterRow (f_Sc_innermost σ) 0 σ).2))))
def f_CL_replace_116 (s0 : Int32) (σ : St) : XR := f_CL_replace_119 (f_Ro_join s0 σ)
def k_CL_replace_116 (s0 : Int32) (σ : St) : Prop := (k_Ro_join s0 σ) ∧ (k_CL_replace_119 (f_Ro_join s0 σ))
def f_CL_replace_95 (x1 : Int32) (x2 : Int32) (s0 : Int32) (σ : St) : XR := if s0 = 0 then (f_CL_replace_98 σ) else (f_CL_replace_116 ((f_Te_equation x1 x2 σ).1) ((f_Te_equation x1 x2 σ).2))
def k_CL_replace_95 (x1 : Int32) (x2 : Int32) (s0 : Int32) (σ : St) : Prop := (s0 = 0 → (k_CL_replace_98 σ)) ∧ (¬ s0 = 0 → ((k_Te_equation x1 x2 σ) ∧ (k_CL_replace_116 ((f_Te_equation x1 x2 σ).1) ((f_Te_equation x1 x2 σ).2))))
def f_CL_replace_72 (x1 : Int32) (x2 : Int32) (s0 : Int32) (σ : St) : XR := if s0 = 0 then (f_CL_replace_98 σ) else (f_CL_replace_95 x1 x2 ((f_CL_joinDifference (f_Te_secondOf x1 σ) (f_Te_secondOf x2 σ) σ).1) ((f_CL_joinDifference (f_Te_secondOf x1 σ) (f_Te_secondOf x2 σ) σ).2))
def k_CL_replace_72 (x1 : Int32) (x2 : Int32) (s0 : Int32) (σ : St) : Prop := (s0 = 0 → (k_CL_replace_98 σ)) ∧ (¬ s0 = 0 → ((k_Te_secondOf x1 σ) ∧ ((k_Te_secondOf x2 σ) ∧ ((k_CL_joinDifference (f_Te_secondOf x1 σ) (f_Te_secondOf x2 σ) σ) ∧ (k_CL_replace_95 x1 x2 ((f_CL_joinDifference (f_Te_secondOf x1 σ) (f_Te_secondOf x2 σ) σ).1) ((f_CL_joinDifference (f_Te_secondOf x1 σ) (f_Te_secondOf x2 σ) σ).2))))))
def f_CL_replace_43 (x1 : Int32) (x2 : Int32) (σ : St) : XR := if (f_CL_isReplaceable x1 x2 σ) = 0 then (f_CL_replace_98 σ) else (f_CL_replace_72 x1 x2 ((f_CL_joinDifference (f_Te_firstOf x1 σ) (f_Te_firstOf x2 σ) σ).1) ((f_CL_joinDifference (f_Te_firstOf x1 σ) (f_Te_firstOf x2 σ) σ).2))
def k_CL_replace_43 (x1 : Int32) (x2 : Int32) (σ : St) : Prop := (k_CL_isReplaceable x1 x2 σ) ∧ (((f_CL_isReplaceable x1 x2 σ) = 0 → (k_CL_replace_98 σ)) ∧ (¬ (f_CL_isReplaceable x1 x2 σ) = 0 → ((k_Te_firstOf x1 σ) ∧ ((k_Te_firstOf x2 σ) ∧ ((k_CL_joinDifference (f_Te_firstOf x1 σ) (f_Te_firstOf x2 σ) σ) ∧ (k_CL_replace_72 x1 x2 ((f_CL_joinDifference (f_Te_firstOf x1 σ) (f_Te_firstOf x2 σ) σ).1) ((f_CL_joinDifference (f_Te_firstOf x1 σ) (f_Te_firstOf x2 σ) σ).2)))))))
def f_CL_replace (a1 : Int32) (a2 : Int32) (σ : St) : XR := if (f_CL_isShut σ) = 0 then (if (f_Te_has a1 σ) = 0 then (f_CL_replace_31 σ) else (if (f_Te_has a2 σ) = 0 then (f_CL_replace_31 σ) else (f_CL_replace_43 a1 a2 (f_Ro_wipe σ)))) else (.inl (-1), σ)
def k_CL_replace (a1 : Int32) (a2 : Int32) (σ : St) : Prop := (k_CL_isShut σ) ∧ (((f_CL_isShut σ) = 0 → ((k_Te_has a1 σ) ∧ (((f_Te_has a1 σ) = 0 → (k_CL_replace_31 σ)) ∧ (¬ (f_Te_has a1 σ) = 0 → ((k_Te_has a2 σ) ∧ (((f_Te_has a2 σ) = 0 → (k_CL_replace_31 σ)) ∧ (¬ (f_Te_has a2 σ) = 0 → ((k_Ro_wipe σ) ∧ (k_CL_replace_43 a1 a2 (f_Ro_wipe σ)))))))))) ∧ (¬ (f_CL_isShut σ) = 0 → True))
abbrev w_CL_replace : List Cond := Cond.code y_CL_replace b_CL_replace 3 (some .int) :: gw
abbrev rm_CL_replace : Room := { frames := 8, cells := 1, slots := 6, locals := 142 }
set_option maxHeartbeats 4000000 in
set_option maxRecDepth 100000 in
theorem c_CL_replace (l : Launch) (hlt : l.stackTraces = false) (D : va_G) (ty : Nat → ClassId) (h : Nat → Nat) (px : va_W) (sa : Nat → Nat) (σ : St) (sz : Nat) (a1 : Int32) (a2 : Int32) (hk : k_CL_replace a1 a2 σ) : xMet l y_CL_replace w_CL_replace rm_CL_replace (va_Pc [.ref (h 0), .int a1, .int a2] (fun U => U.heap.size = sz ∧ va_P D classes (Wc ty h σ px) U.heap ∧ va_K D classes (Ta ty) U ∧ NW U ∧ XK sa (va_A (Wc ty h σ px) sz) U U.heap ∧ MK sa (va_A (Wc ty h σ px) sz) U U.heap ∧ va_D (fun _ => True) (Wc ty h σ px))) (Rx D classes (fun u => Wc ty h u px) (va_A (Wc ty h σ px) sz) (f_CL_replace a1 a2 σ)) 1 6 (va_A (Wc ty h σ px) sz) := by
  refine xMet.ofW (cc := b_CL_replace) (maxL := 3) (ret := (some .int)) (by decide) rfl ?_
  intro p e s m args below meth c s₁ B hml htab hv
  obtain ⟨ha, hsz, hP, hK, hN, hX, hM, hD0⟩ := hv
  have hx := B.exec
  have hb := B.bytes
  have hr := B.returns
  have hg : ∀ w ∈ gw, w.before args s = true := fun w h9 => atoms_spec (ws := w_CL_replace) B.pre w (List.mem_cons_of_mem _ h9)
  have hown : s.vm.findClass "ClauseLedger" = some m.cls := findClass_of_methodNamed B.named
  have hlocks := B.notSynchronized
  subst hsz
  have hD := hD0.self (sz := s.heap.size)
  generalize hAe : va_A (Wc ty h σ px) s.heap.size = A at hD hM hX ⊢
  have hA : ∀ q : Nat, s.heap.size ≤ q → A q := fun q h9 => by rw [← hAe]; exact Or.inr h9
  have hS : va_S A s.heap s.heap [] := va_S.rf
  have he : entryFrame m args 3 = entryFrame m ([.ref (h 0), .int a1, .int a2] : List Value).toArray 3 := by rw [ha]
  rw [he, lg_entry_eq]
  have hl := lv_entry ([.ref (h 0), .int a1, .int a2]) (n := 3) (Nat.le_of_ble_eq_true rfl)
  generalize (lg_sl ([.ref (h 0), .int a1, .int a2]) ++ List.replicate (3 - (lg_sl ([.ref (h 0), .int a1, .int a2])).length) Slot.unset).toArray = ls at hl ⊢
  have hl : lv_has ls 3 [(0, .ref (h 0)), (1, .int a1), (2, .int a2)] := hl
  generalize hv : f_CL_replace a1 a2 σ = v
  replace hv := hv.symm
  have B35 : ∀ (H : Heap) (locs : List Loc) (ls : Array Slot) (s0 : Int32) (σ : St), v = f_CL_replace_35 s0 σ → k_CL_replace_35 s0 σ → lv_has ls 3 [] → va_P D classes (Wc ty h σ px) H → va_D A (Wc ty h σ px) → va_S A s.heap H locs → W p l e (headSpec w_CL_replace rm_CL_replace).room s m args below meth c H locs 1 6 (xMQ below (Rx D classes (fun u => Wc ty h u px) A v) args s 1 6 A) (F0 m 35 ls [.int s0]) := by
    intro H locs ls s0 σ hv hk hl hP hD hS
    unfold f_CL_replace_35 at hv
    unfold k_CL_replace_35 at hk
    exact x_ret (fun o t hq => by obtain ⟨rfl, ht⟩ := hq; exact ⟨hS.F ht, by rw [ht, hv]; exact hP, _, rfl, by rw [hv]⟩) (Nat.le_of_ble_eq_true rfl) (Nat.le_of_ble_eq_true rfl) (W.iret (Qc := fun _ _ o t => o = .returned (some (.int s0)) ∧ t.heap = H) hx hb hr (fun t ht hW => ⟨rfl, ht⟩) hS.2.2 d_CL_replace_35)
  have B31 : ∀ (H : Heap) (locs : List Loc) (ls : Array Slot) (σ : St), v = f_CL_replace_31 σ → k_CL_replace_31 σ → lv_has ls 3 [(0, .ref (h 0))] → va_P D classes (Wc ty h σ px) H → va_D A (Wc ty h σ px) → va_S A s.heap H locs → W p l e (headSpec w_CL_replace rm_CL_replace).room s m args below meth c H locs 0 0 (xMQ below (Rx D classes (fun u => Wc ty h u px) A v) args s 1 6 A) (F0 m 31 ls []) := by
    intro H locs ls σ hv hk hl hP hD hS
    unfold f_CL_replace_31 at hv
    unfold k_CL_replace_31 at hk
    refine lv_aload_n hx hb d_CL_replace_31 rfl (lv_at hl 0 rfl) ?_
    obtain ⟨hk0, hk⟩ := hk
    refine x_callV (As := []) (rest := []) ⟨hx, hb, hml, hown, hg⟩ (c_CL_throwMissing l hlt D ty h px sa σ H.size  hk0) ⟨callB_of 0 hg (gw_C m_914) rfl rfl rfl (hg _ m_1) (hg _ m_911) hd_CL_throwMissing ⟨Nat.le_of_ble_eq_true rfl, Nat.le_of_ble_eq_true rfl⟩, hg _ m_913, hg _ ms_29⟩ (zz_preX hM hN hX hS hA hK hP hD 0 rfl rfl) rfl hl.1 rfl (Nat.le_of_ble_eq_true rfl) d_CL_replace_32 ⟨Nat.le_of_ble_eq_true rfl, Nat.le_of_ble_eq_true rfl⟩ (fun r9 st9 t9 L9 h09 hal9 hR9 hL9 => ?_) (fun q9 st9 t9 L9 h09 h19 hal9 hR9 hL9 => ?_)
    · obtain ⟨hF9, hP9, x, rfl, hz9⟩ := hR9
      have hv := hv.trans (xb_l hz9)
      have hk := hk _ hz9
      have hS := zz_xS hS h09 hF9 (zz_free hD hS hA) hL9
      have hD : va_D A (Wc ty h (f_CL_throwMissing σ).2 px) := zz_D hD rfl
      exact B35 _ _ _ x (f_CL_throwMissing σ).2 hv hk (lv_sub hl [] rfl) hP9 hD hS
    · obtain ⟨hF9, hP9, E9, ce9, hz9, hq9, hn9, hc9⟩ := hR9
      have hv := hv.trans (xb_r hz9)
      have hS := zz_xS hS h09 hF9 (zz_free hD hS hA) hL9
      exact x_out htab hlocks (fun t ht hal => ⟨hS.F ht, by rw [ht, hv]; exact hP9, E9, ce9, by rw [hv], by rw [ht]; exact hq9, hn9, by rw [h19.findClass]; exact hc9⟩) hS.2.2 (Nat.le_of_ble_eq_true rfl) (Nat.le_of_ble_eq_true rfl)
  have B102 : ∀ (H : Heap) (locs : List Loc) (ls : Array Slot) (s0 : Int32) (σ : St), v = f_CL_replace_102 s0 σ → k_CL_replace_102 s0 σ → lv_has ls 3 [] → va_P D classes (Wc ty h σ px) H → va_D A (Wc ty h σ px) → va_S A s.heap H locs → W p l e (headSpec w_CL_replace rm_CL_replace).room s m args below meth c H locs 1 6 (xMQ below (Rx D classes (fun u => Wc ty h u px) A v) args s 1 6 A) (F0 m 102 ls [.int s0]) := by
    intro H locs ls s0 σ hv hk hl hP hD hS
    unfold f_CL_replace_102 at hv
    unfold k_CL_replace_102 at hk
    exact x_ret (fun o t hq => by obtain ⟨rfl, ht⟩ := hq; exact ⟨hS.F ht, by rw [ht, hv]; exact hP, _, rfl, by rw [hv]⟩) (Nat.le_of_ble_eq_true rfl) (Nat.le_of_ble_eq_true rfl) (W.iret (Qc := fun _ _ o t => o = .returned (some (.int s0)) ∧ t.heap = H) hx hb hr (fun t ht hW => ⟨rfl, ht⟩) hS.2.2 d_CL_replace_102)
  have B98 : ∀ (H : Heap) (locs : List Loc) (ls : Array Slot) (σ : St), v = f_CL_replace_98 σ → k_CL_replace_98 σ → lv_has ls 3 [(0, .ref (h 0))] → va_P D classes (Wc ty h σ px) H → va_D A (Wc ty h σ px) → va_S A s.heap H locs → W p l e (headSpec w_CL_replace rm_CL_replace).room s m args below meth c H locs 0 0 (xMQ below (Rx D classes (fun u => Wc ty h u px) A v) args s 1 6 A) (F0 m 98 ls []) := by
    intro H locs ls σ hv hk hl hP hD hS
    unfold f_CL_replace_98 at hv
    unfold k_CL_replace_98 at hk
    refine lv_aload_n hx hb d_CL_replace_98 rfl (lv_at hl 0 rfl) ?_
    obtain ⟨hk0, hk⟩ := hk
    refine x_callV (As := []) (rest := []) ⟨hx, hb, hml, hown, hg⟩ (c_CL_throwWrong l hlt D ty h px sa σ H.size  hk0) ⟨callB_of 0 hg (gw_C m_774) rfl rfl rfl (hg _ m_1) (hg _ m_771) hd_CL_throwWrong ⟨Nat.le_of_ble_eq_true rfl, Nat.le_of_ble_eq_true rfl⟩, hg _ m_773, hg _ ms_24⟩ (zz_preX hM hN hX hS hA hK hP hD 0 rfl rfl) rfl hl.1 rfl (Nat.le_of_ble_eq_true rfl) d_CL_replace_99 ⟨Nat.le_of_ble_eq_true rfl, Nat.le_of_ble_eq_true rfl⟩ (fun r9 st9 t9 L9 h09 hal9 hR9 hL9 => ?_) (fun q9 st9 t9 L9 h09 h19 hal9 hR9 hL9 => ?_)
    · obtain ⟨hF9, hP9, x, rfl, hz9⟩ := hR9
      have hv := hv.trans (xb_l hz9)
      have hk := hk _ hz9
      have hS := zz_xS hS h09 hF9 (zz_free hD hS hA) hL9
      have hD : va_D A (Wc ty h (f_CL_throwWrong σ).2 px) := zz_D hD rfl
      exact B102 _ _ _ x (f_CL_throwWrong σ).2 hv hk (lv_sub hl [] rfl) hP9 hD hS
    · obtain ⟨hF9, hP9, E9, ce9, hz9, hq9, hn9, hc9⟩ := hR9
      have hv := hv.trans (xb_r hz9)
      have hS := zz_xS hS h09 hF9 (zz_free hD hS hA) hL9
      exact x_out htab hlocks (fun t ht hal => ⟨hS.F ht, by rw [ht, hv]; exact hP9, E9, ce9, by rw [hv], by rw [ht]; exact hq9, hn9, by rw [h19.findClass]; exact hc9⟩) hS.2.2 (Nat.le_of_ble_eq_true rfl) (Nat.le_of_ble_eq_true rfl)
  have B131 : ∀ (H : Heap) (locs : List Loc) (ls : Array Slot) (s0 : Int32) (σ : St), v = f_CL_replace_131 s0 σ → k_CL_replace_131 s0 σ → lv_has ls 3 [] → va_P D classes (Wc ty h σ px) H → va_D A (Wc ty h σ px) → va_S A s.heap H locs → W p l e (headSpec w_CL_replace rm_CL_replace).room s m args below meth c H locs 1 6 (xMQ below (Rx D classes (fun u => Wc ty h u px) A v) args s 1 6 A) (F0 m 131 ls [.int s0]) := by
    intro H locs ls s0 σ hv hk hl hP hD hS
    unfold f_CL_replace_131 at hv
    unfold k_CL_replace_131 at hk
    exact x_ret (fun o t hq => by obtain ⟨rfl, ht⟩ := hq; exact ⟨hS.F ht, by rw [ht, hv]; exact hP, _, rfl, by rw [hv]⟩) (Nat.le_of_ble_eq_true rfl) (Nat.le_of_ble_eq_true rfl) (W.iret (Qc := fun _ _ o t => o = .returned (some (.int s0)) ∧ t.heap = H) hx hb hr (fun t ht hW => ⟨rfl, ht⟩) hS.2.2 d_CL_replace_131)
  have B119 : ∀ (H : Heap) (locs : List Loc) (ls : Array Slot) (σ : St), v = f_CL_replace_119 σ → k_CL_replace_119 σ → lv_has ls 3 [(0, .ref (h 0))] → va_P D classes (Wc ty h σ px) H → va_D A (Wc ty h σ px) → va_S A s.heap H locs → W p l e (headSpec w_CL_replace rm_CL_replace).room s m args below meth c H locs 0 0 (xMQ below (Rx D classes (fun u => Wc ty h u px) A v) args s 1 6 A) (F0 m 119 ls []) := by
    intro H locs ls σ hv hk hl hP hD hS
    unfold f_CL_replace_119 at hv
    unfold k_CL_replace_119 at hk
    refine lv_aload_n hx hb d_CL_replace_119 rfl (lv_at hl 0 rfl) ?_
    refine lv_aload_n hx hb d_CL_replace_120 rfl (lv_at hl 0 rfl) ?_
    refine va_get (v := .ref (h 27)) (C := R_CL) (T := T_CL) (N := 11) hx hb hg in_CL hown hK hP 0 rfl rfl 8 (by decide) (hg _ m_292) (fun _ h9 => h9) rfl d_CL_replace_121 ?_
    obtain ⟨hk0, hk⟩ := hk
    refine zz_callV (va_runV (As := []) (rest := [.ref (h 0)]) ⟨hx, hb, hml, hown, hg⟩ (c_Sc_innermost l D ty h px sa σ  hk0) ⟨callB_of 0 hg (gw_C m_943) rfl rfl rfl (hg _ m_11) (hg _ m_940) hd_Sc_innermost ⟨Nat.le_of_ble_eq_true rfl, Nat.le_of_ble_eq_true rfl⟩, hg _ m_941, hg _ m_942⟩ (zz_preV (hM.at hS) hN hK hP 27 rfl rfl) rfl rfl hl.1 rfl (lv_room (Nat.le_of_ble_eq_true rfl)) d_CL_replace_124 ⟨Nat.le_of_ble_eq_true rfl, Nat.le_of_ble_eq_true rfl⟩) ?_
    refine lv_iconst (v := 0) hx hb d_CL_replace_127 (by decide) ?_
    obtain ⟨hk0, hk⟩ := hk
    refine x_callV (As := [.int (f_Sc_innermost σ), .int 0]) (rest := []) ⟨hx, hb, hml, hown, hg⟩ (c_CL_enterRow l hlt D ty h px sa σ H.size (f_Sc_innermost σ) 0 hk0) ⟨callB_of 2 hg (gw_C m_947) rfl rfl rfl (hg _ m_1) (hg _ m_944) hd_CL_enterRow ⟨Nat.le_of_ble_eq_true rfl, Nat.le_of_ble_eq_true rfl⟩, hg _ m_946, hg _ ms_30⟩ (zz_preX hM hN hX hS hA hK hP hD 0 rfl rfl) rfl hl.1 rfl (Nat.le_of_ble_eq_true rfl) d_CL_replace_128 ⟨Nat.le_of_ble_eq_true rfl, Nat.le_of_ble_eq_true rfl⟩ (fun r9 st9 t9 L9 h09 hal9 hR9 hL9 => ?_) (fun q9 st9 t9 L9 h09 h19 hal9 hR9 hL9 => ?_)
    · obtain ⟨hF9, hP9, x, rfl, hz9⟩ := hR9
      have hv := hv.trans (xb_l hz9)
      have hk := hk _ hz9
      have hS := zz_xS hS h09 hF9 (zz_free hD hS hA) hL9
      have hD : va_D A (Wc ty h (f_CL_enterRow (f_Sc_innermost σ) 0 σ).2 px) := zz_D hD rfl
      exact B131 _ _ _ x (f_CL_enterRow (f_Sc_innermost σ) 0 σ).2 hv hk (lv_sub hl [] rfl) hP9 hD hS
    · obtain ⟨hF9, hP9, E9, ce9, hz9, hq9, hn9, hc9⟩ := hR9
      have hv := hv.trans (xb_r hz9)
      have hS := zz_xS hS h09 hF9 (zz_free hD hS hA) hL9
      exact x_out htab hlocks (fun t ht hal => ⟨hS.F ht, by rw [ht, hv]; exact hP9, E9, ce9, by rw [hv], by rw [ht]; exact hq9, hn9, by rw [h19.findClass]; exact hc9⟩) hS.2.2 (Nat.le_of_ble_eq_true rfl) (Nat.le_of_ble_eq_true rfl)
  have B116 : ∀ (H : Heap) (locs : List Loc) (ls : Array Slot) (s0 : Int32) (σ : St), v = f_CL_replace_116 s0 σ → k_CL_replace_116 s0 σ → lv_has ls 3 [(0, .ref (h 0))] → va_P D classes (Wc ty h σ px) H → va_D A (Wc ty h σ px) → va_S A s.heap H locs → W p l e (headSpec w_CL_replace rm_CL_replace).room s m args below meth c H locs 0 0 (xMQ below (Rx D classes (fun u => Wc ty h u px) A v) args s 1 6 A) (F0 m 116 ls [.int s0, .ref (h 25)]) := by
    intro H locs ls s0 σ hv hk hl hP hD hS
    unfold f_CL_replace_116 at hv
    unfold k_CL_replace_116 at hk
    obtain ⟨hk0, hk⟩ := hk
    refine va_callv (va_runV (As := [.int s0]) (rest := []) ⟨hx, hb, hml, hown, hg⟩ (c_Ro_join l D ty h px sa σ H.size s0 hk0) ⟨callB_of 1 hg (gw_C m_939) rfl rfl rfl (hg _ m_10) (hg _ m_936) hd_Ro_join ⟨Nat.le_of_ble_eq_true rfl, Nat.le_of_ble_eq_true rfl⟩, hg _ m_937, hg _ m_938⟩ (zz_preVW hM hS hA hN hK hP hD 25 rfl rfl) rfl rfl hl.1 rfl (lv_room (Nat.le_of_ble_eq_true rfl)) d_CL_replace_116 ⟨Nat.le_of_ble_eq_true rfl, Nat.le_of_ble_eq_true rfl⟩) hS (fun q _ h => zz_free hD hS hA q h) (zz_free hD hS hA) (fun u116 t H locs ht hvm hp hP1 hz hk1 hS => ?_)
    rw [ht] at hP1
    rw [← hp] at hv hk
    have hD : va_D A (Wc ty h u116 px) := zz_D hD rfl
    have hP := hP1
    exact B119 _ _ _  u116 hv hk (lv_sub hl [0] rfl) hP hD hS
  have B95 : ∀ (H : Heap) (locs : List Loc) (ls : Array Slot) (x1 : Int32) (x2 : Int32) (s0 : Int32) (σ : St), v = f_CL_replace_95 x1 x2 s0 σ → k_CL_replace_95 x1 x2 s0 σ → lv_has ls 3 [(0, .ref (h 0)), (1, .int x1), (2, .int x2)] → va_P D classes (Wc ty h σ px) H → va_D A (Wc ty h σ px) → va_S A s.heap H locs → W p l e (headSpec w_CL_replace rm_CL_replace).room s m args below meth c H locs 0 0 (xMQ below (Rx D classes (fun u => Wc ty h u px) A v) args s 1 6 A) (F0 m 95 ls [.int s0]) := by
    intro H locs ls x1 x2 s0 σ hv hk hl hP hD hS
    unfold f_CL_replace_95 at hv
    unfold k_CL_replace_95 at hk
    refine lv_if_ne (tgt := 103) hx hb d_CL_replace_95 (by decide) (fun hc => ?_) (fun hc => ?_)
    · have hv := hv.trans (if_neg hc)
      have hk := hk.2 hc
      refine lv_aload_n hx hb d_CL_replace_103 rfl (lv_at hl 0 rfl) ?_
      refine va_get (v := .ref (h 25)) (C := R_CL) (T := T_CL) (N := 11) hx hb hg in_CL hown hK hP 0 rfl rfl 7 (by decide) (hg _ m_291) (fun _ h9 => h9) rfl d_CL_replace_104 ?_
      refine lv_aload_n hx hb d_CL_replace_107 rfl (lv_at hl 0 rfl) ?_
      refine va_get (v := .ref (h 6)) (C := R_CL) (T := T_CL) (N := 11) hx hb hg in_CL hown hK hP 0 rfl rfl 1 (by decide) (hg _ m_285) (fun _ h9 => h9) rfl d_CL_replace_108 ?_
      refine lv_iload_n hx hb d_CL_replace_111 rfl (lv_at hl 1 rfl) ?_
      refine lv_iload_n hx hb d_CL_replace_112 rfl (lv_at hl 2 rfl) ?_
      obtain ⟨hk0, hk⟩ := hk
      refine va_calli (va_runV (As := [.int x1, .int x2]) (rest := [.ref (h 25)]) ⟨hx, hb, hml, hown, hg⟩ (c_Te_equation l D ty h px sa σ H.size x1 x2 hk0) ⟨callB_of 2 hg (gw_C m_1038) rfl rfl rfl (hg _ m_3) (hg _ m_1035) hd_Te_equation ⟨Nat.le_of_ble_eq_true rfl, Nat.le_of_ble_eq_true rfl⟩, hg _ m_1036, hg _ m_1037⟩ (zz_preVW hM hS hA hN hK hP hD 6 rfl rfl) rfl rfl hl.1 rfl (lv_room (Nat.le_of_ble_eq_true rfl)) d_CL_replace_113 ⟨Nat.le_of_ble_eq_true rfl, Nat.le_of_ble_eq_true rfl⟩) hS (fun q _ h => zz_free hD hS hA q h) (zz_free hD hS hA) (fun r113 u113 t H locs ht hvm hp hP1 hz hk1 hS => ?_)
      rw [ht] at hP1
      rw [← hp] at hv hk
      have hD : va_D A (Wc ty h u113 px) := zz_D hD rfl
      have hP := hP1
      exact B116 _ _ _ r113 u113 hv hk (lv_sub hl [0] rfl) hP hD hS
    · have hv := hv.trans (if_pos hc)
      have hk := hk.1 hc
      exact B98 _ _ _  σ hv hk (lv_sub hl [0] rfl) hP hD hS
  have B72 : ∀ (H : Heap) (locs : List Loc) (ls : Array Slot) (x1 : Int32) (x2 : Int32) (s0 : Int32) (σ : St), v = f_CL_replace_72 x1 x2 s0 σ → k_CL_replace_72 x1 x2 s0 σ → lv_has ls 3 [(0, .ref (h 0)), (1, .int x1), (2, .int x2)] → va_P D classes (Wc ty h σ px) H → va_D A (Wc ty h σ px) → va_S A s.heap H locs → W p l e (headSpec w_CL_replace rm_CL_replace).room s m args below meth c H locs 0 0 (xMQ below (Rx D classes (fun u => Wc ty h u px) A v) args s 1 6 A) (F0 m 72 ls [.int s0]) := by
    intro H locs ls x1 x2 s0 σ hv hk hl hP hD hS
    unfold f_CL_replace_72 at hv
    unfold k_CL_replace_72 at hk
    refine lv_if_eq (tgt := 98) hx hb d_CL_replace_72 (by decide) (fun hc => ?_) (fun hc => ?_)
    · have hv := hv.trans (if_pos hc)
      have hk := hk.1 hc
      exact B98 _ _ _  σ hv hk (lv_sub hl [0] rfl) hP hD hS
    · have hv := hv.trans (if_neg hc)
      have hk := hk.2 hc
      refine lv_aload_n hx hb d_CL_replace_75 rfl (lv_at hl 0 rfl) ?_
      refine lv_aload_n hx hb d_CL_replace_76 rfl (lv_at hl 0 rfl) ?_
      refine va_get (v := .ref (h 6)) (C := R_CL) (T := T_CL) (N := 11) hx hb hg in_CL hown hK hP 0 rfl rfl 1 (by decide) (hg _ m_285) (fun _ h9 => h9) rfl d_CL_replace_77 ?_
      refine lv_iload_n hx hb d_CL_replace_80 rfl (lv_at hl 1 rfl) ?_
      obtain ⟨hk0, hk⟩ := hk
      refine zz_callV (va_runV (As := [.int x1]) (rest := [.ref (h 0)]) ⟨hx, hb, hml, hown, hg⟩ (c_Te_secondOf l D ty h px sa σ x1 hk0) ⟨callB_of 1 hg (gw_C m_451) rfl rfl rfl (hg _ m_3) (hg _ m_448) hd_Te_secondOf ⟨Nat.le_of_ble_eq_true rfl, Nat.le_of_ble_eq_true rfl⟩, hg _ m_449, hg _ m_450⟩ (zz_preV (hM.at hS) hN hK hP 6 rfl rfl) rfl rfl hl.1 rfl (lv_room (Nat.le_of_ble_eq_true rfl)) d_CL_replace_81 ⟨Nat.le_of_ble_eq_true rfl, Nat.le_of_ble_eq_true rfl⟩) ?_
      refine lv_aload_n hx hb d_CL_replace_84 rfl (lv_at hl 0 rfl) ?_
      refine va_get (v := .ref (h 6)) (C := R_CL) (T := T_CL) (N := 11) hx hb hg in_CL hown hK hP 0 rfl rfl 1 (by decide) (hg _ m_285) (fun _ h9 => h9) rfl d_CL_replace_85 ?_
      refine lv_iload_n hx hb d_CL_replace_88 rfl (lv_at hl 2 rfl) ?_
      obtain ⟨hk0, hk⟩ := hk
      refine zz_callV (va_runV (As := [.int x2]) (rest := [.int (f_Te_secondOf x1 σ), .ref (h 0)]) ⟨hx, hb, hml, hown, hg⟩ (c_Te_secondOf l D ty h px sa σ x2 hk0) ⟨callB_of 1 hg (gw_C m_451) rfl rfl rfl (hg _ m_3) (hg _ m_448) hd_Te_secondOf ⟨Nat.le_of_ble_eq_true rfl, Nat.le_of_ble_eq_true rfl⟩, hg _ m_449, hg _ m_450⟩ (zz_preV (hM.at hS) hN hK hP 6 rfl rfl) rfl rfl hl.1 rfl (lv_room (Nat.le_of_ble_eq_true rfl)) d_CL_replace_89 ⟨Nat.le_of_ble_eq_true rfl, Nat.le_of_ble_eq_true rfl⟩) ?_
      obtain ⟨hk0, hk⟩ := hk
      refine va_calli (va_runV (As := [.int (f_Te_secondOf x1 σ), .int (f_Te_secondOf x2 σ)]) (rest := []) ⟨hx, hb, hml, hown, hg⟩ (c_CL_joinDifference l D ty h px sa σ H.size (f_Te_secondOf x1 σ) (f_Te_secondOf x2 σ) hk0) ⟨callB_of 2 hg (gw_C m_1067) rfl rfl rfl (hg _ m_1) (hg _ m_1064) hd_CL_joinDifference ⟨Nat.le_of_ble_eq_true rfl, Nat.le_of_ble_eq_true rfl⟩, hg _ m_1066, hg _ ms_38⟩ (zz_preVW hM hS hA hN hK hP hD 0 rfl rfl) rfl rfl hl.1 rfl (lv_room (Nat.le_of_ble_eq_true rfl)) d_CL_replace_92 ⟨Nat.le_of_ble_eq_true rfl, Nat.le_of_ble_eq_true rfl⟩) hS (fun q _ h => zz_free hD hS hA q h) (zz_free hD hS hA) (fun r92 u92 t H locs ht hvm hp hP1 hz hk1 hS => ?_)
      rw [ht] at hP1
      rw [← hp] at hv hk
      have hD : va_D A (Wc ty h u92 px) := zz_D hD rfl
      have hP := hP1
      exact B95 _ _ _ x1 x2 r92 u92 hv hk (lv_sub hl [0, 1, 2] rfl) hP hD hS
  have B43 : ∀ (H : Heap) (locs : List Loc) (ls : Array Slot) (x1 : Int32) (x2 : Int32) (σ : St), v = f_CL_replace_43 x1 x2 σ → k_CL_replace_43 x1 x2 σ → lv_has ls 3 [(0, .ref (h 0)), (1, .int x1), (2, .int x2)] → va_P D classes (Wc ty h σ px) H → va_D A (Wc ty h σ px) → va_S A s.heap H locs → W p l e (headSpec w_CL_replace rm_CL_replace).room s m args below meth c H locs 0 0 (xMQ below (Rx D classes (fun u => Wc ty h u px) A v) args s 1 6 A) (F0 m 43 ls []) := by
    intro H locs ls x1 x2 σ hv hk hl hP hD hS
    unfold f_CL_replace_43 at hv
    unfold k_CL_replace_43 at hk
    refine lv_aload_n hx hb d_CL_replace_43 rfl (lv_at hl 0 rfl) ?_
    refine lv_iload_n hx hb d_CL_replace_44 rfl (lv_at hl 1 rfl) ?_
    refine lv_iload_n hx hb d_CL_replace_45 rfl (lv_at hl 2 rfl) ?_
    obtain ⟨hk0, hk⟩ := hk
    refine zz_callV (va_runV (As := [.int x1, .int x2]) (rest := []) ⟨hx, hb, hml, hown, hg⟩ (c_CL_isReplaceable l D ty h px sa σ x1 x2 hk0) ⟨callB_of 2 hg (gw_C m_1063) rfl rfl rfl (hg _ m_1) (hg _ m_1060) hd_CL_isReplaceable ⟨Nat.le_of_ble_eq_true rfl, Nat.le_of_ble_eq_true rfl⟩, hg _ m_1062, hg _ ms_37⟩ (zz_preV (hM.at hS) hN hK hP 0 rfl rfl) rfl rfl hl.1 rfl (lv_room (Nat.le_of_ble_eq_true rfl)) d_CL_replace_46 ⟨Nat.le_of_ble_eq_true rfl, Nat.le_of_ble_eq_true rfl⟩) ?_
    refine lv_if_eq (tgt := 98) hx hb d_CL_replace_49 (by decide) (fun hc => ?_) (fun hc => ?_)
    · have hv := hv.trans (if_pos hc)
      have hk := hk.1 hc
      exact B98 _ _ _  σ hv hk (lv_sub hl [0] rfl) hP hD hS
    · have hv := hv.trans (if_neg hc)
      have hk := hk.2 hc
      refine lv_aload_n hx hb d_CL_replace_52 rfl (lv_at hl 0 rfl) ?_
      refine lv_aload_n hx hb d_CL_replace_53 rfl (lv_at hl 0 rfl) ?_
      refine va_get (v := .ref (h 6)) (C := R_CL) (T := T_CL) (N := 11) hx hb hg in_CL hown hK hP 0 rfl rfl 1 (by decide) (hg _ m_285) (fun _ h9 => h9) rfl d_CL_replace_54 ?_
      refine lv_iload_n hx hb d_CL_replace_57 rfl (lv_at hl 1 rfl) ?_
      obtain ⟨hk0, hk⟩ := hk
      refine zz_callV (va_runV (As := [.int x1]) (rest := [.ref (h 0)]) ⟨hx, hb, hml, hown, hg⟩ (c_Te_firstOf l D ty h px sa σ x1 hk0) ⟨callB_of 1 hg (gw_C m_447) rfl rfl rfl (hg _ m_3) (hg _ m_444) hd_Te_firstOf ⟨Nat.le_of_ble_eq_true rfl, Nat.le_of_ble_eq_true rfl⟩, hg _ m_445, hg _ m_446⟩ (zz_preV (hM.at hS) hN hK hP 6 rfl rfl) rfl rfl hl.1 rfl (lv_room (Nat.le_of_ble_eq_true rfl)) d_CL_replace_58 ⟨Nat.le_of_ble_eq_true rfl, Nat.le_of_ble_eq_true rfl⟩) ?_
      refine lv_aload_n hx hb d_CL_replace_61 rfl (lv_at hl 0 rfl) ?_
      refine va_get (v := .ref (h 6)) (C := R_CL) (T := T_CL) (N := 11) hx hb hg in_CL hown hK hP 0 rfl rfl 1 (by decide) (hg _ m_285) (fun _ h9 => h9) rfl d_CL_replace_62 ?_
      refine lv_iload_n hx hb d_CL_replace_65 rfl (lv_at hl 2 rfl) ?_
      obtain ⟨hk0, hk⟩ := hk
      refine zz_callV (va_runV (As := [.int x2]) (rest := [.int (f_Te_firstOf x1 σ), .ref (h 0)]) ⟨hx, hb, hml, hown, hg⟩ (c_Te_firstOf l D ty h px sa σ x2 hk0) ⟨callB_of 1 hg (gw_C m_447) rfl rfl rfl (hg _ m_3) (hg _ m_444) hd_Te_firstOf ⟨Nat.le_of_ble_eq_true rfl, Nat.le_of_ble_eq_true rfl⟩, hg _ m_445, hg _ m_446⟩ (zz_preV (hM.at hS) hN hK hP 6 rfl rfl) rfl rfl hl.1 rfl (lv_room (Nat.le_of_ble_eq_true rfl)) d_CL_replace_66 ⟨Nat.le_of_ble_eq_true rfl, Nat.le_of_ble_eq_true rfl⟩) ?_
      obtain ⟨hk0, hk⟩ := hk
      refine va_calli (va_runV (As := [.int (f_Te_firstOf x1 σ), .int (f_Te_firstOf x2 σ)]) (rest := []) ⟨hx, hb, hml, hown, hg⟩ (c_CL_joinDifference l D ty h px sa σ H.size (f_Te_firstOf x1 σ) (f_Te_firstOf x2 σ) hk0) ⟨callB_of 2 hg (gw_C m_1067) rfl rfl rfl (hg _ m_1) (hg _ m_1064) hd_CL_joinDifference ⟨Nat.le_of_ble_eq_true rfl, Nat.le_of_ble_eq_true rfl⟩, hg _ m_1066, hg _ ms_38⟩ (zz_preVW hM hS hA hN hK hP hD 0 rfl rfl) rfl rfl hl.1 rfl (lv_room (Nat.le_of_ble_eq_true rfl)) d_CL_replace_69 ⟨Nat.le_of_ble_eq_true rfl, Nat.le_of_ble_eq_true rfl⟩) hS (fun q _ h => zz_free hD hS hA q h) (zz_free hD hS hA) (fun r69 u69 t H locs ht hvm hp hP1 hz hk1 hS => ?_)
      rw [ht] at hP1
      rw [← hp] at hv hk
      have hD : va_D A (Wc ty h u69 px) := zz_D hD rfl
      have hP := hP1
      exact B72 _ _ _ x1 x2 r69 u69 hv hk (lv_sub hl [0, 1, 2] rfl) hP hD hS
  unfold f_CL_replace at hv
  unfold k_CL_replace at hk
  refine lv_aload_n hx hb d_CL_replace_0 rfl (lv_at hl 0 rfl) ?_
  obtain ⟨hk0, hk⟩ := hk
  refine zz_callV (va_runV (As := []) (rest := []) ⟨hx, hb, hml, hown, hg⟩ (c_CL_isShut l D ty h px sa σ  hk0) ⟨callB_of 0 hg (gw_C m_571) rfl rfl rfl (hg _ m_1) (hg _ m_568) hd_CL_isShut ⟨Nat.le_of_ble_eq_true rfl, Nat.le_of_ble_eq_true rfl⟩, hg _ m_570, hg _ ms_8⟩ (zz_preV (hM.at hS) hN hK hP 0 rfl rfl) rfl rfl hl.1 rfl (lv_room (Nat.le_of_ble_eq_true rfl)) d_CL_replace_1 ⟨Nat.le_of_ble_eq_true rfl, Nat.le_of_ble_eq_true rfl⟩) ?_
  refine lv_if_eq (tgt := 9) hx hb d_CL_replace_4 (by decide) (fun hc => ?_) (fun hc => ?_)
  · have hv := hv.trans (if_pos hc)
    have hk := hk.1 hc
    refine lv_aload_n hx hb d_CL_replace_9 rfl (lv_at hl 0 rfl) ?_
    refine va_get (v := .ref (h 6)) (C := R_CL) (T := T_CL) (N := 11) hx hb hg in_CL hown hK hP 0 rfl rfl 1 (by decide) (hg _ m_285) (fun _ h9 => h9) rfl d_CL_replace_10 ?_
    refine lv_iload_n hx hb d_CL_replace_13 rfl (lv_at hl 1 rfl) ?_
    obtain ⟨hk0, hk⟩ := hk
    refine zz_callV (va_runV (As := [.int a1]) (rest := []) ⟨hx, hb, hml, hown, hg⟩ (c_Te_has l D ty h px sa σ a1 hk0) ⟨callB_of 1 hg (gw_C m_430) rfl rfl rfl (hg _ m_3) (hg _ m_427) hd_Te_has ⟨Nat.le_of_ble_eq_true rfl, Nat.le_of_ble_eq_true rfl⟩, hg _ m_428, hg _ m_429⟩ (zz_preV (hM.at hS) hN hK hP 6 rfl rfl) rfl rfl hl.1 rfl (lv_room (Nat.le_of_ble_eq_true rfl)) d_CL_replace_14 ⟨Nat.le_of_ble_eq_true rfl, Nat.le_of_ble_eq_true rfl⟩) ?_
    refine lv_if_eq (tgt := 31) hx hb d_CL_replace_17 (by decide) (fun hc => ?_) (fun hc => ?_)
    · have hv := hv.trans (if_pos hc)
      have hk := hk.1 hc
      exact B31 _ _ _  σ hv hk (lv_sub hl [0] rfl) hP hD hS
    · have hv := hv.trans (if_neg hc)
      have hk := hk.2 hc
      refine lv_aload_n hx hb d_CL_replace_20 rfl (lv_at hl 0 rfl) ?_
      refine va_get (v := .ref (h 6)) (C := R_CL) (T := T_CL) (N := 11) hx hb hg in_CL hown hK hP 0 rfl rfl 1 (by decide) (hg _ m_285) (fun _ h9 => h9) rfl d_CL_replace_21 ?_
      refine lv_iload_n hx hb d_CL_replace_24 rfl (lv_at hl 2 rfl) ?_
      obtain ⟨hk0, hk⟩ := hk
      refine zz_callV (va_runV (As := [.int a2]) (rest := []) ⟨hx, hb, hml, hown, hg⟩ (c_Te_has l D ty h px sa σ a2 hk0) ⟨callB_of 1 hg (gw_C m_430) rfl rfl rfl (hg _ m_3) (hg _ m_427) hd_Te_has ⟨Nat.le_of_ble_eq_true rfl, Nat.le_of_ble_eq_true rfl⟩, hg _ m_428, hg _ m_429⟩ (zz_preV (hM.at hS) hN hK hP 6 rfl rfl) rfl rfl hl.1 rfl (lv_room (Nat.le_of_ble_eq_true rfl)) d_CL_replace_25 ⟨Nat.le_of_ble_eq_true rfl, Nat.le_of_ble_eq_true rfl⟩) ?_
      refine lv_if_ne (tgt := 36) hx hb d_CL_replace_28 (by decide) (fun hc => ?_) (fun hc => ?_)
      · have hv := hv.trans (if_neg hc)
        have hk := hk.2 hc
        refine lv_aload_n hx hb d_CL_replace_36 rfl (lv_at hl 0 rfl) ?_
        refine va_get (v := .ref (h 25)) (C := R_CL) (T := T_CL) (N := 11) hx hb hg in_CL hown hK hP 0 rfl rfl 7 (by decide) (hg _ m_291) (fun _ h9 => h9) rfl d_CL_replace_37 ?_
        obtain ⟨hk0, hk⟩ := hk
        refine va_callv (va_runV (As := []) (rest := []) ⟨hx, hb, hml, hown, hg⟩ (c_Ro_wipe l D ty h px sa σ s.heap.size  hk0) ⟨callB_of 0 hg (gw_C m_935) rfl rfl rfl (hg _ m_10) (hg _ m_932) hd_Ro_wipe ⟨Nat.le_of_ble_eq_true rfl, Nat.le_of_ble_eq_true rfl⟩, hg _ m_933, hg _ m_934⟩ (zz_preVW hM hS hA hN hK hP hD 25 rfl rfl) rfl rfl hl.1 rfl (lv_room (Nat.le_of_ble_eq_true rfl)) d_CL_replace_40 ⟨Nat.le_of_ble_eq_true rfl, Nat.le_of_ble_eq_true rfl⟩) hS (fun q _ h => zz_free hD hS hA q h) (zz_free hD hS hA) (fun u40 t H locs ht hvm hp hP1 hz hk1 hS => ?_)
        rw [ht] at hP1
        rw [← hp] at hv hk
        have hD : va_D A (Wc ty h u40 px) := zz_D hD rfl
        have hP := hP1
        exact B43 _ _ _ a1 a2 u40 hv hk (lv_sub hl [0, 1, 2] rfl) hP hD hS
      · have hv := hv.trans (if_pos hc)
        have hk := hk.1 hc
        exact B31 _ _ _  σ hv hk (lv_sub hl [0] rfl) hP hD hS
  · have hv := hv.trans (if_neg hc)
    have hk := hk.2 hc
    refine lv_iconst (v := -1) hx hb d_CL_replace_7 (by decide) ?_
    exact x_ret (fun o t hq => by obtain ⟨rfl, ht⟩ := hq; exact ⟨hS.F ht, by rw [ht, hv]; exact hP, _, rfl, by rw [hv]⟩) (Nat.le_of_ble_eq_true rfl) (Nat.le_of_ble_eq_true rfl) (W.iret (Qc := fun _ _ o t => o = .returned (some (.int (-1))) ∧ t.heap = s.heap) hx hb hr (fun t ht hW => ⟨rfl, ht⟩) hS.2.2 d_CL_replace_8)

-- ClauseLedger.isTermOrNone(I)Z
abbrev b_CL_isTermOrNone : ByteArray := prog_1_method_27_code
def y_CL_isTermOrNone : MethodName := ⟨"ClauseLedger", "isTermOrNone", "(I)Z"⟩
theorem hd_CL_isTermOrNone : y_CL_isTermOrNone.cls ≠ "java/lang/invoke/MethodHandle" ∧ y_CL_isTermOrNone.cls ≠ "java/lang/invoke/VarHandle" ∧ (parseMethodDescriptor y_CL_isTermOrNone.desc).map (fun d => d.parameters.length) = some 1 := by decide +kernel
theorem d_CL_isTermOrNone_0 : decode b_CL_isTermOrNone 0 = .ok (.iload_n 1, 1) := by decide +kernel
theorem d_CL_isTermOrNone_1 : decode b_CL_isTermOrNone 1 = .ok (.iconst (-1), 1) := by decide +kernel
theorem d_CL_isTermOrNone_2 : decode b_CL_isTermOrNone 2 = .ok (.if_icmp .eq 14, 3) := by decide +kernel
theorem d_CL_isTermOrNone_5 : decode b_CL_isTermOrNone 5 = .ok (.aload_n 0, 1) := by decide +kernel
theorem d_CL_isTermOrNone_6 : decode b_CL_isTermOrNone 6 = .ok (.getfield 19, 3) := by decide +kernel
theorem d_CL_isTermOrNone_9 : decode b_CL_isTermOrNone 9 = .ok (.iload_n 1, 1) := by decide +kernel
theorem d_CL_isTermOrNone_10 : decode b_CL_isTermOrNone 10 = .ok (.invokevirtual 130, 3) := by decide +kernel
theorem d_CL_isTermOrNone_13 : decode b_CL_isTermOrNone 13 = .ok (.ifCond .eq 7, 3) := by decide +kernel
theorem d_CL_isTermOrNone_16 : decode b_CL_isTermOrNone 16 = .ok (.iconst 1, 1) := by decide +kernel
theorem d_CL_isTermOrNone_17 : decode b_CL_isTermOrNone 17 = .ok (.goto 4, 3) := by decide +kernel
theorem d_CL_isTermOrNone_20 : decode b_CL_isTermOrNone 20 = .ok (.iconst 0, 1) := by decide +kernel
theorem d_CL_isTermOrNone_21 : decode b_CL_isTermOrNone 21 = .ok (.ireturn, 1) := by decide +kernel
def f_CL_isTermOrNone_21 (s0 : Int32) (σ : St) : Int32 := s0
def k_CL_isTermOrNone_21 (s0 : Int32) (σ : St) : Prop := (narrow .boolean (.int s0) = .int s0) ∧ True
def f_CL_isTermOrNone_16 (σ : St) : Int32 := f_CL_isTermOrNone_21 1 σ
def k_CL_isTermOrNone_16 (σ : St) : Prop := k_CL_isTermOrNone_21 1 σ
def f_CL_isTermOrNone (a1 : Int32) (σ : St) : Int32 := if a1 = (-1) then (f_CL_isTermOrNone_16 σ) else (if (f_Te_has a1 σ) = 0 then (f_CL_isTermOrNone_21 0 σ) else (f_CL_isTermOrNone_16 σ))
def k_CL_isTermOrNone (a1 : Int32) (σ : St) : Prop := (a1 = (-1) → (k_CL_isTermOrNone_16 σ)) ∧ (¬ a1 = (-1) → ((k_Te_has a1 σ) ∧ (((f_Te_has a1 σ) = 0 → (k_CL_isTermOrNone_21 0 σ)) ∧ (¬ (f_Te_has a1 σ) = 0 → (k_CL_isTermOrNone_16 σ)))))
abbrev w_CL_isTermOrNone : List Cond := Cond.code y_CL_isTermOrNone b_CL_isTermOrNone 2 (some .boolean) :: gw
abbrev rm_CL_isTermOrNone : Room := { frames := 1, cells := 0, slots := 0, locals := 21 }
set_option maxHeartbeats 4000000 in
set_option maxRecDepth 100000 in
theorem c_CL_isTermOrNone (l : Launch) (D : va_G) (ty : Nat → ClassId) (h : Nat → Nat) (px : va_W) (sa : Nat → Nat) (σ : St) (a1 : Int32) (hk : k_CL_isTermOrNone a1 σ) : Met l y_CL_isTermOrNone w_CL_isTermOrNone rm_CL_isTermOrNone (va_Pc [.ref (h 0), .int a1] (fun U => va_P D classes (Wc ty h σ px) U.heap ∧ va_K D classes (Ta ty) U ∧ NW U ∧ MK sa (fun _ => False) U U.heap)) (k2_QcV (.int (f_CL_isTermOrNone a1 σ))) 0 0 (fun _ => False) := by
  refine Met.ofW (cc := b_CL_isTermOrNone) (maxL := 2) (ret := (some .boolean)) (by decide) rfl ?_
  intro p e s m args below meth c s₁ B hml hv
  obtain ⟨ha, hP, hK, hN, hM⟩ := hv
  have hx := B.exec
  have hb := B.bytes
  have hr := B.returns
  have hg : ∀ w ∈ gw, w.before args s = true := fun w h9 => atoms_spec (ws := w_CL_isTermOrNone) B.pre w (List.mem_cons_of_mem _ h9)
  have hown : s.vm.findClass "ClauseLedger" = some m.cls := findClass_of_methodNamed B.named
  have hlocks := B.notSynchronized
  have he : entryFrame m args 2 = entryFrame m ([.ref (h 0), .int a1] : List Value).toArray 2 := by rw [ha]
  rw [he, lg_entry_eq]
  have hl := lv_entry ([.ref (h 0), .int a1]) (n := 2) (Nat.le_of_ble_eq_true rfl)
  generalize (lg_sl ([.ref (h 0), .int a1]) ++ List.replicate (2 - (lg_sl ([.ref (h 0), .int a1])).length) Slot.unset).toArray = ls at hl ⊢
  have hl : lv_has ls 2 [(0, .ref (h 0)), (1, .int a1)] := hl
  generalize hv : f_CL_isTermOrNone a1 σ = v
  replace hv := hv.symm
  have B21 : ∀ (ls : Array Slot) (s0 : Int32), v = f_CL_isTermOrNone_21 s0 σ → k_CL_isTermOrNone_21 s0 σ → lv_has ls 2 [] → W p l e (headSpec w_CL_isTermOrNone rm_CL_isTermOrNone).room s m args below meth c s.heap [] 0 0 (MQ below (k2_QcV (.int v)) args s 0 0 (fun _ => False)) (F0 m 21 ls [.int s0]) := by
    intro ls s0 hv hk hl
    unfold f_CL_isTermOrNone_21 at hv
    unfold k_CL_isTermOrNone_21 at hk
    obtain ⟨hk0, hk⟩ := hk
    exact W.zret hx hb hr hk0 (fun t ht hW => ⟨by rw [hv], ht⟩) (fun q h => nomatch h) d_CL_isTermOrNone_21
  have B16 : ∀ (ls : Array Slot), v = f_CL_isTermOrNone_16 σ → k_CL_isTermOrNone_16 σ → lv_has ls 2 [] → W p l e (headSpec w_CL_isTermOrNone rm_CL_isTermOrNone).room s m args below meth c s.heap [] 0 0 (MQ below (k2_QcV (.int v)) args s 0 0 (fun _ => False)) (F0 m 16 ls []) := by
    intro ls hv hk hl
    unfold f_CL_isTermOrNone_16 at hv
    unfold k_CL_isTermOrNone_16 at hk
    refine lv_iconst (v := 1) hx hb d_CL_isTermOrNone_16 (by decide) ?_
    refine lv_goto (tgt := 21) hx hb d_CL_isTermOrNone_17 (by decide) ?_
    exact B21 _ 1 hv hk (lv_sub hl [] rfl)
  unfold f_CL_isTermOrNone at hv
  unfold k_CL_isTermOrNone at hk
  refine lv_iload_n hx hb d_CL_isTermOrNone_0 rfl (lv_at hl 1 rfl) ?_
  refine lv_iconst (v := -1) hx hb d_CL_isTermOrNone_1 (by decide) ?_
  refine lv_icmp_eq (tgt := 16) hx hb d_CL_isTermOrNone_2 (by decide) (fun hc => ?_) (fun hc => ?_)
  · have hv := hv.trans (if_pos hc)
    have hk := hk.1 hc
    exact B16 _  hv hk (lv_sub hl [] rfl)
  · have hv := hv.trans (if_neg hc)
    have hk := hk.2 hc
    refine lv_aload_n hx hb d_CL_isTermOrNone_5 rfl (lv_at hl 0 rfl) ?_
    refine va_get (v := .ref (h 6)) (C := R_CL) (T := T_CL) (N := 11) hx hb hg in_CL hown hK hP 0 rfl rfl 1 (by decide) (hg _ m_285) (fun _ h9 => h9) rfl d_CL_isTermOrNone_6 ?_
    refine lv_iload_n hx hb d_CL_isTermOrNone_9 rfl (lv_at hl 1 rfl) ?_
    obtain ⟨hk0, hk⟩ := hk
    refine zz_callV (va_runV (As := [.int a1]) (rest := []) ⟨hx, hb, hml, hown, hg⟩ (c_Te_has l D ty h px sa σ a1 hk0) ⟨callB_of 1 hg (gw_C m_430) rfl rfl rfl (hg _ m_3) (hg _ m_427) hd_Te_has ⟨Nat.le_of_ble_eq_true rfl, Nat.le_of_ble_eq_true rfl⟩, hg _ m_428, hg _ m_429⟩ (zz_preV hM hN hK hP 6 rfl rfl) rfl rfl hl.1 rfl (lv_room (Nat.le_of_ble_eq_true rfl)) d_CL_isTermOrNone_10 ⟨Nat.le_of_ble_eq_true rfl, Nat.le_of_ble_eq_true rfl⟩) ?_
    refine lv_if_eq (tgt := 20) hx hb d_CL_isTermOrNone_13 (by decide) (fun hc => ?_) (fun hc => ?_)
    · have hv := hv.trans (if_pos hc)
      have hk := hk.1 hc
      refine lv_iconst (v := 0) hx hb d_CL_isTermOrNone_20 (by decide) ?_
      exact B21 _ 0 hv hk (lv_sub hl [] rfl)
    · have hv := hv.trans (if_neg hc)
      have hk := hk.2 hc
      exact B16 _  hv hk (lv_sub hl [] rfl)

-- ClauseLedger$Balance.inside(I)I
abbrev b_Ba_inside : ByteArray := prog_2_method_7_code
def y_Ba_inside : MethodName := ⟨"ClauseLedger$Balance", "inside", "(I)I"⟩
theorem hd_Ba_inside : y_Ba_inside.cls ≠ "java/lang/invoke/MethodHandle" ∧ y_Ba_inside.cls ≠ "java/lang/invoke/VarHandle" ∧ (parseMethodDescriptor y_Ba_inside.desc).map (fun d => d.parameters.length) = some 1 := by decide +kernel
theorem d_Ba_inside_0 : decode b_Ba_inside 0 = .ok (.aload_n 0, 1) := by decide +kernel
theorem d_Ba_inside_1 : decode b_Ba_inside 1 = .ok (.getfield 34, 3) := by decide +kernel
theorem d_Ba_inside_4 : decode b_Ba_inside 4 = .ok (.iload_n 1, 1) := by decide +kernel
theorem d_Ba_inside_5 : decode b_Ba_inside 5 = .ok (.invokevirtual 46, 3) := by decide +kernel
theorem d_Ba_inside_8 : decode b_Ba_inside 8 = .ok (.bipush 7, 2) := by decide +kernel
theorem d_Ba_inside_10 : decode b_Ba_inside 10 = .ok (.if_icmp .ne 14, 3) := by decide +kernel
theorem d_Ba_inside_13 : decode b_Ba_inside 13 = .ok (.aload_n 0, 1) := by decide +kernel
theorem d_Ba_inside_14 : decode b_Ba_inside 14 = .ok (.getfield 34, 3) := by decide +kernel
theorem d_Ba_inside_17 : decode b_Ba_inside 17 = .ok (.iload_n 1, 1) := by decide +kernel
theorem d_Ba_inside_18 : decode b_Ba_inside 18 = .ok (.invokevirtual 54, 3) := by decide +kernel
theorem d_Ba_inside_21 : decode b_Ba_inside 21 = .ok (.goto 4, 3) := by decide +kernel
theorem d_Ba_inside_24 : decode b_Ba_inside 24 = .ok (.iload_n 1, 1) := by decide +kernel
theorem d_Ba_inside_25 : decode b_Ba_inside 25 = .ok (.ireturn, 1) := by decide +kernel
def f_Ba_inside_25 (s0 : Int32) (σ : St) : Int32 := s0
def k_Ba_inside_25 (s0 : Int32) (σ : St) : Prop := True
def f_Ba_inside (a1 : Int32) (σ : St) : Int32 := if (f_Te_kindOf a1 σ) = 7 then (f_Ba_inside_25 (f_Te_firstOf a1 σ) σ) else (f_Ba_inside_25 a1 σ)
def k_Ba_inside (a1 : Int32) (σ : St) : Prop := (k_Te_kindOf a1 σ) ∧ (((f_Te_kindOf a1 σ) = 7 → ((k_Te_firstOf a1 σ) ∧ (k_Ba_inside_25 (f_Te_firstOf a1 σ) σ))) ∧ (¬ (f_Te_kindOf a1 σ) = 7 → (k_Ba_inside_25 a1 σ)))
abbrev w_Ba_inside : List Cond := Cond.code y_Ba_inside b_Ba_inside 2 (some .int) :: gw
abbrev rm_Ba_inside : Room := { frames := 2, cells := 0, slots := 0, locals := 42 }
set_option maxHeartbeats 4000000 in
set_option maxRecDepth 100000 in
theorem c_Ba_inside (l : Launch) (D : va_G) (ty : Nat → ClassId) (h : Nat → Nat) (px : va_W) (sa : Nat → Nat) (σ : St) (a1 : Int32) (hk : k_Ba_inside a1 σ) : Met l y_Ba_inside w_Ba_inside rm_Ba_inside (va_Pc [.ref (h 24), .int a1] (fun U => va_P D classes (Wc ty h σ px) U.heap ∧ va_K D classes (Ta ty) U ∧ NW U ∧ MK sa (fun _ => False) U U.heap)) (k2_QcV (.int (f_Ba_inside a1 σ))) 0 0 (fun _ => False) := by
  refine Met.ofW (cc := b_Ba_inside) (maxL := 2) (ret := (some .int)) (by decide) rfl ?_
  intro p e s m args below meth c s₁ B hml hv
  obtain ⟨ha, hP, hK, hN, hM⟩ := hv
  have hx := B.exec
  have hb := B.bytes
  have hr := B.returns
  have hg : ∀ w ∈ gw, w.before args s = true := fun w h9 => atoms_spec (ws := w_Ba_inside) B.pre w (List.mem_cons_of_mem _ h9)
  have hown : s.vm.findClass "ClauseLedger$Balance" = some m.cls := findClass_of_methodNamed B.named
  have hlocks := B.notSynchronized
  have he : entryFrame m args 2 = entryFrame m ([.ref (h 24), .int a1] : List Value).toArray 2 := by rw [ha]
  rw [he, lg_entry_eq]
  have hl := lv_entry ([.ref (h 24), .int a1]) (n := 2) (Nat.le_of_ble_eq_true rfl)
  generalize (lg_sl ([.ref (h 24), .int a1]) ++ List.replicate (2 - (lg_sl ([.ref (h 24), .int a1])).length) Slot.unset).toArray = ls at hl ⊢
  have hl : lv_has ls 2 [(0, .ref (h 24)), (1, .int a1)] := hl
  generalize hv : f_Ba_inside a1 σ = v
  replace hv := hv.symm
  have B25 : ∀ (ls : Array Slot) (s0 : Int32), v = f_Ba_inside_25 s0 σ → k_Ba_inside_25 s0 σ → lv_has ls 2 [] → W p l e (headSpec w_Ba_inside rm_Ba_inside).room s m args below meth c s.heap [] 0 0 (MQ below (k2_QcV (.int v)) args s 0 0 (fun _ => False)) (F0 m 25 ls [.int s0]) := by
    intro ls s0 hv hk hl
    unfold f_Ba_inside_25 at hv
    unfold k_Ba_inside_25 at hk
    exact W.iret hx hb hr (fun t ht hW => ⟨by rw [hv], ht⟩) (fun q h => nomatch h) d_Ba_inside_25
  unfold f_Ba_inside at hv
  unfold k_Ba_inside at hk
  refine lv_aload_n hx hb d_Ba_inside_0 rfl (lv_at hl 0 rfl) ?_
  refine va_get (v := .ref (h 6)) (C := R_Ba) (T := T_Ba) (N := 6) hx hb hg in_Ba hown hK hP 24 rfl rfl 0 (by decide) (hg _ m_207) (fun _ h9 => h9) rfl d_Ba_inside_1 ?_
  refine lv_iload_n hx hb d_Ba_inside_4 rfl (lv_at hl 1 rfl) ?_
  obtain ⟨hk0, hk⟩ := hk
  refine zz_callV (va_runV (As := [.int a1]) (rest := []) ⟨hx, hb, hml, hown, hg⟩ (c_Te_kindOf l D ty h px sa σ a1 hk0) ⟨callB_of 1 hg (gw_C m_434) rfl rfl rfl (hg _ m_3) (hg _ m_1091) hd_Te_kindOf ⟨Nat.le_of_ble_eq_true rfl, Nat.le_of_ble_eq_true rfl⟩, hg _ m_432, hg _ m_433⟩ (zz_preV hM hN hK hP 6 rfl rfl) rfl rfl hl.1 rfl (lv_room (Nat.le_of_ble_eq_true rfl)) d_Ba_inside_5 ⟨Nat.le_of_ble_eq_true rfl, Nat.le_of_ble_eq_true rfl⟩) ?_
  refine lv_bipush (v := 7) hx hb d_Ba_inside_8 (by decide) ?_
  refine lv_icmp_ne (tgt := 24) hx hb d_Ba_inside_10 (by decide) (fun hc => ?_) (fun hc => ?_)
  · have hv := hv.trans (if_neg hc)
    have hk := hk.2 hc
    refine lv_iload_n hx hb d_Ba_inside_24 rfl (lv_at hl 1 rfl) ?_
    exact B25 _ a1 hv hk (lv_sub hl [] rfl)
  · have hv := hv.trans (if_pos hc)
    have hk := hk.1 hc
    refine lv_aload_n hx hb d_Ba_inside_13 rfl (lv_at hl 0 rfl) ?_
    refine va_get (v := .ref (h 6)) (C := R_Ba) (T := T_Ba) (N := 6) hx hb hg in_Ba hown hK hP 24 rfl rfl 0 (by decide) (hg _ m_207) (fun _ h9 => h9) rfl d_Ba_inside_14 ?_
    refine lv_iload_n hx hb d_Ba_inside_17 rfl (lv_at hl 1 rfl) ?_
    obtain ⟨hk0, hk⟩ := hk
    refine zz_callV (va_runV (As := [.int a1]) (rest := []) ⟨hx, hb, hml, hown, hg⟩ (c_Te_firstOf l D ty h px sa σ a1 hk0) ⟨callB_of 1 hg (gw_C m_447) rfl rfl rfl (hg _ m_3) (hg _ m_1092) hd_Te_firstOf ⟨Nat.le_of_ble_eq_true rfl, Nat.le_of_ble_eq_true rfl⟩, hg _ m_445, hg _ m_446⟩ (zz_preV hM hN hK hP 6 rfl rfl) rfl rfl hl.1 rfl (lv_room (Nat.le_of_ble_eq_true rfl)) d_Ba_inside_18 ⟨Nat.le_of_ble_eq_true rfl, Nat.le_of_ble_eq_true rfl⟩) ?_
    refine lv_goto (tgt := 25) hx hb d_Ba_inside_21 (by decide) ?_
    exact B25 _ (f_Te_firstOf a1 σ) hv hk (lv_sub hl [] rfl)

-- ClauseLedger$Balance.isOpposedEquation(I)Z
abbrev b_Ba_isOpposedEquation : ByteArray := prog_2_method_8_code
def y_Ba_isOpposedEquation : MethodName := ⟨"ClauseLedger$Balance", "isOpposedEquation", "(I)Z"⟩
theorem hd_Ba_isOpposedEquation : y_Ba_isOpposedEquation.cls ≠ "java/lang/invoke/MethodHandle" ∧ y_Ba_isOpposedEquation.cls ≠ "java/lang/invoke/VarHandle" ∧ (parseMethodDescriptor y_Ba_isOpposedEquation.desc).map (fun d => d.parameters.length) = some 1 := by decide +kernel
theorem d_Ba_isOpposedEquation_0 : decode b_Ba_isOpposedEquation 0 = .ok (.aload_n 0, 1) := by decide +kernel
theorem d_Ba_isOpposedEquation_1 : decode b_Ba_isOpposedEquation 1 = .ok (.iload_n 1, 1) := by decide +kernel
theorem d_Ba_isOpposedEquation_2 : decode b_Ba_isOpposedEquation 2 = .ok (.invokevirtual 42, 3) := by decide +kernel
theorem d_Ba_isOpposedEquation_5 : decode b_Ba_isOpposedEquation 5 = .ok (.istore_n 2, 1) := by decide +kernel
theorem d_Ba_isOpposedEquation_6 : decode b_Ba_isOpposedEquation 6 = .ok (.aload_n 0, 1) := by decide +kernel
theorem d_Ba_isOpposedEquation_7 : decode b_Ba_isOpposedEquation 7 = .ok (.getfield 34, 3) := by decide +kernel
theorem d_Ba_isOpposedEquation_10 : decode b_Ba_isOpposedEquation 10 = .ok (.iload_n 1, 1) := by decide +kernel
theorem d_Ba_isOpposedEquation_11 : decode b_Ba_isOpposedEquation 11 = .ok (.invokevirtual 46, 3) := by decide +kernel
theorem d_Ba_isOpposedEquation_14 : decode b_Ba_isOpposedEquation 14 = .ok (.bipush 7, 2) := by decide +kernel
theorem d_Ba_isOpposedEquation_16 : decode b_Ba_isOpposedEquation 16 = .ok (.if_icmp .ne 38, 3) := by decide +kernel
theorem d_Ba_isOpposedEquation_19 : decode b_Ba_isOpposedEquation 19 = .ok (.aload_n 0, 1) := by decide +kernel
theorem d_Ba_isOpposedEquation_20 : decode b_Ba_isOpposedEquation 20 = .ok (.getfield 34, 3) := by decide +kernel
theorem d_Ba_isOpposedEquation_23 : decode b_Ba_isOpposedEquation 23 = .ok (.iload_n 2, 1) := by decide +kernel
theorem d_Ba_isOpposedEquation_24 : decode b_Ba_isOpposedEquation 24 = .ok (.invokevirtual 46, 3) := by decide +kernel
theorem d_Ba_isOpposedEquation_27 : decode b_Ba_isOpposedEquation 27 = .ok (.iconst 5, 1) := by decide +kernel
theorem d_Ba_isOpposedEquation_28 : decode b_Ba_isOpposedEquation 28 = .ok (.if_icmp .ne 26, 3) := by decide +kernel
theorem d_Ba_isOpposedEquation_31 : decode b_Ba_isOpposedEquation 31 = .ok (.aload_n 0, 1) := by decide +kernel
theorem d_Ba_isOpposedEquation_32 : decode b_Ba_isOpposedEquation 32 = .ok (.getfield 34, 3) := by decide +kernel
theorem d_Ba_isOpposedEquation_35 : decode b_Ba_isOpposedEquation 35 = .ok (.aload_n 0, 1) := by decide +kernel
theorem d_Ba_isOpposedEquation_36 : decode b_Ba_isOpposedEquation 36 = .ok (.getfield 34, 3) := by decide +kernel
theorem d_Ba_isOpposedEquation_39 : decode b_Ba_isOpposedEquation 39 = .ok (.iload_n 2, 1) := by decide +kernel
theorem d_Ba_isOpposedEquation_40 : decode b_Ba_isOpposedEquation 40 = .ok (.invokevirtual 54, 3) := by decide +kernel
theorem d_Ba_isOpposedEquation_43 : decode b_Ba_isOpposedEquation 43 = .ok (.invokevirtual 81, 3) := by decide +kernel
theorem d_Ba_isOpposedEquation_46 : decode b_Ba_isOpposedEquation 46 = .ok (.iconst 1, 1) := by decide +kernel
theorem d_Ba_isOpposedEquation_47 : decode b_Ba_isOpposedEquation 47 = .ok (.if_icmp .ne 7, 3) := by decide +kernel
theorem d_Ba_isOpposedEquation_50 : decode b_Ba_isOpposedEquation 50 = .ok (.iconst 1, 1) := by decide +kernel
theorem d_Ba_isOpposedEquation_51 : decode b_Ba_isOpposedEquation 51 = .ok (.goto 4, 3) := by decide +kernel
theorem d_Ba_isOpposedEquation_54 : decode b_Ba_isOpposedEquation 54 = .ok (.iconst 0, 1) := by decide +kernel
theorem d_Ba_isOpposedEquation_55 : decode b_Ba_isOpposedEquation 55 = .ok (.ireturn, 1) := by decide +kernel
def f_Ba_isOpposedEquation_55 (s0 : Int32) (σ : St) : Int32 := s0
def k_Ba_isOpposedEquation_55 (s0 : Int32) (σ : St) : Prop := (narrow .boolean (.int s0) = .int s0) ∧ True
def f_Ba_isOpposedEquation_54 (σ : St) : Int32 := f_Ba_isOpposedEquation_55 0 σ
def k_Ba_isOpposedEquation_54 (σ : St) : Prop := k_Ba_isOpposedEquation_55 0 σ
def f_Ba_isOpposedEquation_6 (x1 : Int32) (x2 : Int32) (σ : St) : Int32 := if (f_Te_kindOf x1 σ) = 7 then (if (f_Te_kindOf x2 σ) = 5 then (if (f_Te_sortOf (f_Te_firstOf x2 σ) σ) = 1 then (f_Ba_isOpposedEquation_55 1 σ) else (f_Ba_isOpposedEquation_54 σ)) else (f_Ba_isOpposedEquation_54 σ)) else (f_Ba_isOpposedEquation_54 σ)
def k_Ba_isOpposedEquation_6 (x1 : Int32) (x2 : Int32) (σ : St) : Prop := (k_Te_kindOf x1 σ) ∧ (((f_Te_kindOf x1 σ) = 7 → ((k_Te_kindOf x2 σ) ∧ (((f_Te_kindOf x2 σ) = 5 → ((k_Te_firstOf x2 σ) ∧ ((k_Te_sortOf (f_Te_firstOf x2 σ) σ) ∧ (((f_Te_sortOf (f_Te_firstOf x2 σ) σ) = 1 → (k_Ba_isOpposedEquation_55 1 σ)) ∧ (¬ (f_Te_sortOf (f_Te_firstOf x2 σ) σ) = 1 → (k_Ba_isOpposedEquation_54 σ)))))) ∧ (¬ (f_Te_kindOf x2 σ) = 5 → (k_Ba_isOpposedEquation_54 σ))))) ∧ (¬ (f_Te_kindOf x1 σ) = 7 → (k_Ba_isOpposedEquation_54 σ)))
def f_Ba_isOpposedEquation (a1 : Int32) (σ : St) : Int32 := f_Ba_isOpposedEquation_6 a1 (f_Ba_inside a1 σ) σ
def k_Ba_isOpposedEquation (a1 : Int32) (σ : St) : Prop := (k_Ba_inside a1 σ) ∧ (k_Ba_isOpposedEquation_6 a1 (f_Ba_inside a1 σ) σ)
abbrev w_Ba_isOpposedEquation : List Cond := Cond.code y_Ba_isOpposedEquation b_Ba_isOpposedEquation 3 (some .boolean) :: gw
abbrev rm_Ba_isOpposedEquation : Room := { frames := 3, cells := 0, slots := 0, locals := 63 }
set_option maxHeartbeats 4000000 in
set_option maxRecDepth 100000 in
theorem c_Ba_isOpposedEquation (l : Launch) (D : va_G) (ty : Nat → ClassId) (h : Nat → Nat) (px : va_W) (sa : Nat → Nat) (σ : St) (a1 : Int32) (hk : k_Ba_isOpposedEquation a1 σ) : Met l y_Ba_isOpposedEquation w_Ba_isOpposedEquation rm_Ba_isOpposedEquation (va_Pc [.ref (h 24), .int a1] (fun U => va_P D classes (Wc ty h σ px) U.heap ∧ va_K D classes (Ta ty) U ∧ NW U ∧ MK sa (fun _ => False) U U.heap)) (k2_QcV (.int (f_Ba_isOpposedEquation a1 σ))) 0 0 (fun _ => False) := by
  refine Met.ofW (cc := b_Ba_isOpposedEquation) (maxL := 3) (ret := (some .boolean)) (by decide) rfl ?_
  intro p e s m args below meth c s₁ B hml hv
  obtain ⟨ha, hP, hK, hN, hM⟩ := hv
  have hx := B.exec
  have hb := B.bytes
  have hr := B.returns
  have hg : ∀ w ∈ gw, w.before args s = true := fun w h9 => atoms_spec (ws := w_Ba_isOpposedEquation) B.pre w (List.mem_cons_of_mem _ h9)
  have hown : s.vm.findClass "ClauseLedger$Balance" = some m.cls := findClass_of_methodNamed B.named
  have hlocks := B.notSynchronized
  have he : entryFrame m args 3 = entryFrame m ([.ref (h 24), .int a1] : List Value).toArray 3 := by rw [ha]
  rw [he, lg_entry_eq]
  have hl := lv_entry ([.ref (h 24), .int a1]) (n := 3) (Nat.le_of_ble_eq_true rfl)
  generalize (lg_sl ([.ref (h 24), .int a1]) ++ List.replicate (3 - (lg_sl ([.ref (h 24), .int a1])).length) Slot.unset).toArray = ls at hl ⊢
  have hl : lv_has ls 3 [(0, .ref (h 24)), (1, .int a1)] := hl
  generalize hv : f_Ba_isOpposedEquation a1 σ = v
  replace hv := hv.symm
  have B55 : ∀ (ls : Array Slot) (s0 : Int32), v = f_Ba_isOpposedEquation_55 s0 σ → k_Ba_isOpposedEquation_55 s0 σ → lv_has ls 3 [] → W p l e (headSpec w_Ba_isOpposedEquation rm_Ba_isOpposedEquation).room s m args below meth c s.heap [] 0 0 (MQ below (k2_QcV (.int v)) args s 0 0 (fun _ => False)) (F0 m 55 ls [.int s0]) := by
    intro ls s0 hv hk hl
    unfold f_Ba_isOpposedEquation_55 at hv
    unfold k_Ba_isOpposedEquation_55 at hk
    obtain ⟨hk0, hk⟩ := hk
    exact W.zret hx hb hr hk0 (fun t ht hW => ⟨by rw [hv], ht⟩) (fun q h => nomatch h) d_Ba_isOpposedEquation_55
  have B54 : ∀ (ls : Array Slot), v = f_Ba_isOpposedEquation_54 σ → k_Ba_isOpposedEquation_54 σ → lv_has ls 3 [] → W p l e (headSpec w_Ba_isOpposedEquation rm_Ba_isOpposedEquation).room s m args below meth c s.heap [] 0 0 (MQ below (k2_QcV (.int v)) args s 0 0 (fun _ => False)) (F0 m 54 ls []) := by
    intro ls hv hk hl
    unfold f_Ba_isOpposedEquation_54 at hv
    unfold k_Ba_isOpposedEquation_54 at hk
    refine lv_iconst (v := 0) hx hb d_Ba_isOpposedEquation_54 (by decide) ?_
    exact B55 _ 0 hv hk (lv_sub hl [] rfl)
  have B6 : ∀ (ls : Array Slot) (x1 : Int32) (x2 : Int32), v = f_Ba_isOpposedEquation_6 x1 x2 σ → k_Ba_isOpposedEquation_6 x1 x2 σ → lv_has ls 3 [(0, .ref (h 24)), (1, .int x1), (2, .int x2)] → W p l e (headSpec w_Ba_isOpposedEquation rm_Ba_isOpposedEquation).room s m args below meth c s.heap [] 0 0 (MQ below (k2_QcV (.int v)) args s 0 0 (fun _ => False)) (F0 m 6 ls []) := by
    intro ls x1 x2 hv hk hl
    unfold f_Ba_isOpposedEquation_6 at hv
    unfold k_Ba_isOpposedEquation_6 at hk
    refine lv_aload_n hx hb d_Ba_isOpposedEquation_6 rfl (lv_at hl 0 rfl) ?_
    refine va_get (v := .ref (h 6)) (C := R_Ba) (T := T_Ba) (N := 6) hx hb hg in_Ba hown hK hP 24 rfl rfl 0 (by decide) (hg _ m_207) (fun _ h9 => h9) rfl d_Ba_isOpposedEquation_7 ?_
    refine lv_iload_n hx hb d_Ba_isOpposedEquation_10 rfl (lv_at hl 1 rfl) ?_
    obtain ⟨hk0, hk⟩ := hk
    refine zz_callV (va_runV (As := [.int x1]) (rest := []) ⟨hx, hb, hml, hown, hg⟩ (c_Te_kindOf l D ty h px sa σ x1 hk0) ⟨callB_of 1 hg (gw_C m_434) rfl rfl rfl (hg _ m_3) (hg _ m_1091) hd_Te_kindOf ⟨Nat.le_of_ble_eq_true rfl, Nat.le_of_ble_eq_true rfl⟩, hg _ m_432, hg _ m_433⟩ (zz_preV hM hN hK hP 6 rfl rfl) rfl rfl hl.1 rfl (lv_room (Nat.le_of_ble_eq_true rfl)) d_Ba_isOpposedEquation_11 ⟨Nat.le_of_ble_eq_true rfl, Nat.le_of_ble_eq_true rfl⟩) ?_
    refine lv_bipush (v := 7) hx hb d_Ba_isOpposedEquation_14 (by decide) ?_
    refine lv_icmp_ne (tgt := 54) hx hb d_Ba_isOpposedEquation_16 (by decide) (fun hc => ?_) (fun hc => ?_)
    · have hv := hv.trans (if_neg hc)
      have hk := hk.2 hc
      exact B54 _  hv hk (lv_sub hl [] rfl)
    · have hv := hv.trans (if_pos hc)
      have hk := hk.1 hc
      refine lv_aload_n hx hb d_Ba_isOpposedEquation_19 rfl (lv_at hl 0 rfl) ?_
      refine va_get (v := .ref (h 6)) (C := R_Ba) (T := T_Ba) (N := 6) hx hb hg in_Ba hown hK hP 24 rfl rfl 0 (by decide) (hg _ m_207) (fun _ h9 => h9) rfl d_Ba_isOpposedEquation_20 ?_
      refine lv_iload_n hx hb d_Ba_isOpposedEquation_23 rfl (lv_at hl 2 rfl) ?_
      obtain ⟨hk0, hk⟩ := hk
      refine zz_callV (va_runV (As := [.int x2]) (rest := []) ⟨hx, hb, hml, hown, hg⟩ (c_Te_kindOf l D ty h px sa σ x2 hk0) ⟨callB_of 1 hg (gw_C m_434) rfl rfl rfl (hg _ m_3) (hg _ m_1091) hd_Te_kindOf ⟨Nat.le_of_ble_eq_true rfl, Nat.le_of_ble_eq_true rfl⟩, hg _ m_432, hg _ m_433⟩ (zz_preV hM hN hK hP 6 rfl rfl) rfl rfl hl.1 rfl (lv_room (Nat.le_of_ble_eq_true rfl)) d_Ba_isOpposedEquation_24 ⟨Nat.le_of_ble_eq_true rfl, Nat.le_of_ble_eq_true rfl⟩) ?_
      refine lv_iconst (v := 5) hx hb d_Ba_isOpposedEquation_27 (by decide) ?_
      refine lv_icmp_ne (tgt := 54) hx hb d_Ba_isOpposedEquation_28 (by decide) (fun hc => ?_) (fun hc => ?_)
      · have hv := hv.trans (if_neg hc)
        have hk := hk.2 hc
        exact B54 _  hv hk (lv_sub hl [] rfl)
      · have hv := hv.trans (if_pos hc)
        have hk := hk.1 hc
        refine lv_aload_n hx hb d_Ba_isOpposedEquation_31 rfl (lv_at hl 0 rfl) ?_
        refine va_get (v := .ref (h 6)) (C := R_Ba) (T := T_Ba) (N := 6) hx hb hg in_Ba hown hK hP 24 rfl rfl 0 (by decide) (hg _ m_207) (fun _ h9 => h9) rfl d_Ba_isOpposedEquation_32 ?_
        refine lv_aload_n hx hb d_Ba_isOpposedEquation_35 rfl (lv_at hl 0 rfl) ?_
        refine va_get (v := .ref (h 6)) (C := R_Ba) (T := T_Ba) (N := 6) hx hb hg in_Ba hown hK hP 24 rfl rfl 0 (by decide) (hg _ m_207) (fun _ h9 => h9) rfl d_Ba_isOpposedEquation_36 ?_
        refine lv_iload_n hx hb d_Ba_isOpposedEquation_39 rfl (lv_at hl 2 rfl) ?_
        obtain ⟨hk0, hk⟩ := hk
        refine zz_callV (va_runV (As := [.int x2]) (rest := [.ref (h 6)]) ⟨hx, hb, hml, hown, hg⟩ (c_Te_firstOf l D ty h px sa σ x2 hk0) ⟨callB_of 1 hg (gw_C m_447) rfl rfl rfl (hg _ m_3) (hg _ m_1092) hd_Te_firstOf ⟨Nat.le_of_ble_eq_true rfl, Nat.le_of_ble_eq_true rfl⟩, hg _ m_445, hg _ m_446⟩ (zz_preV hM hN hK hP 6 rfl rfl) rfl rfl hl.1 rfl (lv_room (Nat.le_of_ble_eq_true rfl)) d_Ba_isOpposedEquation_40 ⟨Nat.le_of_ble_eq_true rfl, Nat.le_of_ble_eq_true rfl⟩) ?_
        obtain ⟨hk0, hk⟩ := hk
        refine zz_callV (va_runV (As := [.int (f_Te_firstOf x2 σ)]) (rest := []) ⟨hx, hb, hml, hown, hg⟩ (c_Te_sortOf l D ty h px sa σ (f_Te_firstOf x2 σ) hk0) ⟨callB_of 1 hg (gw_C m_439) rfl rfl rfl (hg _ m_3) (hg _ m_1093) hd_Te_sortOf ⟨Nat.le_of_ble_eq_true rfl, Nat.le_of_ble_eq_true rfl⟩, hg _ m_437, hg _ m_438⟩ (zz_preV hM hN hK hP 6 rfl rfl) rfl rfl hl.1 rfl (lv_room (Nat.le_of_ble_eq_true rfl)) d_Ba_isOpposedEquation_43 ⟨Nat.le_of_ble_eq_true rfl, Nat.le_of_ble_eq_true rfl⟩) ?_
        refine lv_iconst (v := 1) hx hb d_Ba_isOpposedEquation_46 (by decide) ?_
        refine lv_icmp_ne (tgt := 54) hx hb d_Ba_isOpposedEquation_47 (by decide) (fun hc => ?_) (fun hc => ?_)
        · have hv := hv.trans (if_neg hc)
          have hk := hk.2 hc
          exact B54 _  hv hk (lv_sub hl [] rfl)
        · have hv := hv.trans (if_pos hc)
          have hk := hk.1 hc
          refine lv_iconst (v := 1) hx hb d_Ba_isOpposedEquation_50 (by decide) ?_
          refine lv_goto (tgt := 55) hx hb d_Ba_isOpposedEquation_51 (by decide) ?_
          exact B55 _ 1 hv hk (lv_sub hl [] rfl)
  unfold f_Ba_isOpposedEquation at hv
  unfold k_Ba_isOpposedEquation at hk
  refine lv_aload_n hx hb d_Ba_isOpposedEquation_0 rfl (lv_at hl 0 rfl) ?_
  refine lv_iload_n hx hb d_Ba_isOpposedEquation_1 rfl (lv_at hl 1 rfl) ?_
  obtain ⟨hk0, hk⟩ := hk
  refine zz_callV (va_runV (As := [.int a1]) (rest := []) ⟨hx, hb, hml, hown, hg⟩ (c_Ba_inside l D ty h px sa σ a1 hk0) ⟨callB_of 1 hg (gw_C m_1090) rfl rfl rfl (hg _ m_8) (hg _ m_1087) hd_Ba_inside ⟨Nat.le_of_ble_eq_true rfl, Nat.le_of_ble_eq_true rfl⟩, hg _ m_1089, hg _ ms_41⟩ (zz_preV hM hN hK hP 24 rfl rfl) rfl rfl hl.1 rfl (lv_room (Nat.le_of_ble_eq_true rfl)) d_Ba_isOpposedEquation_2 ⟨Nat.le_of_ble_eq_true rfl, Nat.le_of_ble_eq_true rfl⟩) ?_
  refine lv_istore_n (lv' := [(2, .int (f_Ba_inside a1 σ)), (0, .ref (h 24)), (1, .int a1)]) hx hb d_Ba_isOpposedEquation_5 rfl hl (by decide) rfl (fun ls hl => ?_)
  exact B6 _ a1 (f_Ba_inside a1 σ) hv hk (lv_sub hl [1, 2, 0] rfl)

-- ClauseLedger$Balance.takes(II)Z
abbrev b_Ba_takes : ByteArray := prog_2_method_2_code
def y_Ba_takes : MethodName := ⟨"ClauseLedger$Balance", "takes", "(II)Z"⟩
theorem hd_Ba_takes : y_Ba_takes.cls ≠ "java/lang/invoke/MethodHandle" ∧ y_Ba_takes.cls ≠ "java/lang/invoke/VarHandle" ∧ (parseMethodDescriptor y_Ba_takes.desc).map (fun d => d.parameters.length) = some 2 := by decide +kernel
theorem d_Ba_takes_0 : decode b_Ba_takes 0 = .ok (.iload_n 1, 1) := by decide +kernel
theorem d_Ba_takes_1 : decode b_Ba_takes 1 = .ok (.iconst (-1), 1) := by decide +kernel
theorem d_Ba_takes_2 : decode b_Ba_takes 2 = .ok (.if_icmp .ne 5, 3) := by decide +kernel
theorem d_Ba_takes_5 : decode b_Ba_takes 5 = .ok (.iconst 1, 1) := by decide +kernel
theorem d_Ba_takes_6 : decode b_Ba_takes 6 = .ok (.ireturn, 1) := by decide +kernel
theorem d_Ba_takes_7 : decode b_Ba_takes 7 = .ok (.iload_n 2, 1) := by decide +kernel
theorem d_Ba_takes_8 : decode b_Ba_takes 8 = .ok (.bipush 99, 2) := by decide +kernel
theorem d_Ba_takes_10 : decode b_Ba_takes 10 = .ok (.if_icmp .gt 9, 3) := by decide +kernel
theorem d_Ba_takes_13 : decode b_Ba_takes 13 = .ok (.iload_n 2, 1) := by decide +kernel
theorem d_Ba_takes_14 : decode b_Ba_takes 14 = .ok (.bipush (-99), 2) := by decide +kernel
theorem d_Ba_takes_16 : decode b_Ba_takes 16 = .ok (.if_icmp .ge 5, 3) := by decide +kernel
theorem d_Ba_takes_19 : decode b_Ba_takes 19 = .ok (.iconst 0, 1) := by decide +kernel
theorem d_Ba_takes_20 : decode b_Ba_takes 20 = .ok (.ireturn, 1) := by decide +kernel
theorem d_Ba_takes_21 : decode b_Ba_takes 21 = .ok (.aload_n 0, 1) := by decide +kernel
theorem d_Ba_takes_22 : decode b_Ba_takes 22 = .ok (.iload_n 1, 1) := by decide +kernel
theorem d_Ba_takes_23 : decode b_Ba_takes 23 = .ok (.invokevirtual 38, 3) := by decide +kernel
theorem d_Ba_takes_26 : decode b_Ba_takes 26 = .ok (.ifCond .ne 24, 3) := by decide +kernel
theorem d_Ba_takes_29 : decode b_Ba_takes 29 = .ok (.iload_n 2, 1) := by decide +kernel
theorem d_Ba_takes_30 : decode b_Ba_takes 30 = .ok (.ifCond .lt 24, 3) := by decide +kernel
theorem d_Ba_takes_33 : decode b_Ba_takes 33 = .ok (.aload_n 0, 1) := by decide +kernel
theorem d_Ba_takes_34 : decode b_Ba_takes 34 = .ok (.getfield 34, 3) := by decide +kernel
theorem d_Ba_takes_37 : decode b_Ba_takes 37 = .ok (.aload_n 0, 1) := by decide +kernel
theorem d_Ba_takes_38 : decode b_Ba_takes 38 = .ok (.iload_n 1, 1) := by decide +kernel
theorem d_Ba_takes_39 : decode b_Ba_takes 39 = .ok (.invokevirtual 42, 3) := by decide +kernel
theorem d_Ba_takes_42 : decode b_Ba_takes 42 = .ok (.invokevirtual 46, 3) := by decide +kernel
theorem d_Ba_takes_45 : decode b_Ba_takes 45 = .ok (.bipush 6, 2) := by decide +kernel
theorem d_Ba_takes_47 : decode b_Ba_takes 47 = .ok (.if_icmp .ne 7, 3) := by decide +kernel
theorem d_Ba_takes_50 : decode b_Ba_takes 50 = .ok (.iconst 1, 1) := by decide +kernel
theorem d_Ba_takes_51 : decode b_Ba_takes 51 = .ok (.goto 4, 3) := by decide +kernel
theorem d_Ba_takes_54 : decode b_Ba_takes 54 = .ok (.iconst 0, 1) := by decide +kernel
theorem d_Ba_takes_55 : decode b_Ba_takes 55 = .ok (.ireturn, 1) := by decide +kernel
def f_Ba_takes_19 (σ : St) : Int32 := 0
def k_Ba_takes_19 (σ : St) : Prop := True
def f_Ba_takes_55 (s0 : Int32) (σ : St) : Int32 := s0
def k_Ba_takes_55 (s0 : Int32) (σ : St) : Prop := (narrow .boolean (.int s0) = .int s0) ∧ True
def f_Ba_takes_50 (σ : St) : Int32 := f_Ba_takes_55 1 σ
def k_Ba_takes_50 (σ : St) : Prop := k_Ba_takes_55 1 σ
def f_Ba_takes_54 (σ : St) : Int32 := f_Ba_takes_55 0 σ
def k_Ba_takes_54 (σ : St) : Prop := k_Ba_takes_55 0 σ
def f_Ba_takes (a1 : Int32) (a2 : Int32) (σ : St) : Int32 := if a1 = (-1) then 1 else (if 99 < a2 then (f_Ba_takes_19 σ) else (if (-99) ≤ a2 then (if (f_Ba_isOpposedEquation a1 σ) = 0 then (if a2 < 0 then (f_Ba_takes_54 σ) else (if (f_Te_kindOf (f_Ba_inside a1 σ) σ) = 6 then (f_Ba_takes_50 σ) else (f_Ba_takes_54 σ))) else (f_Ba_takes_50 σ)) else (f_Ba_takes_19 σ)))
def k_Ba_takes (a1 : Int32) (a2 : Int32) (σ : St) : Prop := (a1 = (-1) → True) ∧ (¬ a1 = (-1) → ((99 < a2 → (k_Ba_takes_19 σ)) ∧ (¬ 99 < a2 → (((-99) ≤ a2 → ((k_Ba_isOpposedEquation a1 σ) ∧ (((f_Ba_isOpposedEquation a1 σ) = 0 → ((a2 < 0 → (k_Ba_takes_54 σ)) ∧ (¬ a2 < 0 → ((k_Ba_inside a1 σ) ∧ ((k_Te_kindOf (f_Ba_inside a1 σ) σ) ∧ (((f_Te_kindOf (f_Ba_inside a1 σ) σ) = 6 → (k_Ba_takes_50 σ)) ∧ (¬ (f_Te_kindOf (f_Ba_inside a1 σ) σ) = 6 → (k_Ba_takes_54 σ)))))))) ∧ (¬ (f_Ba_isOpposedEquation a1 σ) = 0 → (k_Ba_takes_50 σ))))) ∧ (¬ (-99) ≤ a2 → (k_Ba_takes_19 σ))))))
abbrev w_Ba_takes : List Cond := Cond.code y_Ba_takes b_Ba_takes 3 (some .boolean) :: gw
abbrev rm_Ba_takes : Room := { frames := 4, cells := 0, slots := 0, locals := 85 }
set_option maxHeartbeats 4000000 in
set_option maxRecDepth 100000 in
theorem c_Ba_takes (l : Launch) (D : va_G) (ty : Nat → ClassId) (h : Nat → Nat) (px : va_W) (sa : Nat → Nat) (σ : St) (a1 : Int32) (a2 : Int32) (hk : k_Ba_takes a1 a2 σ) : Met l y_Ba_takes w_Ba_takes rm_Ba_takes (va_Pc [.ref (h 24), .int a1, .int a2] (fun U => va_P D classes (Wc ty h σ px) U.heap ∧ va_K D classes (Ta ty) U ∧ NW U ∧ MK sa (fun _ => False) U U.heap)) (k2_QcV (.int (f_Ba_takes a1 a2 σ))) 0 0 (fun _ => False) := by
  refine Met.ofW (cc := b_Ba_takes) (maxL := 3) (ret := (some .boolean)) (by decide) rfl ?_
  intro p e s m args below meth c s₁ B hml hv
  obtain ⟨ha, hP, hK, hN, hM⟩ := hv
  have hx := B.exec
  have hb := B.bytes
  have hr := B.returns
  have hg : ∀ w ∈ gw, w.before args s = true := fun w h9 => atoms_spec (ws := w_Ba_takes) B.pre w (List.mem_cons_of_mem _ h9)
  have hown : s.vm.findClass "ClauseLedger$Balance" = some m.cls := findClass_of_methodNamed B.named
  have hlocks := B.notSynchronized
  have he : entryFrame m args 3 = entryFrame m ([.ref (h 24), .int a1, .int a2] : List Value).toArray 3 := by rw [ha]
  rw [he, lg_entry_eq]
  have hl := lv_entry ([.ref (h 24), .int a1, .int a2]) (n := 3) (Nat.le_of_ble_eq_true rfl)
  generalize (lg_sl ([.ref (h 24), .int a1, .int a2]) ++ List.replicate (3 - (lg_sl ([.ref (h 24), .int a1, .int a2])).length) Slot.unset).toArray = ls at hl ⊢
  have hl : lv_has ls 3 [(0, .ref (h 24)), (1, .int a1), (2, .int a2)] := hl
  generalize hv : f_Ba_takes a1 a2 σ = v
  replace hv := hv.symm
  have B19 : ∀ (ls : Array Slot), v = f_Ba_takes_19 σ → k_Ba_takes_19 σ → lv_has ls 3 [] → W p l e (headSpec w_Ba_takes rm_Ba_takes).room s m args below meth c s.heap [] 0 0 (MQ below (k2_QcV (.int v)) args s 0 0 (fun _ => False)) (F0 m 19 ls []) := by
    intro ls hv hk hl
    unfold f_Ba_takes_19 at hv
    unfold k_Ba_takes_19 at hk
    refine lv_iconst (v := 0) hx hb d_Ba_takes_19 (by decide) ?_
    exact W.zret hx hb hr rfl (fun t ht hW => ⟨by rw [hv], ht⟩) (fun q h => nomatch h) d_Ba_takes_20
  have B55 : ∀ (ls : Array Slot) (s0 : Int32), v = f_Ba_takes_55 s0 σ → k_Ba_takes_55 s0 σ → lv_has ls 3 [] → W p l e (headSpec w_Ba_takes rm_Ba_takes).room s m args below meth c s.heap [] 0 0 (MQ below (k2_QcV (.int v)) args s 0 0 (fun _ => False)) (F0 m 55 ls [.int s0]) := by
    intro ls s0 hv hk hl
    unfold f_Ba_takes_55 at hv
    unfold k_Ba_takes_55 at hk
    obtain ⟨hk0, hk⟩ := hk
    exact W.zret hx hb hr hk0 (fun t ht hW => ⟨by rw [hv], ht⟩) (fun q h => nomatch h) d_Ba_takes_55
  have B50 : ∀ (ls : Array Slot), v = f_Ba_takes_50 σ → k_Ba_takes_50 σ → lv_has ls 3 [] → W p l e (headSpec w_Ba_takes rm_Ba_takes).room s m args below meth c s.heap [] 0 0 (MQ below (k2_QcV (.int v)) args s 0 0 (fun _ => False)) (F0 m 50 ls []) := by
    intro ls hv hk hl
    unfold f_Ba_takes_50 at hv
    unfold k_Ba_takes_50 at hk
    refine lv_iconst (v := 1) hx hb d_Ba_takes_50 (by decide) ?_
    refine lv_goto (tgt := 55) hx hb d_Ba_takes_51 (by decide) ?_
    exact B55 _ 1 hv hk (lv_sub hl [] rfl)
  have B54 : ∀ (ls : Array Slot), v = f_Ba_takes_54 σ → k_Ba_takes_54 σ → lv_has ls 3 [] → W p l e (headSpec w_Ba_takes rm_Ba_takes).room s m args below meth c s.heap [] 0 0 (MQ below (k2_QcV (.int v)) args s 0 0 (fun _ => False)) (F0 m 54 ls []) := by
    intro ls hv hk hl
    unfold f_Ba_takes_54 at hv
    unfold k_Ba_takes_54 at hk
    refine lv_iconst (v := 0) hx hb d_Ba_takes_54 (by decide) ?_
    exact B55 _ 0 hv hk (lv_sub hl [] rfl)
  unfold f_Ba_takes at hv
  unfold k_Ba_takes at hk
  refine lv_iload_n hx hb d_Ba_takes_0 rfl (lv_at hl 1 rfl) ?_
  refine lv_iconst (v := -1) hx hb d_Ba_takes_1 (by decide) ?_
  refine lv_icmp_ne (tgt := 7) hx hb d_Ba_takes_2 (by decide) (fun hc => ?_) (fun hc => ?_)
  · have hv := hv.trans (if_neg hc)
    have hk := hk.2 hc
    refine lv_iload_n hx hb d_Ba_takes_7 rfl (lv_at hl 2 rfl) ?_
    refine lv_bipush (v := 99) hx hb d_Ba_takes_8 (by decide) ?_
    refine lv_icmp_gt (tgt := 19) hx hb d_Ba_takes_10 (by decide) (fun hc => ?_) (fun hc => ?_)
    · have hv := hv.trans (if_pos hc)
      have hk := hk.1 hc
      exact B19 _  hv hk (lv_sub hl [] rfl)
    · have hv := hv.trans (if_neg hc)
      have hk := hk.2 hc
      refine lv_iload_n hx hb d_Ba_takes_13 rfl (lv_at hl 2 rfl) ?_
      refine lv_bipush (v := -99) hx hb d_Ba_takes_14 (by decide) ?_
      refine lv_icmp_ge (tgt := 21) hx hb d_Ba_takes_16 (by decide) (fun hc => ?_) (fun hc => ?_)
      · have hv := hv.trans (if_pos hc)
        have hk := hk.1 hc
        refine lv_aload_n hx hb d_Ba_takes_21 rfl (lv_at hl 0 rfl) ?_
        refine lv_iload_n hx hb d_Ba_takes_22 rfl (lv_at hl 1 rfl) ?_
        obtain ⟨hk0, hk⟩ := hk
        refine zz_callV (va_runV (As := [.int a1]) (rest := []) ⟨hx, hb, hml, hown, hg⟩ (c_Ba_isOpposedEquation l D ty h px sa σ a1 hk0) ⟨callB_of 1 hg (gw_C m_1086) rfl rfl rfl (hg _ m_8) (hg _ m_1083) hd_Ba_isOpposedEquation ⟨Nat.le_of_ble_eq_true rfl, Nat.le_of_ble_eq_true rfl⟩, hg _ m_1085, hg _ ms_40⟩ (zz_preV hM hN hK hP 24 rfl rfl) rfl rfl hl.1 rfl (lv_room (Nat.le_of_ble_eq_true rfl)) d_Ba_takes_23 ⟨Nat.le_of_ble_eq_true rfl, Nat.le_of_ble_eq_true rfl⟩) ?_
        refine lv_if_ne (tgt := 50) hx hb d_Ba_takes_26 (by decide) (fun hc => ?_) (fun hc => ?_)
        · have hv := hv.trans (if_neg hc)
          have hk := hk.2 hc
          exact B50 _  hv hk (lv_sub hl [] rfl)
        · have hv := hv.trans (if_pos hc)
          have hk := hk.1 hc
          refine lv_iload_n hx hb d_Ba_takes_29 rfl (lv_at hl 2 rfl) ?_
          refine lv_if_lt (tgt := 54) hx hb d_Ba_takes_30 (by decide) (fun hc => ?_) (fun hc => ?_)
          · have hv := hv.trans (if_pos hc)
            have hk := hk.1 hc
            exact B54 _  hv hk (lv_sub hl [] rfl)
          · have hv := hv.trans (if_neg hc)
            have hk := hk.2 hc
            refine lv_aload_n hx hb d_Ba_takes_33 rfl (lv_at hl 0 rfl) ?_
            refine va_get (v := .ref (h 6)) (C := R_Ba) (T := T_Ba) (N := 6) hx hb hg in_Ba hown hK hP 24 rfl rfl 0 (by decide) (hg _ m_207) (fun _ h9 => h9) rfl d_Ba_takes_34 ?_
            refine lv_aload_n hx hb d_Ba_takes_37 rfl (lv_at hl 0 rfl) ?_
            refine lv_iload_n hx hb d_Ba_takes_38 rfl (lv_at hl 1 rfl) ?_
            obtain ⟨hk0, hk⟩ := hk
            refine zz_callV (va_runV (As := [.int a1]) (rest := [.ref (h 6)]) ⟨hx, hb, hml, hown, hg⟩ (c_Ba_inside l D ty h px sa σ a1 hk0) ⟨callB_of 1 hg (gw_C m_1090) rfl rfl rfl (hg _ m_8) (hg _ m_1087) hd_Ba_inside ⟨Nat.le_of_ble_eq_true rfl, Nat.le_of_ble_eq_true rfl⟩, hg _ m_1089, hg _ ms_41⟩ (zz_preV hM hN hK hP 24 rfl rfl) rfl rfl hl.1 rfl (lv_room (Nat.le_of_ble_eq_true rfl)) d_Ba_takes_39 ⟨Nat.le_of_ble_eq_true rfl, Nat.le_of_ble_eq_true rfl⟩) ?_
            obtain ⟨hk0, hk⟩ := hk
            refine zz_callV (va_runV (As := [.int (f_Ba_inside a1 σ)]) (rest := []) ⟨hx, hb, hml, hown, hg⟩ (c_Te_kindOf l D ty h px sa σ (f_Ba_inside a1 σ) hk0) ⟨callB_of 1 hg (gw_C m_434) rfl rfl rfl (hg _ m_3) (hg _ m_1091) hd_Te_kindOf ⟨Nat.le_of_ble_eq_true rfl, Nat.le_of_ble_eq_true rfl⟩, hg _ m_432, hg _ m_433⟩ (zz_preV hM hN hK hP 6 rfl rfl) rfl rfl hl.1 rfl (lv_room (Nat.le_of_ble_eq_true rfl)) d_Ba_takes_42 ⟨Nat.le_of_ble_eq_true rfl, Nat.le_of_ble_eq_true rfl⟩) ?_
            refine lv_bipush (v := 6) hx hb d_Ba_takes_45 (by decide) ?_
            refine lv_icmp_ne (tgt := 54) hx hb d_Ba_takes_47 (by decide) (fun hc => ?_) (fun hc => ?_)
            · have hv := hv.trans (if_neg hc)
              have hk := hk.2 hc
              exact B54 _  hv hk (lv_sub hl [] rfl)
            · have hv := hv.trans (if_pos hc)
              have hk := hk.1 hc
              exact B50 _  hv hk (lv_sub hl [] rfl)
      · have hv := hv.trans (if_neg hc)
        have hk := hk.2 hc
        exact B19 _  hv hk (lv_sub hl [] rfl)
  · have hv := hv.trans (if_pos hc)
    have hk := hk.1 hc
    refine lv_iconst (v := 1) hx hb d_Ba_takes_5 (by decide) ?_
    exact W.zret hx hb hr rfl (fun t ht hW => ⟨by rw [hv], ht⟩) (fun q h => nomatch h) d_Ba_takes_6

