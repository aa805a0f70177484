-- ClauseLedger$Reader.readVariable()I
abbrev b_Rd_readVariable : ByteArray := prog_5_method_5_code
def y_Rd_readVariable : MethodName := ⟨"ClauseLedger$Reader", "readVariable", "()I"⟩
theorem hd_Rd_readVariable : y_Rd_readVariable.cls ≠ "java/lang/invoke/MethodHandle" ∧ y_Rd_readVariable.cls ≠ "java/lang/invoke/VarHandle" ∧ (parseMethodDescriptor y_Rd_readVariable.desc).map (fun d => d.parameters.length) = some 0 := by decide +kernel
theorem d_Rd_readVariable_0 : decode b_Rd_readVariable 0 = .ok (.aload_n 0, 1) := by decide +kernel
theorem d_Rd_readVariable_1 : decode b_Rd_readVariable 1 = .ok (.getfield 15, 3) := by decide +kernel
theorem d_Rd_readVariable_4 : decode b_Rd_readVariable 4 = .ok (.aload_n 0, 1) := by decide +kernel
theorem d_Rd_readVariable_5 : decode b_Rd_readVariable 5 = .ok (.getfield 9, 3) := by decide +kernel
theorem d_Rd_readVariable_8 : decode b_Rd_readVariable 8 = .ok (.invokevirtual 37, 3) := by decide +kernel
theorem d_Rd_readVariable_11 : decode b_Rd_readVariable 11 = .ok (.bipush 120, 2) := by decide +kernel
theorem d_Rd_readVariable_13 : decode b_Rd_readVariable 13 = .ok (.isub, 1) := by decide +kernel
theorem d_Rd_readVariable_14 : decode b_Rd_readVariable 14 = .ok (.istore_n 1, 1) := by decide +kernel
theorem d_Rd_readVariable_15 : decode b_Rd_readVariable 15 = .ok (.aload_n 0, 1) := by decide +kernel
theorem d_Rd_readVariable_16 : decode b_Rd_readVariable 16 = .ok (.dup, 1) := by decide +kernel
theorem d_Rd_readVariable_17 : decode b_Rd_readVariable 17 = .ok (.getfield 9, 3) := by decide +kernel
theorem d_Rd_readVariable_20 : decode b_Rd_readVariable 20 = .ok (.iconst 1, 1) := by decide +kernel
theorem d_Rd_readVariable_21 : decode b_Rd_readVariable 21 = .ok (.iadd, 1) := by decide +kernel
theorem d_Rd_readVariable_22 : decode b_Rd_readVariable 22 = .ok (.putfield 9, 3) := by decide +kernel
theorem d_Rd_readVariable_25 : decode b_Rd_readVariable 25 = .ok (.aload_n 0, 1) := by decide +kernel
theorem d_Rd_readVariable_26 : decode b_Rd_readVariable 26 = .ok (.getfield 19, 3) := by decide +kernel
theorem d_Rd_readVariable_29 : decode b_Rd_readVariable 29 = .ok (.iload_n 1, 1) := by decide +kernel
theorem d_Rd_readVariable_30 : decode b_Rd_readVariable 30 = .ok (.invokevirtual 74, 3) := by decide +kernel
theorem d_Rd_readVariable_33 : decode b_Rd_readVariable 33 = .ok (.ifCond .eq 7, 3) := by decide +kernel
theorem d_Rd_readVariable_36 : decode b_Rd_readVariable 36 = .ok (.iload_n 1, 1) := by decide +kernel
theorem d_Rd_readVariable_37 : decode b_Rd_readVariable 37 = .ok (.goto 4, 3) := by decide +kernel
theorem d_Rd_readVariable_40 : decode b_Rd_readVariable 40 = .ok (.iconst (-1), 1) := by decide +kernel
theorem d_Rd_readVariable_41 : decode b_Rd_readVariable 41 = .ok (.ireturn, 1) := by decide +kernel
def f_Rd_readVariable_41 (s0 : Int32) (σ : St) : Int32 × St := (s0, σ)
def k_Rd_readVariable_41 (s0 : Int32) (σ : St) : Prop := True
def f_Rd_readVariable_25 (x1 : Int32) (σ : St) : Int32 × St := if (f_Sg_isVariable x1 σ) = 0 then (f_Rd_readVariable_41 (-1) σ) else (f_Rd_readVariable_41 x1 σ)
def k_Rd_readVariable_25 (x1 : Int32) (σ : St) : Prop := (k_Sg_isVariable x1 σ) ∧ (((f_Sg_isVariable x1 σ) = 0 → (k_Rd_readVariable_41 (-1) σ)) ∧ (¬ (f_Sg_isVariable x1 σ) = 0 → (k_Rd_readVariable_41 x1 σ)))
def f_Rd_readVariable_15 (x1 : Int32) (σ : St) : Int32 × St := f_Rd_readVariable_25 x1 (sF σ 20 3 ((σ.1 20 3) + 1))
def k_Rd_readVariable_15 (x1 : Int32) (σ : St) : Prop := k_Rd_readVariable_25 x1 (sF σ 20 3 ((σ.1 20 3) + 1))
def f_Rd_readVariable (σ : St) : Int32 × St := f_Rd_readVariable_15 ((f_Dr_letter (σ.1 20 3) σ) - 120) σ
def k_Rd_readVariable (σ : St) : Prop := (k_Dr_letter (σ.1 20 3) σ) ∧ (k_Rd_readVariable_15 ((f_Dr_letter (σ.1 20 3) σ) - 120) σ)
abbrev w_Rd_readVariable : List Cond := Cond.code y_Rd_readVariable b_Rd_readVariable 2 (some .int) :: gw
abbrev rm_Rd_readVariable : Room := { frames := 1, cells := 0, slots := 0, locals := 21 }
set_option maxHeartbeats 4000000 in
set_option maxRecDepth 100000 in
theorem c_Rd_readVariable (l : Launch) (D : va_G) (ty : Nat → ClassId) (h : Nat → Nat) (px : va_W) (sa : Nat → Nat) (σ : St) (sz : Nat) (hk : k_Rd_readVariable σ) : Met l y_Rd_readVariable w_Rd_readVariable rm_Rd_readVariable (va_Pc [.ref (h 20)] (fun U => U.heap.size = sz ∧ va_P D classes (Wc ty h σ px) U.heap ∧ va_K D classes (Ta ty) U ∧ NW U ∧ MK sa (va_A (Wc ty h σ px) sz) U U.heap ∧ va_D (fun _ => True) (Wc ty h σ px))) (va_Qi (fun r (u : St) => (r, u) = f_Rd_readVariable σ) (fun u t => va_P D classes (Wc ty h u px) t.heap) (va_A (Wc ty h σ px) sz)) 0 0 (va_A (Wc ty h σ px) sz) := by
  refine Met.ofW (cc := b_Rd_readVariable) (maxL := 2) (ret := (some .int)) (by decide) rfl ?_
  intro p e s m args below meth c s₁ B hml hv
  obtain ⟨ha, hsz, hP, hK, hN, hM, hD0⟩ := hv
  have hx := B.exec
  have hb := B.bytes
  have hr := B.returns
  have hg : ∀ w ∈ gw, w.before args s = true := fun w h9 => atoms_spec (ws := w_Rd_readVariable) B.pre w (List.mem_cons_of_mem _ h9)
  have hown : s.vm.findClass "ClauseLedger$Reader" = some m.cls := findClass_of_methodNamed B.named
  have hlocks := B.notSynchronized
  subst hsz
  have hD := hD0.self (sz := s.heap.size)
  generalize hAe : va_A (Wc ty h σ px) s.heap.size = A at hD hM ⊢
  have hA : ∀ q : Nat, s.heap.size ≤ q → A q := fun q h9 => by rw [← hAe]; exact Or.inr h9
  have hS : va_S A s.heap s.heap [] := va_S.rf
  have he : entryFrame m args 2 = entryFrame m ([.ref (h 20)] : List Value).toArray 2 := by rw [ha]
  rw [he, lg_entry_eq]
  have hl := lv_entry ([.ref (h 20)]) (n := 2) (Nat.le_of_ble_eq_true rfl)
  generalize (lg_sl ([.ref (h 20)]) ++ List.replicate (2 - (lg_sl ([.ref (h 20)])).length) Slot.unset).toArray = ls at hl ⊢
  have hl : lv_has ls 2 [(0, .ref (h 20))] := hl
  generalize hv : f_Rd_readVariable σ = v
  replace hv := hv.symm
  have B41 : ∀ (H : Heap) (locs : List Loc) (ls : Array Slot) (s0 : Int32) (σ : St), v = f_Rd_readVariable_41 s0 σ → k_Rd_readVariable_41 s0 σ → lv_has ls 2 [] → va_P D classes (Wc ty h σ px) H → va_D A (Wc ty h σ px) → va_S A s.heap H locs → W p l e (headSpec w_Rd_readVariable rm_Rd_readVariable).room s m args below meth c H locs 0 0 (MQ below (va_Qi (fun r (u : St) => (r, u) = v) (fun u t => va_P D classes (Wc ty h u px) t.heap) A) args s 0 0 A) (F0 m 41 ls [.int s0]) := by
    intro H locs ls s0 σ hv hk hl hP hD hS
    unfold f_Rd_readVariable_41 at hv
    unfold k_Rd_readVariable_41 at hk
    exact W.iret hx hb hr (fun t ht hW => ⟨⟨_, _, rfl, hv.symm, by dsimp only; rw [ht]; exact hP⟩, hS.F ht⟩) hS.2.2 d_Rd_readVariable_41
  have B25 : ∀ (H : Heap) (locs : List Loc) (ls : Array Slot) (x1 : Int32) (σ : St), v = f_Rd_readVariable_25 x1 σ → k_Rd_readVariable_25 x1 σ → lv_has ls 2 [(0, .ref (h 20)), (1, .int x1)] → va_P D classes (Wc ty h σ px) H → va_D A (Wc ty h σ px) → va_S A s.heap H locs → W p l e (headSpec w_Rd_readVariable rm_Rd_readVariable).room s m args below meth c H locs 0 0 (MQ below (va_Qi (fun r (u : St) => (r, u) = v) (fun u t => va_P D classes (Wc ty h u px) t.heap) A) args s 0 0 A) (F0 m 25 ls []) := by
    intro H locs ls x1 σ hv hk hl hP hD hS
    unfold f_Rd_readVariable_25 at hv
    unfold k_Rd_readVariable_25 at hk
    refine lv_aload_n hx hb d_Rd_readVariable_25 rfl (lv_at hl 0 rfl) ?_
    refine va_get (v := .ref (h 1)) (C := R_Rd) (T := T_Rd) (N := 4) hx hb hg in_Rd hown hK hP 20 rfl rfl 1 (by decide) (hg _ m_134) (fun _ h9 => h9) rfl d_Rd_readVariable_26 ?_
    refine lv_iload_n hx hb d_Rd_readVariable_29 rfl (lv_at hl 1 rfl) ?_
    obtain ⟨hk0, hk⟩ := hk
    refine zz_callV (va_runV (As := [.int x1]) (rest := []) ⟨hx, hb, hml, hown, hg⟩ (c_Sg_isVariable l D ty h px sa σ x1 hk0) ⟨callB_of 1 hg (gw_C m_357) rfl rfl rfl (hg _ m_2) (hg _ m_667) hd_Sg_isVariable ⟨Nat.le_of_ble_eq_true rfl, Nat.le_of_ble_eq_true rfl⟩, hg _ m_355, hg _ m_356⟩ (zz_preV (hM.at hS) hN hK hP 1 rfl rfl) rfl rfl hl.1 rfl (lv_room (Nat.le_of_ble_eq_true rfl)) d_Rd_readVariable_30 ⟨Nat.le_of_ble_eq_true rfl, Nat.le_of_ble_eq_true rfl⟩) ?_
    refine lv_if_eq (tgt := 40) hx hb d_Rd_readVariable_33 (by decide) (fun hc => ?_) (fun hc => ?_)
    · have hv := hv.trans (if_pos hc)
      have hk := hk.1 hc
      refine lv_iconst (v := -1) hx hb d_Rd_readVariable_40 (by decide) ?_
      exact B41 _ _ _ (-1) σ hv hk (lv_sub hl [] rfl) hP hD hS
    · have hv := hv.trans (if_neg hc)
      have hk := hk.2 hc
      refine lv_iload_n hx hb d_Rd_readVariable_36 rfl (lv_at hl 1 rfl) ?_
      refine lv_goto (tgt := 41) hx hb d_Rd_readVariable_37 (by decide) ?_
      exact B41 _ _ _ x1 σ hv hk (lv_sub hl [] rfl) hP hD hS
  have B15 : ∀ (H : Heap) (locs : List Loc) (ls : Array Slot) (x1 : Int32) (σ : St), v = f_Rd_readVariable_15 x1 σ → k_Rd_readVariable_15 x1 σ → lv_has ls 2 [(0, .ref (h 20)), (1, .int x1)] → va_P D classes (Wc ty h σ px) H → va_D A (Wc ty h σ px) → va_S A s.heap H locs → W p l e (headSpec w_Rd_readVariable rm_Rd_readVariable).room s m args below meth c H locs 0 0 (MQ below (va_Qi (fun r (u : St) => (r, u) = v) (fun u t => va_P D classes (Wc ty h u px) t.heap) A) args s 0 0 A) (F0 m 15 ls []) := by
    intro H locs ls x1 σ hv hk hl hP hD hS
    unfold f_Rd_readVariable_15 at hv
    unfold k_Rd_readVariable_15 at hk
    refine lv_aload_n hx hb d_Rd_readVariable_15 rfl (lv_at hl 0 rfl) ?_
    refine lv_dup hx hb d_Rd_readVariable_16 rfl ?_
    refine va_get (v := .int (σ.1 20 3)) (C := R_Rd) (T := T_Rd) (N := 4) hx hb hg in_Rd hown hK hP 20 rfl rfl 3 (by decide) (hg _ m_136) (fun _ h9 => h9) rfl d_Rd_readVariable_17 ?_
    refine lv_iconst (v := 1) hx hb d_Rd_readVariable_20 (by decide) ?_
    refine lv_iadd hx hb d_Rd_readVariable_21 ?_
    refine va_put (v := .int ((σ.1 20 3) + 1)) (ty := .int) (C := R_Rd) (T := T_Rd) (N := 4) hx hb hg in_Rd ty_Rd ok_Rd nm_Rd hown hK hP hD hS 20 rfl rfl 3 (by decide) (hg _ m_136) (fun _ h9 => h9) rfl (by decide +kernel) rfl rfl (Nat.le_of_ble_eq_true rfl) d_Rd_readVariable_22 (fun H locs hP hD hS => ?_)
    have hP : va_P D classes (Wc ty h (sF σ 20 3 ((σ.1 20 3) + 1)) px) H := hP
    have hD : va_D A (Wc ty h (sF σ 20 3 ((σ.1 20 3) + 1)) px) := hD
    exact B25 _ _ _ x1 (sF σ 20 3 ((σ.1 20 3) + 1)) hv hk (lv_sub hl [0, 1] rfl) hP hD hS
  unfold f_Rd_readVariable at hv
  unfold k_Rd_readVariable at hk
  refine lv_aload_n hx hb d_Rd_readVariable_0 rfl (lv_at hl 0 rfl) ?_
  refine va_get (v := .ref (h 18)) (C := R_Rd) (T := T_Rd) (N := 4) hx hb hg in_Rd hown hK hP 20 rfl rfl 0 (by decide) (hg _ m_133) (fun _ h9 => h9) rfl d_Rd_readVariable_1 ?_
  refine lv_aload_n hx hb d_Rd_readVariable_4 rfl (lv_at hl 0 rfl) ?_
  refine va_get (v := .int (σ.1 20 3)) (C := R_Rd) (T := T_Rd) (N := 4) hx hb hg in_Rd hown hK hP 20 rfl rfl 3 (by decide) (hg _ m_136) (fun _ h9 => h9) rfl d_Rd_readVariable_5 ?_
  obtain ⟨hk0, hk⟩ := hk
  refine zz_callV (va_runV (As := [.int (σ.1 20 3)]) (rest := []) ⟨hx, hb, hml, hown, hg⟩ (c_Dr_letter l D ty h px sa σ (σ.1 20 3) hk0) ⟨callB_of 1 hg (gw_C m_583) rfl rfl rfl (hg _ m_4) (hg _ m_580) hd_Dr_letter ⟨Nat.le_of_ble_eq_true rfl, Nat.le_of_ble_eq_true rfl⟩, hg _ m_581, hg _ m_582⟩ (zz_preV (hM.at hS) hN hK hP 18 rfl rfl) rfl rfl hl.1 rfl (lv_room (Nat.le_of_ble_eq_true rfl)) d_Rd_readVariable_8 ⟨Nat.le_of_ble_eq_true rfl, Nat.le_of_ble_eq_true rfl⟩) ?_
  refine lv_bipush (v := 120) hx hb d_Rd_readVariable_11 (by decide) ?_
  refine lv_isub hx hb d_Rd_readVariable_13 ?_
  refine lv_istore_n (lv' := [(1, .int ((f_Dr_letter (σ.1 20 3) σ) - 120)), (0, .ref (h 20))]) hx hb d_Rd_readVariable_14 rfl hl (by decide) rfl (fun ls hl => ?_)
  exact B15 _ _ _ ((f_Dr_letter (σ.1 20 3) σ) - 120) σ hv hk (lv_sub hl [1, 0] rfl) hP hD hS

-- ClauseLedger$Reader.readBareSymbol()I
abbrev b_Rd_readBareSymbol : ByteArray := prog_5_method_4_code
def y_Rd_readBareSymbol : MethodName := ⟨"ClauseLedger$Reader", "readBareSymbol", "()I"⟩
theorem hd_Rd_readBareSymbol : y_Rd_readBareSymbol.cls ≠ "java/lang/invoke/MethodHandle" ∧ y_Rd_readBareSymbol.cls ≠ "java/lang/invoke/VarHandle" ∧ (parseMethodDescriptor y_Rd_readBareSymbol.desc).map (fun d => d.parameters.length) = some 0 := by decide +kernel
theorem d_Rd_readBareSymbol_0 : decode b_Rd_readBareSymbol 0 = .ok (.aload_n 0, 1) := by decide +kernel
theorem d_Rd_readBareSymbol_1 : decode b_Rd_readBareSymbol 1 = .ok (.getfield 15, 3) := by decide +kernel
theorem d_Rd_readBareSymbol_4 : decode b_Rd_readBareSymbol 4 = .ok (.aload_n 0, 1) := by decide +kernel
theorem d_Rd_readBareSymbol_5 : decode b_Rd_readBareSymbol 5 = .ok (.getfield 9, 3) := by decide +kernel
theorem d_Rd_readBareSymbol_8 : decode b_Rd_readBareSymbol 8 = .ok (.invokevirtual 37, 3) := by decide +kernel
theorem d_Rd_readBareSymbol_11 : decode b_Rd_readBareSymbol 11 = .ok (.bipush 97, 2) := by decide +kernel
theorem d_Rd_readBareSymbol_13 : decode b_Rd_readBareSymbol 13 = .ok (.isub, 1) := by decide +kernel
theorem d_Rd_readBareSymbol_14 : decode b_Rd_readBareSymbol 14 = .ok (.istore_n 1, 1) := by decide +kernel
theorem d_Rd_readBareSymbol_15 : decode b_Rd_readBareSymbol 15 = .ok (.aload_n 0, 1) := by decide +kernel
theorem d_Rd_readBareSymbol_16 : decode b_Rd_readBareSymbol 16 = .ok (.dup, 1) := by decide +kernel
theorem d_Rd_readBareSymbol_17 : decode b_Rd_readBareSymbol 17 = .ok (.getfield 9, 3) := by decide +kernel
theorem d_Rd_readBareSymbol_20 : decode b_Rd_readBareSymbol 20 = .ok (.iconst 1, 1) := by decide +kernel
theorem d_Rd_readBareSymbol_21 : decode b_Rd_readBareSymbol 21 = .ok (.iadd, 1) := by decide +kernel
theorem d_Rd_readBareSymbol_22 : decode b_Rd_readBareSymbol 22 = .ok (.putfield 9, 3) := by decide +kernel
theorem d_Rd_readBareSymbol_25 : decode b_Rd_readBareSymbol 25 = .ok (.aload_n 0, 1) := by decide +kernel
theorem d_Rd_readBareSymbol_26 : decode b_Rd_readBareSymbol 26 = .ok (.getfield 19, 3) := by decide +kernel
theorem d_Rd_readBareSymbol_29 : decode b_Rd_readBareSymbol 29 = .ok (.iload_n 1, 1) := by decide +kernel
theorem d_Rd_readBareSymbol_30 : decode b_Rd_readBareSymbol 30 = .ok (.invokevirtual 64, 3) := by decide +kernel
theorem d_Rd_readBareSymbol_33 : decode b_Rd_readBareSymbol 33 = .ok (.ifCond .eq 15, 3) := by decide +kernel
theorem d_Rd_readBareSymbol_36 : decode b_Rd_readBareSymbol 36 = .ok (.aload_n 0, 1) := by decide +kernel
theorem d_Rd_readBareSymbol_37 : decode b_Rd_readBareSymbol 37 = .ok (.getfield 19, 3) := by decide +kernel
theorem d_Rd_readBareSymbol_40 : decode b_Rd_readBareSymbol 40 = .ok (.iload_n 1, 1) := by decide +kernel
theorem d_Rd_readBareSymbol_41 : decode b_Rd_readBareSymbol 41 = .ok (.invokevirtual 68, 3) := by decide +kernel
theorem d_Rd_readBareSymbol_44 : decode b_Rd_readBareSymbol 44 = .ok (.iconst (-1), 1) := by decide +kernel
theorem d_Rd_readBareSymbol_45 : decode b_Rd_readBareSymbol 45 = .ok (.if_icmp .eq 5, 3) := by decide +kernel
theorem d_Rd_readBareSymbol_48 : decode b_Rd_readBareSymbol 48 = .ok (.iconst (-1), 1) := by decide +kernel
theorem d_Rd_readBareSymbol_49 : decode b_Rd_readBareSymbol 49 = .ok (.ireturn, 1) := by decide +kernel
theorem d_Rd_readBareSymbol_50 : decode b_Rd_readBareSymbol 50 = .ok (.aload_n 0, 1) := by decide +kernel
theorem d_Rd_readBareSymbol_51 : decode b_Rd_readBareSymbol 51 = .ok (.getfield 23, 3) := by decide +kernel
theorem d_Rd_readBareSymbol_54 : decode b_Rd_readBareSymbol 54 = .ok (.iconst 0, 1) := by decide +kernel
theorem d_Rd_readBareSymbol_55 : decode b_Rd_readBareSymbol 55 = .ok (.aload_n 0, 1) := by decide +kernel
theorem d_Rd_readBareSymbol_56 : decode b_Rd_readBareSymbol 56 = .ok (.getfield 19, 3) := by decide +kernel
theorem d_Rd_readBareSymbol_59 : decode b_Rd_readBareSymbol 59 = .ok (.iload_n 1, 1) := by decide +kernel
theorem d_Rd_readBareSymbol_60 : decode b_Rd_readBareSymbol 60 = .ok (.invokevirtual 71, 3) := by decide +kernel
theorem d_Rd_readBareSymbol_63 : decode b_Rd_readBareSymbol 63 = .ok (.iload_n 1, 1) := by decide +kernel
theorem d_Rd_readBareSymbol_64 : decode b_Rd_readBareSymbol 64 = .ok (.iconst (-1), 1) := by decide +kernel
theorem d_Rd_readBareSymbol_65 : decode b_Rd_readBareSymbol 65 = .ok (.iconst (-1), 1) := by decide +kernel
theorem d_Rd_readBareSymbol_66 : decode b_Rd_readBareSymbol 66 = .ok (.invokevirtual 55, 3) := by decide +kernel
theorem d_Rd_readBareSymbol_69 : decode b_Rd_readBareSymbol 69 = .ok (.ireturn, 1) := by decide +kernel
def f_Rd_readBareSymbol_48 (σ : St) : Int32 × St := ((-1), σ)
def k_Rd_readBareSymbol_48 (σ : St) : Prop := True
def f_Rd_readBareSymbol_69 (s0 : Int32) (σ : St) : Int32 × St := (s0, σ)
def k_Rd_readBareSymbol_69 (s0 : Int32) (σ : St) : Prop := True
def f_Rd_readBareSymbol_25 (x1 : Int32) (σ : St) : Int32 × St := if (f_Sg_isSymbol x1 σ) = 0 then (f_Rd_readBareSymbol_48 σ) else (if (f_Sg_firstOfSymbol x1 σ) = (-1) then (f_Rd_readBareSymbol_69 ((f_Te_make 0 (f_Sg_sortOfSymbol x1 σ) x1 (-1) (-1) σ).1) ((f_Te_make 0 (f_Sg_sortOfSymbol x1 σ) x1 (-1) (-1) σ).2)) else (f_Rd_readBareSymbol_48 σ))
def k_Rd_readBareSymbol_25 (x1 : Int32) (σ : St) : Prop := (k_Sg_isSymbol x1 σ) ∧ (((f_Sg_isSymbol x1 σ) = 0 → (k_Rd_readBareSymbol_48 σ)) ∧ (¬ (f_Sg_isSymbol x1 σ) = 0 → ((k_Sg_firstOfSymbol x1 σ) ∧ (((f_Sg_firstOfSymbol x1 σ) = (-1) → ((k_Sg_sortOfSymbol x1 σ) ∧ ((k_Te_make 0 (f_Sg_sortOfSymbol x1 σ) x1 (-1) (-1) σ) ∧ (k_Rd_readBareSymbol_69 ((f_Te_make 0 (f_Sg_sortOfSymbol x1 σ) x1 (-1) (-1) σ).1) ((f_Te_make 0 (f_Sg_sortOfSymbol x1 σ) x1 (-1) (-1) σ).2))))) ∧ (¬ (f_Sg_firstOfSymbol x1 σ) = (-1) → (k_Rd_readBareSymbol_48 σ))))))
def f_Rd_readBareSymbol_15 (x1 : Int32) (σ : St) : Int32 × St := f_Rd_readBareSymbol_25 x1 (sF σ 20 3 ((σ.1 20 3) + 1))
def k_Rd_readBareSymbol_15 (x1 : Int32) (σ : St) : Prop := k_Rd_readBareSymbol_25 x1 (sF σ 20 3 ((σ.1 20 3) + 1))
def f_Rd_readBareSymbol (σ : St) : Int32 × St := f_Rd_readBareSymbol_15 ((f_Dr_letter (σ.1 20 3) σ) - 97) σ
def k_Rd_readBareSymbol (σ : St) : Prop := (k_Dr_letter (σ.1 20 3) σ) ∧ (k_Rd_readBareSymbol_15 ((f_Dr_letter (σ.1 20 3) σ) - 97) σ)
abbrev w_Rd_readBareSymbol : List Cond := Cond.code y_Rd_readBareSymbol b_Rd_readBareSymbol 2 (some .int) :: gw
abbrev rm_Rd_readBareSymbol : Room := { frames := 3, cells := 0, slots := 0, locals := 76 }
set_option maxHeartbeats 4000000 in
set_option maxRecDepth 100000 in
theorem c_Rd_readBareSymbol (l : Launch) (D : va_G) (ty : Nat → ClassId) (h : Nat → Nat) (px : va_W) (sa : Nat → Nat) (σ : St) (sz : Nat) (hk : k_Rd_readBareSymbol σ) : Met l y_Rd_readBareSymbol w_Rd_readBareSymbol rm_Rd_readBareSymbol (va_Pc [.ref (h 20)] (fun U => U.heap.size = sz ∧ va_P D classes (Wc ty h σ px) U.heap ∧ va_K D classes (Ta ty) U ∧ NW U ∧ MK sa (va_A (Wc ty h σ px) sz) U U.heap ∧ va_D (fun _ => True) (Wc ty h σ px))) (va_Qi (fun r (u : St) => (r, u) = f_Rd_readBareSymbol σ) (fun u t => va_P D classes (Wc ty h u px) t.heap) (va_A (Wc ty h σ px) sz)) 0 0 (va_A (Wc ty h σ px) sz) := by
  refine Met.ofW (cc := b_Rd_readBareSymbol) (maxL := 2) (ret := (some .int)) (by decide) rfl ?_
  intro p e s m args below meth c s₁ B hml hv
  obtain ⟨ha, hsz, hP, hK, hN, hM, hD0⟩ := hv
  have hx := B.exec
  have hb := B.bytes
  have hr := B.returns
  have hg : ∀ w ∈ gw, w.before args s = true := fun w h9 => atoms_spec (ws := w_Rd_readBareSymbol) B.pre w (List.mem_cons_of_mem _ h9)
  have hown : s.vm.findClass "ClauseLedger$Reader" = some m.cls := findClass_of_methodNamed B.named
  have hlocks := B.notSynchronized
  subst hsz
  have hD := hD0.self (sz := s.heap.size)
  generalize hAe : va_A (Wc ty h σ px) s.heap.size = A at hD hM ⊢
  have hA : ∀ q : Nat, s.heap.size ≤ q → A q := fun q h9 => by rw [← hAe]; exact Or.inr h9
  have hS : va_S A s.heap s.heap [] := va_S.rf
  have he : entryFrame m args 2 = entryFrame m ([.ref (h 20)] : List Value).toArray 2 := by rw [ha]
  rw [he, lg_entry_eq]
  have hl := lv_entry ([.ref (h 20)]) (n := 2) (Nat.le_of_ble_eq_true rfl)
  generalize (lg_sl ([.ref (h 20)]) ++ List.replicate (2 - (lg_sl ([.ref (h 20)])).length) Slot.unset).toArray = ls at hl ⊢
  have hl : lv_has ls 2 [(0, .ref (h 20))] := hl
  generalize hv : f_Rd_readBareSymbol σ = v
  replace hv := hv.symm
  have B48 : ∀ (H : Heap) (locs : List Loc) (ls : Array Slot) (σ : St), v = f_Rd_readBareSymbol_48 σ → k_Rd_readBareSymbol_48 σ → lv_has ls 2 [] → va_P D classes (Wc ty h σ px) H → va_D A (Wc ty h σ px) → va_S A s.heap H locs → W p l e (headSpec w_Rd_readBareSymbol rm_Rd_readBareSymbol).room s m args below meth c H locs 0 0 (MQ below (va_Qi (fun r (u : St) => (r, u) = v) (fun u t => va_P D classes (Wc ty h u px) t.heap) A) args s 0 0 A) (F0 m 48 ls []) := by
    intro H locs ls σ hv hk hl hP hD hS
    unfold f_Rd_readBareSymbol_48 at hv
    unfold k_Rd_readBareSymbol_48 at hk
    refine lv_iconst (v := -1) hx hb d_Rd_readBareSymbol_48 (by decide) ?_
    exact W.iret hx hb hr (fun t ht hW => ⟨⟨_, _, rfl, hv.symm, by dsimp only; rw [ht]; exact hP⟩, hS.F ht⟩) hS.2.2 d_Rd_readBareSymbol_49
  have B69 : ∀ (H : Heap) (locs : List Loc) (ls : Array Slot) (s0 : Int32) (σ : St), v = f_Rd_readBareSymbol_69 s0 σ → k_Rd_readBareSymbol_69 s0 σ → lv_has ls 2 [] → va_P D classes (Wc ty h σ px) H → va_D A (Wc ty h σ px) → va_S A s.heap H locs → W p l e (headSpec w_Rd_readBareSymbol rm_Rd_readBareSymbol).room s m args below meth c H locs 0 0 (MQ below (va_Qi (fun r (u : St) => (r, u) = v) (fun u t => va_P D classes (Wc ty h u px) t.heap) A) args s 0 0 A) (F0 m 69 ls [.int s0]) := by
    intro H locs ls s0 σ hv hk hl hP hD hS
    unfold f_Rd_readBareSymbol_69 at hv
    unfold k_Rd_readBareSymbol_69 at hk
    exact W.iret hx hb hr (fun t ht hW => ⟨⟨_, _, rfl, hv.symm, by dsimp only; rw [ht]; exact hP⟩, hS.F ht⟩) hS.2.2 d_Rd_readBareSymbol_69
  have B25 : ∀ (H : Heap) (locs : List Loc) (ls : Array Slot) (x1 : Int32) (σ : St), v = f_Rd_readBareSymbol_25 x1 σ → k_Rd_readBareSymbol_25 x1 σ → lv_has ls 2 [(0, .ref (h 20)), (1, .int x1)] → va_P D classes (Wc ty h σ px) H → va_D A (Wc ty h σ px) → va_S A s.heap H locs → W p l e (headSpec w_Rd_readBareSymbol rm_Rd_readBareSymbol).room s m args below meth c H locs 0 0 (MQ below (va_Qi (fun r (u : St) => (r, u) = v) (fun u t => va_P D classes (Wc ty h u px) t.heap) A) args s 0 0 A) (F0 m 25 ls []) := by
    intro H locs ls x1 σ hv hk hl hP hD hS
    unfold f_Rd_readBareSymbol_25 at hv
    unfold k_Rd_readBareSymbol_25 at hk
    refine lv_aload_n hx hb d_Rd_readBareSymbol_25 rfl (lv_at hl 0 rfl) ?_
    refine va_get (v := .ref (h 1)) (C := R_Rd) (T := T_Rd) (N := 4) hx hb hg in_Rd hown hK hP 20 rfl rfl 1 (by decide) (hg _ m_134) (fun _ h9 => h9) rfl d_Rd_readBareSymbol_26 ?_
    refine lv_iload_n hx hb d_Rd_readBareSymbol_29 rfl (lv_at hl 1 rfl) ?_
    obtain ⟨hk0, hk⟩ := hk
    refine zz_callV (va_runV (As := [.int x1]) (rest := []) ⟨hx, hb, hml, hown, hg⟩ (c_Sg_isSymbol l D ty h px sa σ x1 hk0) ⟨callB_of 1 hg (gw_C m_599) rfl rfl rfl (hg _ m_2) (hg _ m_737) hd_Sg_isSymbol ⟨Nat.le_of_ble_eq_true rfl, Nat.le_of_ble_eq_true rfl⟩, hg _ m_597, hg _ m_598⟩ (zz_preV (hM.at hS) hN hK hP 1 rfl rfl) rfl rfl hl.1 rfl (lv_room (Nat.le_of_ble_eq_true rfl)) d_Rd_readBareSymbol_30 ⟨Nat.le_of_ble_eq_true rfl, Nat.le_of_ble_eq_true rfl⟩) ?_
    refine lv_if_eq (tgt := 48) hx hb d_Rd_readBareSymbol_33 (by decide) (fun hc => ?_) (fun hc => ?_)
    · have hv := hv.trans (if_pos hc)
      have hk := hk.1 hc
      exact B48 _ _ _  σ hv hk (lv_sub hl [] rfl) hP hD hS
    · have hv := hv.trans (if_neg hc)
      have hk := hk.2 hc
      refine lv_aload_n hx hb d_Rd_readBareSymbol_36 rfl (lv_at hl 0 rfl) ?_
      refine va_get (v := .ref (h 1)) (C := R_Rd) (T := T_Rd) (N := 4) hx hb hg in_Rd hown hK hP 20 rfl rfl 1 (by decide) (hg _ m_134) (fun _ h9 => h9) rfl d_Rd_readBareSymbol_37 ?_
      refine lv_iload_n hx hb d_Rd_readBareSymbol_40 rfl (lv_at hl 1 rfl) ?_
      obtain ⟨hk0, hk⟩ := hk
      refine zz_callV (va_runV (As := [.int x1]) (rest := []) ⟨hx, hb, hml, hown, hg⟩ (c_Sg_firstOfSymbol l D ty h px sa σ x1 hk0) ⟨callB_of 1 hg (gw_C m_595) rfl rfl rfl (hg _ m_2) (hg _ m_592) hd_Sg_firstOfSymbol ⟨Nat.le_of_ble_eq_true rfl, Nat.le_of_ble_eq_true rfl⟩, hg _ m_593, hg _ m_594⟩ (zz_preV (hM.at hS) hN hK hP 1 rfl rfl) rfl rfl hl.1 rfl (lv_room (Nat.le_of_ble_eq_true rfl)) d_Rd_readBareSymbol_41 ⟨Nat.le_of_ble_eq_true rfl, Nat.le_of_ble_eq_true rfl⟩) ?_
      refine lv_iconst (v := -1) hx hb d_Rd_readBareSymbol_44 (by decide) ?_
      refine lv_icmp_eq (tgt := 50) hx hb d_Rd_readBareSymbol_45 (by decide) (fun hc => ?_) (fun hc => ?_)
      · have hv := hv.trans (if_pos hc)
        have hk := hk.1 hc
        refine lv_aload_n hx hb d_Rd_readBareSymbol_50 rfl (lv_at hl 0 rfl) ?_
        refine va_get (v := .ref (h 6)) (C := R_Rd) (T := T_Rd) (N := 4) hx hb hg in_Rd hown hK hP 20 rfl rfl 2 (by decide) (hg _ m_135) (fun _ h9 => h9) rfl d_Rd_readBareSymbol_51 ?_
        refine lv_iconst (v := 0) hx hb d_Rd_readBareSymbol_54 (by decide) ?_
        refine lv_aload_n hx hb d_Rd_readBareSymbol_55 rfl (lv_at hl 0 rfl) ?_
        refine va_get (v := .ref (h 1)) (C := R_Rd) (T := T_Rd) (N := 4) hx hb hg in_Rd hown hK hP 20 rfl rfl 1 (by decide) (hg _ m_134) (fun _ h9 => h9) rfl d_Rd_readBareSymbol_56 ?_
        refine lv_iload_n hx hb d_Rd_readBareSymbol_59 rfl (lv_at hl 1 rfl) ?_
        obtain ⟨hk0, hk⟩ := hk
        refine zz_callV (va_runV (As := [.int x1]) (rest := [.int 0, .ref (h 6)]) ⟨hx, hb, hml, hown, hg⟩ (c_Sg_sortOfSymbol l D ty h px sa σ x1 hk0) ⟨callB_of 1 hg (gw_C m_616) rfl rfl rfl (hg _ m_2) (hg _ m_613) hd_Sg_sortOfSymbol ⟨Nat.le_of_ble_eq_true rfl, Nat.le_of_ble_eq_true rfl⟩, hg _ m_614, hg _ m_615⟩ (zz_preV (hM.at hS) hN hK hP 1 rfl rfl) rfl rfl hl.1 rfl (lv_room (Nat.le_of_ble_eq_true rfl)) d_Rd_readBareSymbol_60 ⟨Nat.le_of_ble_eq_true rfl, Nat.le_of_ble_eq_true rfl⟩) ?_
        refine lv_iload_n hx hb d_Rd_readBareSymbol_63 rfl (lv_at hl 1 rfl) ?_
        refine lv_iconst (v := -1) hx hb d_Rd_readBareSymbol_64 (by decide) ?_
        refine lv_iconst (v := -1) hx hb d_Rd_readBareSymbol_65 (by decide) ?_
        obtain ⟨hk0, hk⟩ := hk
        refine va_calli (va_runV (As := [.int 0, .int (f_Sg_sortOfSymbol x1 σ), .int x1, .int (-1), .int (-1)]) (rest := []) ⟨hx, hb, hml, hown, hg⟩ (c_Te_make l D ty h px sa σ H.size 0 (f_Sg_sortOfSymbol x1 σ) x1 (-1) (-1) hk0) ⟨callB_of 5 hg (gw_C m_620) rfl rfl rfl (hg _ m_3) (hg _ m_617) hd_Te_make ⟨Nat.le_of_ble_eq_true rfl, Nat.le_of_ble_eq_true rfl⟩, hg _ m_618, hg _ m_619⟩ (zz_preVW hM hS hA hN hK hP hD 6 rfl rfl) rfl rfl hl.1 rfl (lv_room (Nat.le_of_ble_eq_true rfl)) d_Rd_readBareSymbol_66 ⟨Nat.le_of_ble_eq_true rfl, Nat.le_of_ble_eq_true rfl⟩) hS (fun q _ h => zz_free hD hS hA q h) (zz_free hD hS hA) (fun r66 u66 t H locs ht hvm hp hP1 hz hk1 hS => ?_)
        rw [ht] at hP1
        rw [← hp] at hv hk
        have hD : va_D A (Wc ty h u66 px) := zz_D hD rfl
        have hP := hP1
        exact B69 _ _ _ r66 u66 hv hk (lv_sub hl [] rfl) hP hD hS
      · have hv := hv.trans (if_neg hc)
        have hk := hk.2 hc
        exact B48 _ _ _  σ hv hk (lv_sub hl [] rfl) hP hD hS
  have B15 : ∀ (H : Heap) (locs : List Loc) (ls : Array Slot) (x1 : Int32) (σ : St), v = f_Rd_readBareSymbol_15 x1 σ → k_Rd_readBareSymbol_15 x1 σ → lv_has ls 2 [(0, .ref (h 20)), (1, .int x1)] → va_P D classes (Wc ty h σ px) H → va_D A (Wc ty h σ px) → va_S A s.heap H locs → W p l e (headSpec w_Rd_readBareSymbol rm_Rd_readBareSymbol).room s m args below meth c H locs 0 0 (MQ below (va_Qi (fun r (u : St) => (r, u) = v) (fun u t => va_P D classes (Wc ty h u px) t.heap) A) args s 0 0 A) (F0 m 15 ls []) := by
    intro H locs ls x1 σ hv hk hl hP hD hS
    unfold f_Rd_readBareSymbol_15 at hv
    unfold k_Rd_readBareSymbol_15 at hk
    refine lv_aload_n hx hb d_Rd_readBareSymbol_15 rfl (lv_at hl 0 rfl) ?_
    refine lv_dup hx hb d_Rd_readBareSymbol_16 rfl ?_
    refine va_get (v := .int (σ.1 20 3)) (C := R_Rd) (T := T_Rd) (N := 4) hx hb hg in_Rd hown hK hP 20 rfl rfl 3 (by decide) (hg _ m_136) (fun _ h9 => h9) rfl d_Rd_readBareSymbol_17 ?_
    refine lv_iconst (v := 1) hx hb d_Rd_readBareSymbol_20 (by decide) ?_
    refine lv_iadd hx hb d_Rd_readBareSymbol_21 ?_
    refine va_put (v := .int ((σ.1 20 3) + 1)) (ty := .int) (C := R_Rd) (T := T_Rd) (N := 4) hx hb hg in_Rd ty_Rd ok_Rd nm_Rd hown hK hP hD hS 20 rfl rfl 3 (by decide) (hg _ m_136) (fun _ h9 => h9) rfl (by decide +kernel) rfl rfl (Nat.le_of_ble_eq_true rfl) d_Rd_readBareSymbol_22 (fun H locs hP hD hS => ?_)
    have hP : va_P D classes (Wc ty h (sF σ 20 3 ((σ.1 20 3) + 1)) px) H := hP
    have hD : va_D A (Wc ty h (sF σ 20 3 ((σ.1 20 3) + 1)) px) := hD
    exact B25 _ _ _ x1 (sF σ 20 3 ((σ.1 20 3) + 1)) hv hk (lv_sub hl [0, 1] rfl) hP hD hS
  unfold f_Rd_readBareSymbol at hv
  unfold k_Rd_readBareSymbol at hk
  refine lv_aload_n hx hb d_Rd_readBareSymbol_0 rfl (lv_at hl 0 rfl) ?_
  refine va_get (v := .ref (h 18)) (C := R_Rd) (T := T_Rd) (N := 4) hx hb hg in_Rd hown hK hP 20 rfl rfl 0 (by decide) (hg _ m_133) (fun _ h9 => h9) rfl d_Rd_readBareSymbol_1 ?_
  refine lv_aload_n hx hb d_Rd_readBareSymbol_4 rfl (lv_at hl 0 rfl) ?_
  refine va_get (v := .int (σ.1 20 3)) (C := R_Rd) (T := T_Rd) (N := 4) hx hb hg in_Rd hown hK hP 20 rfl rfl 3 (by decide) (hg _ m_136) (fun _ h9 => h9) rfl d_Rd_readBareSymbol_5 ?_
  obtain ⟨hk0, hk⟩ := hk
  refine zz_callV (va_runV (As := [.int (σ.1 20 3)]) (rest := []) ⟨hx, hb, hml, hown, hg⟩ (c_Dr_letter l D ty h px sa σ (σ.1 20 3) hk0) ⟨callB_of 1 hg (gw_C m_583) rfl rfl rfl (hg _ m_4) (hg _ m_580) hd_Dr_letter ⟨Nat.le_of_ble_eq_true rfl, Nat.le_of_ble_eq_true rfl⟩, hg _ m_581, hg _ m_582⟩ (zz_preV (hM.at hS) hN hK hP 18 rfl rfl) rfl rfl hl.1 rfl (lv_room (Nat.le_of_ble_eq_true rfl)) d_Rd_readBareSymbol_8 ⟨Nat.le_of_ble_eq_true rfl, Nat.le_of_ble_eq_true rfl⟩) ?_
  refine lv_bipush (v := 97) hx hb d_Rd_readBareSymbol_11 (by decide) ?_
  refine lv_isub hx hb d_Rd_readBareSymbol_13 ?_
  refine lv_istore_n (lv' := [(1, .int ((f_Dr_letter (σ.1 20 3) σ) - 97)), (0, .ref (h 20))]) hx hb d_Rd_readBareSymbol_14 rfl hl (by decide) rfl (fun ls hl => ?_)
  exact B15 _ _ _ ((f_Dr_letter (σ.1 20 3) σ) - 97) σ hv hk (lv_sub hl [1, 0] rfl) hP hD hS

-- ClauseLedger$Signature.sortOfVariable(I)I
abbrev b_Sg_sortOfVariable : ByteArray := prog_8_method_10_code
def y_Sg_sortOfVariable : MethodName := ⟨"ClauseLedger$Signature", "sortOfVariable", "(I)I"⟩
theorem hd_Sg_sortOfVariable : y_Sg_sortOfVariable.cls ≠ "java/lang/invoke/MethodHandle" ∧ y_Sg_sortOfVariable.cls ≠ "java/lang/invoke/VarHandle" ∧ (parseMethodDescriptor y_Sg_sortOfVariable.desc).map (fun d => d.parameters.length) = some 1 := by decide +kernel
theorem d_Sg_sortOfVariable_0 : decode b_Sg_sortOfVariable 0 = .ok (.aload_n 0, 1) := by decide +kernel
theorem d_Sg_sortOfVariable_1 : decode b_Sg_sortOfVariable 1 = .ok (.iload_n 1, 1) := by decide +kernel
theorem d_Sg_sortOfVariable_2 : decode b_Sg_sortOfVariable 2 = .ok (.invokevirtual 38, 3) := by decide +kernel
theorem d_Sg_sortOfVariable_5 : decode b_Sg_sortOfVariable 5 = .ok (.ifCond .eq 12, 3) := by decide +kernel
theorem d_Sg_sortOfVariable_8 : decode b_Sg_sortOfVariable 8 = .ok (.aload_n 0, 1) := by decide +kernel
theorem d_Sg_sortOfVariable_9 : decode b_Sg_sortOfVariable 9 = .ok (.getfield 21, 3) := by decide +kernel
theorem d_Sg_sortOfVariable_12 : decode b_Sg_sortOfVariable 12 = .ok (.iload_n 1, 1) := by decide +kernel
theorem d_Sg_sortOfVariable_13 : decode b_Sg_sortOfVariable 13 = .ok (.iaload, 1) := by decide +kernel
theorem d_Sg_sortOfVariable_14 : decode b_Sg_sortOfVariable 14 = .ok (.goto 4, 3) := by decide +kernel
theorem d_Sg_sortOfVariable_17 : decode b_Sg_sortOfVariable 17 = .ok (.iconst (-1), 1) := by decide +kernel
theorem d_Sg_sortOfVariable_18 : decode b_Sg_sortOfVariable 18 = .ok (.ireturn, 1) := by decide +kernel
def f_Sg_sortOfVariable_18 (s0 : Int32) (σ : St) : Int32 := s0
def k_Sg_sortOfVariable_18 (s0 : Int32) (σ : St) : Prop := True
def f_Sg_sortOfVariable (a1 : Int32) (σ : St) : Int32 := if (f_Sg_isVariable a1 σ) = 0 then (f_Sg_sortOfVariable_18 (-1) σ) else (f_Sg_sortOfVariable_18 (σ.1 5 a1.toNatClampNeg) σ)
def k_Sg_sortOfVariable (a1 : Int32) (σ : St) : Prop := (k_Sg_isVariable a1 σ) ∧ (((f_Sg_isVariable a1 σ) = 0 → (k_Sg_sortOfVariable_18 (-1) σ)) ∧ (¬ (f_Sg_isVariable a1 σ) = 0 → (vp_in a1 3 ∧ (k_Sg_sortOfVariable_18 (σ.1 5 a1.toNatClampNeg) σ))))
abbrev w_Sg_sortOfVariable : List Cond := Cond.code y_Sg_sortOfVariable b_Sg_sortOfVariable 2 (some .int) :: gw
abbrev rm_Sg_sortOfVariable : Room := { frames := 1, cells := 0, slots := 0, locals := 21 }
set_option maxHeartbeats 4000000 in
set_option maxRecDepth 100000 in
theorem c_Sg_sortOfVariable (l : Launch) (D : va_G) (ty : Nat → ClassId) (h : Nat → Nat) (px : va_W) (sa : Nat → Nat) (σ : St) (a1 : Int32) (hk : k_Sg_sortOfVariable a1 σ) : Met l y_Sg_sortOfVariable w_Sg_sortOfVariable rm_Sg_sortOfVariable (va_Pc [.ref (h 1), .int a1] (fun U => va_P D classes (Wc ty h σ px) U.heap ∧ va_K D classes (Ta ty) U ∧ NW U ∧ MK sa (fun _ => False) U U.heap)) (k2_QcV (.int (f_Sg_sortOfVariable a1 σ))) 0 0 (fun _ => False) := by
  refine Met.ofW (cc := b_Sg_sortOfVariable) (maxL := 2) (ret := (some .int)) (by decide) rfl ?_
  intro p e s m args below meth c s₁ B hml hv
  obtain ⟨ha, hP, hK, hN, hM⟩ := hv
  have hx := B.exec
  have hb := B.bytes
  have hr := B.returns
  have hg : ∀ w ∈ gw, w.before args s = true := fun w h9 => atoms_spec (ws := w_Sg_sortOfVariable) B.pre w (List.mem_cons_of_mem _ h9)
  have hown : s.vm.findClass "ClauseLedger$Signature" = some m.cls := findClass_of_methodNamed B.named
  have hlocks := B.notSynchronized
  have he : entryFrame m args 2 = entryFrame m ([.ref (h 1), .int a1] : List Value).toArray 2 := by rw [ha]
  rw [he, lg_entry_eq]
  have hl := lv_entry ([.ref (h 1), .int a1]) (n := 2) (Nat.le_of_ble_eq_true rfl)
  generalize (lg_sl ([.ref (h 1), .int a1]) ++ List.replicate (2 - (lg_sl ([.ref (h 1), .int a1])).length) Slot.unset).toArray = ls at hl ⊢
  have hl : lv_has ls 2 [(0, .ref (h 1)), (1, .int a1)] := hl
  generalize hv : f_Sg_sortOfVariable a1 σ = v
  replace hv := hv.symm
  have B18 : ∀ (ls : Array Slot) (s0 : Int32), v = f_Sg_sortOfVariable_18 s0 σ → k_Sg_sortOfVariable_18 s0 σ → lv_has ls 2 [] → W p l e (headSpec w_Sg_sortOfVariable rm_Sg_sortOfVariable).room s m args below meth c s.heap [] 0 0 (MQ below (k2_QcV (.int v)) args s 0 0 (fun _ => False)) (F0 m 18 ls [.int s0]) := by
    intro ls s0 hv hk hl
    unfold f_Sg_sortOfVariable_18 at hv
    unfold k_Sg_sortOfVariable_18 at hk
    exact W.iret hx hb hr (fun t ht hW => ⟨by rw [hv], ht⟩) (fun q h => nomatch h) d_Sg_sortOfVariable_18
  unfold f_Sg_sortOfVariable at hv
  unfold k_Sg_sortOfVariable at hk
  refine lv_aload_n hx hb d_Sg_sortOfVariable_0 rfl (lv_at hl 0 rfl) ?_
  refine lv_iload_n hx hb d_Sg_sortOfVariable_1 rfl (lv_at hl 1 rfl) ?_
  obtain ⟨hk0, hk⟩ := hk
  refine zz_callV (va_runV (As := [.int a1]) (rest := []) ⟨hx, hb, hml, hown, hg⟩ (c_Sg_isVariable l D ty h px sa σ a1 hk0) ⟨callB_of 1 hg (gw_C m_357) rfl rfl rfl (hg _ m_2) (hg _ m_354) hd_Sg_isVariable ⟨Nat.le_of_ble_eq_true rfl, Nat.le_of_ble_eq_true rfl⟩, hg _ m_355, hg _ m_356⟩ (zz_preV hM hN hK hP 1 rfl rfl) rfl rfl hl.1 rfl (lv_room (Nat.le_of_ble_eq_true rfl)) d_Sg_sortOfVariable_2 ⟨Nat.le_of_ble_eq_true rfl, Nat.le_of_ble_eq_true rfl⟩) ?_
  refine lv_if_eq (tgt := 17) hx hb d_Sg_sortOfVariable_5 (by decide) (fun hc => ?_) (fun hc => ?_)
  · have hv := hv.trans (if_pos hc)
    have hk := hk.1 hc
    refine lv_iconst (v := -1) hx hb d_Sg_sortOfVariable_17 (by decide) ?_
    exact B18 _ (-1) hv hk (lv_sub hl [] rfl)
  · have hv := hv.trans (if_neg hc)
    have hk := hk.2 hc
    refine lv_aload_n hx hb d_Sg_sortOfVariable_8 rfl (lv_at hl 0 rfl) ?_
    refine va_get (v := .ref (h 5)) (C := R_Sg) (T := T_Sg) (N := 6) hx hb hg in_Sg hown hK hP 1 rfl rfl 3 (by decide) (hg _ m_46) (fun _ h9 => h9) rfl d_Sg_sortOfVariable_9 ?_
    refine lv_iload_n hx hb d_Sg_sortOfVariable_12 rfl (lv_at hl 1 rfl) ?_
    obtain ⟨hk0, hk⟩ := hk
    refine va_iald hx hb hK hP 5 0 rfl rfl hk0 d_Sg_sortOfVariable_13 ?_
    refine lv_goto (tgt := 18) hx hb d_Sg_sortOfVariable_14 (by decide) ?_
    exact B18 _ (σ.1 5 a1.toNatClampNeg) hv hk (lv_sub hl [] rfl)

-- ClauseLedger$Reader.isDigit(C)Z
abbrev b_Rd_isDigit : ByteArray := prog_5_method_14_code
def y_Rd_isDigit : MethodName := ⟨"ClauseLedger$Reader", "isDigit", "(C)Z"⟩
theorem hd_Rd_isDigit : y_Rd_isDigit.cls ≠ "java/lang/invoke/MethodHandle" ∧ y_Rd_isDigit.cls ≠ "java/lang/invoke/VarHandle" ∧ (parseMethodDescriptor y_Rd_isDigit.desc).map (fun d => d.parameters.length) = some 1 := by decide +kernel
theorem d_Rd_isDigit_0 : decode b_Rd_isDigit 0 = .ok (.iload_n 0, 1) := by decide +kernel
theorem d_Rd_isDigit_1 : decode b_Rd_isDigit 1 = .ok (.bipush 48, 2) := by decide +kernel
theorem d_Rd_isDigit_3 : decode b_Rd_isDigit 3 = .ok (.if_icmp .lt 13, 3) := by decide +kernel
theorem d_Rd_isDigit_6 : decode b_Rd_isDigit 6 = .ok (.iload_n 0, 1) := by decide +kernel
theorem d_Rd_isDigit_7 : decode b_Rd_isDigit 7 = .ok (.bipush 57, 2) := by decide +kernel
theorem d_Rd_isDigit_9 : decode b_Rd_isDigit 9 = .ok (.if_icmp .gt 7, 3) := by decide +kernel
theorem d_Rd_isDigit_12 : decode b_Rd_isDigit 12 = .ok (.iconst 1, 1) := by decide +kernel
theorem d_Rd_isDigit_13 : decode b_Rd_isDigit 13 = .ok (.goto 4, 3) := by decide +kernel
theorem d_Rd_isDigit_16 : decode b_Rd_isDigit 16 = .ok (.iconst 0, 1) := by decide +kernel
theorem d_Rd_isDigit_17 : decode b_Rd_isDigit 17 = .ok (.ireturn, 1) := by decide +kernel
def f_Rd_isDigit_17 (s0 : Int32) (σ : St) : Int32 := s0
def k_Rd_isDigit_17 (s0 : Int32) (σ : St) : Prop := (narrow .boolean (.int s0) = .int s0) ∧ True
def f_Rd_isDigit_16 (σ : St) : Int32 := f_Rd_isDigit_17 0 σ
def k_Rd_isDigit_16 (σ : St) : Prop := k_Rd_isDigit_17 0 σ
def f_Rd_isDigit (a0 : Int32) (σ : St) : Int32 := if a0 < 48 then (f_Rd_isDigit_16 σ) else (if 57 < a0 then (f_Rd_isDigit_16 σ) else (f_Rd_isDigit_17 1 σ))
def k_Rd_isDigit (a0 : Int32) (σ : St) : Prop := (a0 < 48 → (k_Rd_isDigit_16 σ)) ∧ (¬ a0 < 48 → ((57 < a0 → (k_Rd_isDigit_16 σ)) ∧ (¬ 57 < a0 → (k_Rd_isDigit_17 1 σ))))
abbrev w_Rd_isDigit : List Cond := Cond.code y_Rd_isDigit b_Rd_isDigit 1 (some .boolean) :: gw
abbrev rm_Rd_isDigit : Room := { frames := 0, cells := 0, slots := 0, locals := 0 }
set_option maxHeartbeats 4000000 in
set_option maxRecDepth 100000 in
theorem c_Rd_isDigit (l : Launch) (D : va_G) (ty : Nat → ClassId) (h : Nat → Nat) (px : va_W) (sa : Nat → Nat) (σ : St) (a0 : Int32) (hk : k_Rd_isDigit a0 σ) : Met l y_Rd_isDigit w_Rd_isDigit rm_Rd_isDigit (va_Pc [.int a0] (fun U => va_P D classes (Wc ty h σ px) U.heap ∧ va_K D classes (Ta ty) U ∧ NW U ∧ MK sa (fun _ => False) U U.heap)) (k2_QcV (.int (f_Rd_isDigit a0 σ))) 0 0 (fun _ => False) := by
  refine Met.ofW (cc := b_Rd_isDigit) (maxL := 1) (ret := (some .boolean)) (by decide) rfl ?_
  intro p e s m args below meth c s₁ B hml hv
  obtain ⟨ha, hP, hK, hN, hM⟩ := hv
  have hx := B.exec
  have hb := B.bytes
  have hr := B.returns
  have hg : ∀ w ∈ gw, w.before args s = true := fun w h9 => atoms_spec (ws := w_Rd_isDigit) B.pre w (List.mem_cons_of_mem _ h9)
  have hown : s.vm.findClass "ClauseLedger$Reader" = some m.cls := findClass_of_methodNamed B.named
  have hlocks := B.notSynchronized
  have he : entryFrame m args 1 = entryFrame m ([.int a0] : List Value).toArray 1 := by rw [ha]
  rw [he, lg_entry_eq]
  have hl := lv_entry ([.int a0]) (n := 1) (Nat.le_of_ble_eq_true rfl)
  generalize (lg_sl ([.int a0]) ++ List.replicate (1 - (lg_sl ([.int a0])).length) Slot.unset).toArray = ls at hl ⊢
  have hl : lv_has ls 1 [(0, .int a0)] := hl
  generalize hv : f_Rd_isDigit a0 σ = v
  replace hv := hv.symm
  have B17 : ∀ (ls : Array Slot) (s0 : Int32), v = f_Rd_isDigit_17 s0 σ → k_Rd_isDigit_17 s0 σ → lv_has ls 1 [] → W p l e (headSpec w_Rd_isDigit rm_Rd_isDigit).room s m args below meth c s.heap [] 0 0 (MQ below (k2_QcV (.int v)) args s 0 0 (fun _ => False)) (F0 m 17 ls [.int s0]) := by
    intro ls s0 hv hk hl
    unfold f_Rd_isDigit_17 at hv
    unfold k_Rd_isDigit_17 at hk
    obtain ⟨hk0, hk⟩ := hk
    exact W.zret hx hb hr hk0 (fun t ht hW => ⟨by rw [hv], ht⟩) (fun q h => nomatch h) d_Rd_isDigit_17
  have B16 : ∀ (ls : Array Slot), v = f_Rd_isDigit_16 σ → k_Rd_isDigit_16 σ → lv_has ls 1 [] → W p l e (headSpec w_Rd_isDigit rm_Rd_isDigit).room s m args below meth c s.heap [] 0 0 (MQ below (k2_QcV (.int v)) args s 0 0 (fun _ => False)) (F0 m 16 ls []) := by
    intro ls hv hk hl
    unfold f_Rd_isDigit_16 at hv
    unfold k_Rd_isDigit_16 at hk
    refine lv_iconst (v := 0) hx hb d_Rd_isDigit_16 (by decide) ?_
    exact B17 _ 0 hv hk (lv_sub hl [] rfl)
  unfold f_Rd_isDigit at hv
  unfold k_Rd_isDigit at hk
  refine lv_iload_n hx hb d_Rd_isDigit_0 rfl (lv_at hl 0 rfl) ?_
  refine lv_bipush (v := 48) hx hb d_Rd_isDigit_1 (by decide) ?_
  refine lv_icmp_lt (tgt := 16) hx hb d_Rd_isDigit_3 (by decide) (fun hc => ?_) (fun hc => ?_)
  · have hv := hv.trans (if_pos hc)
    have hk := hk.1 hc
    exact B16 _  hv hk (lv_sub hl [] rfl)
  · have hv := hv.trans (if_neg hc)
    have hk := hk.2 hc
    refine lv_iload_n hx hb d_Rd_isDigit_6 rfl (lv_at hl 0 rfl) ?_
    refine lv_bipush (v := 57) hx hb d_Rd_isDigit_7 (by decide) ?_
    refine lv_icmp_gt (tgt := 16) hx hb d_Rd_isDigit_9 (by decide) (fun hc => ?_) (fun hc => ?_)
    · have hv := hv.trans (if_pos hc)
      have hk := hk.1 hc
      exact B16 _  hv hk (lv_sub hl [] rfl)
    · have hv := hv.trans (if_neg hc)
      have hk := hk.2 hc
      refine lv_iconst (v := 1) hx hb d_Rd_isDigit_12 (by decide) ?_
      refine lv_goto (tgt := 17) hx hb d_Rd_isDigit_13 (by decide) ?_
      exact B17 _ 1 hv hk (lv_sub hl [] rfl)

-- ClauseLedger$Reader.readDigits()I
abbrev b_Rd_readDigits : ByteArray := prog_5_method_13_code
def y_Rd_readDigits : MethodName := ⟨"ClauseLedger$Reader", "readDigits", "()I"⟩
theorem hd_Rd_readDigits : y_Rd_readDigits.cls ≠ "java/lang/invoke/MethodHandle" ∧ y_Rd_readDigits.cls ≠ "java/lang/invoke/VarHandle" ∧ (parseMethodDescriptor y_Rd_readDigits.desc).map (fun d => d.parameters.length) = some 0 := by decide +kernel
theorem d_Rd_readDigits_0 : decode b_Rd_readDigits 0 = .ok (.iconst 0, 1) := by decide +kernel
theorem d_Rd_readDigits_1 : decode b_Rd_readDigits 1 = .ok (.istore_n 1, 1) := by decide +kernel
theorem d_Rd_readDigits_2 : decode b_Rd_readDigits 2 = .ok (.iconst 0, 1) := by decide +kernel
theorem d_Rd_readDigits_3 : decode b_Rd_readDigits 3 = .ok (.istore_n 2, 1) := by decide +kernel
theorem d_Rd_readDigits_4 : decode b_Rd_readDigits 4 = .ok (.iload_n 2, 1) := by decide +kernel
theorem d_Rd_readDigits_5 : decode b_Rd_readDigits 5 = .ok (.iconst 5, 1) := by decide +kernel
theorem d_Rd_readDigits_6 : decode b_Rd_readDigits 6 = .ok (.if_icmp .gt 56, 3) := by decide +kernel
theorem d_Rd_readDigits_9 : decode b_Rd_readDigits 9 = .ok (.aload_n 0, 1) := by decide +kernel
theorem d_Rd_readDigits_10 : decode b_Rd_readDigits 10 = .ok (.getfield 15, 3) := by decide +kernel
theorem d_Rd_readDigits_13 : decode b_Rd_readDigits 13 = .ok (.aload_n 0, 1) := by decide +kernel
theorem d_Rd_readDigits_14 : decode b_Rd_readDigits 14 = .ok (.getfield 9, 3) := by decide +kernel
theorem d_Rd_readDigits_17 : decode b_Rd_readDigits 17 = .ok (.invokevirtual 37, 3) := by decide +kernel
theorem d_Rd_readDigits_20 : decode b_Rd_readDigits 20 = .ok (.invokestatic 128, 3) := by decide +kernel
theorem d_Rd_readDigits_23 : decode b_Rd_readDigits 23 = .ok (.ifCond .eq 39, 3) := by decide +kernel
theorem d_Rd_readDigits_26 : decode b_Rd_readDigits 26 = .ok (.bipush 10, 2) := by decide +kernel
theorem d_Rd_readDigits_28 : decode b_Rd_readDigits 28 = .ok (.iload_n 1, 1) := by decide +kernel
theorem d_Rd_readDigits_29 : decode b_Rd_readDigits 29 = .ok (.imul, 1) := by decide +kernel
theorem d_Rd_readDigits_30 : decode b_Rd_readDigits 30 = .ok (.aload_n 0, 1) := by decide +kernel
theorem d_Rd_readDigits_31 : decode b_Rd_readDigits 31 = .ok (.getfield 15, 3) := by decide +kernel
theorem d_Rd_readDigits_34 : decode b_Rd_readDigits 34 = .ok (.aload_n 0, 1) := by decide +kernel
theorem d_Rd_readDigits_35 : decode b_Rd_readDigits 35 = .ok (.getfield 9, 3) := by decide +kernel
theorem d_Rd_readDigits_38 : decode b_Rd_readDigits 38 = .ok (.invokevirtual 37, 3) := by decide +kernel
theorem d_Rd_readDigits_41 : decode b_Rd_readDigits 41 = .ok (.bipush 48, 2) := by decide +kernel
theorem d_Rd_readDigits_43 : decode b_Rd_readDigits 43 = .ok (.isub, 1) := by decide +kernel
theorem d_Rd_readDigits_44 : decode b_Rd_readDigits 44 = .ok (.iadd, 1) := by decide +kernel
theorem d_Rd_readDigits_45 : decode b_Rd_readDigits 45 = .ok (.istore_n 1, 1) := by decide +kernel
theorem d_Rd_readDigits_46 : decode b_Rd_readDigits 46 = .ok (.iinc 2 1, 3) := by decide +kernel
theorem d_Rd_readDigits_49 : decode b_Rd_readDigits 49 = .ok (.aload_n 0, 1) := by decide +kernel
theorem d_Rd_readDigits_50 : decode b_Rd_readDigits 50 = .ok (.dup, 1) := by decide +kernel
theorem d_Rd_readDigits_51 : decode b_Rd_readDigits 51 = .ok (.getfield 9, 3) := by decide +kernel
theorem d_Rd_readDigits_54 : decode b_Rd_readDigits 54 = .ok (.iconst 1, 1) := by decide +kernel
theorem d_Rd_readDigits_55 : decode b_Rd_readDigits 55 = .ok (.iadd, 1) := by decide +kernel
theorem d_Rd_readDigits_56 : decode b_Rd_readDigits 56 = .ok (.putfield 9, 3) := by decide +kernel
theorem d_Rd_readDigits_59 : decode b_Rd_readDigits 59 = .ok (.goto (-55), 3) := by decide +kernel
theorem d_Rd_readDigits_62 : decode b_Rd_readDigits 62 = .ok (.iload_n 2, 1) := by decide +kernel
theorem d_Rd_readDigits_63 : decode b_Rd_readDigits 63 = .ok (.ifCond .eq 8, 3) := by decide +kernel
theorem d_Rd_readDigits_66 : decode b_Rd_readDigits 66 = .ok (.iload_n 2, 1) := by decide +kernel
theorem d_Rd_readDigits_67 : decode b_Rd_readDigits 67 = .ok (.iconst 5, 1) := by decide +kernel
theorem d_Rd_readDigits_68 : decode b_Rd_readDigits 68 = .ok (.if_icmp .le 7, 3) := by decide +kernel
theorem d_Rd_readDigits_71 : decode b_Rd_readDigits 71 = .ok (.iconst (-1), 1) := by decide +kernel
theorem d_Rd_readDigits_72 : decode b_Rd_readDigits 72 = .ok (.goto 4, 3) := by decide +kernel
theorem d_Rd_readDigits_75 : decode b_Rd_readDigits 75 = .ok (.iload_n 1, 1) := by decide +kernel
theorem d_Rd_readDigits_76 : decode b_Rd_readDigits 76 = .ok (.ireturn, 1) := by decide +kernel
def f_Rd_readDigits_59 (F4 : (Int32 → Int32 → St → Int32 × St)) (x1 : Int32) (x2 : Int32) (σ : St) : Int32 × St := F4 x1 x2 σ
def k_Rd_readDigits_59 (K4 : (Int32 → Int32 → St → Prop)) (x1 : Int32) (x2 : Int32) (σ : St) : Prop := K4 x1 x2 σ
def f_Rd_readDigits_46 (F4 : (Int32 → Int32 → St → Int32 × St)) (x1 : Int32) (x2 : Int32) (σ : St) : Int32 × St := f_Rd_readDigits_59 F4 x1 (x2 + 1) (sF σ 20 3 ((σ.1 20 3) + 1))
def k_Rd_readDigits_46 (K4 : (Int32 → Int32 → St → Prop)) (x1 : Int32) (x2 : Int32) (σ : St) : Prop := k_Rd_readDigits_59 K4 x1 (x2 + 1) (sF σ 20 3 ((σ.1 20 3) + 1))
def f_Rd_readDigits_76 (s0 : Int32) (σ : St) : Int32 × St := (s0, σ)
def k_Rd_readDigits_76 (s0 : Int32) (σ : St) : Prop := True
def f_Rd_readDigits_71 (σ : St) : Int32 × St := f_Rd_readDigits_76 (-1) σ
def k_Rd_readDigits_71 (σ : St) : Prop := k_Rd_readDigits_76 (-1) σ
def f_Rd_readDigits_62 (x1 : Int32) (x2 : Int32) (σ : St) : Int32 × St := if x2 = 0 then (f_Rd_readDigits_71 σ) else (if x2 ≤ 5 then (f_Rd_readDigits_76 x1 σ) else (f_Rd_readDigits_71 σ))
def k_Rd_readDigits_62 (x1 : Int32) (x2 : Int32) (σ : St) : Prop := (x2 = 0 → (k_Rd_readDigits_71 σ)) ∧ (¬ x2 = 0 → ((x2 ≤ 5 → (k_Rd_readDigits_76 x1 σ)) ∧ (¬ x2 ≤ 5 → (k_Rd_readDigits_71 σ))))
def f_Rd_readDigits_4 : Nat → Int32 → Int32 → St → Int32 × St
  | 0, _, _, σ => (0, σ)
  | n + 1, x1, x2, σ => if 5 < x2 then (f_Rd_readDigits_62 x1 x2 σ) else (if (f_Rd_isDigit (f_Dr_letter (σ.1 20 3) σ) σ) = 0 then (f_Rd_readDigits_62 x1 x2 σ) else (f_Rd_readDigits_46 (f_Rd_readDigits_4 n) ((10 * x1) + ((f_Dr_letter (σ.1 20 3) σ) - 48)) x2 σ))
def k_Rd_readDigits_4 : Nat → Int32 → Int32 → St → Prop
  | 0, _, _, _ => False
  | n + 1, x1, x2, σ => (5 < x2 → (k_Rd_readDigits_62 x1 x2 σ)) ∧ (¬ 5 < x2 → ((k_Dr_letter (σ.1 20 3) σ) ∧ ((k_Rd_isDigit (f_Dr_letter (σ.1 20 3) σ) σ) ∧ (((f_Rd_isDigit (f_Dr_letter (σ.1 20 3) σ) σ) = 0 → (k_Rd_readDigits_62 x1 x2 σ)) ∧ (¬ (f_Rd_isDigit (f_Dr_letter (σ.1 20 3) σ) σ) = 0 → ((k_Dr_letter (σ.1 20 3) σ) ∧ (k_Rd_readDigits_46 (k_Rd_readDigits_4 n) ((10 * x1) + ((f_Dr_letter (σ.1 20 3) σ) - 48)) x2 σ)))))))
def f_Rd_readDigits (σ : St) : Int32 × St := f_Rd_readDigits_4 1000 0 0 σ
def k_Rd_readDigits (σ : St) : Prop := k_Rd_readDigits_4 1000 0 0 σ
abbrev w_Rd_readDigits : List Cond := Cond.code y_Rd_readDigits b_Rd_readDigits 3 (some .int) :: gw
abbrev rm_Rd_readDigits : Room := { frames := 1, cells := 0, slots := 0, locals := 21 }
set_option maxHeartbeats 4000000 in
set_option maxRecDepth 100000 in
theorem c_Rd_readDigits (l : Launch) (D : va_G) (ty : Nat → ClassId) (h : Nat → Nat) (px : va_W) (sa : Nat → Nat) (σ : St) (sz : Nat) (hk : k_Rd_readDigits σ) : Met l y_Rd_readDigits w_Rd_readDigits rm_Rd_readDigits (va_Pc [.ref (h 20)] (fun U => U.heap.size = sz ∧ va_P D classes (Wc ty h σ px) U.heap ∧ va_K D classes (Ta ty) U ∧ NW U ∧ MK sa (va_A (Wc ty h σ px) sz) U U.heap ∧ va_D (fun _ => True) (Wc ty h σ px))) (va_Qi (fun r (u : St) => (r, u) = f_Rd_readDigits σ) (fun u t => va_P D classes (Wc ty h u px) t.heap) (va_A (Wc ty h σ px) sz)) 0 0 (va_A (Wc ty h σ px) sz) := by
  refine Met.ofW (cc := b_Rd_readDigits) (maxL := 3) (ret := (some .int)) (by decide) rfl ?_
  intro p e s m args below meth c s₁ B hml hv
  obtain ⟨ha, hsz, hP, hK, hN, hM, hD0⟩ := hv
  have hx := B.exec
  have hb := B.bytes
  have hr := B.returns
  have hg : ∀ w ∈ gw, w.before args s = true := fun w h9 => atoms_spec (ws := w_Rd_readDigits) B.pre w (List.mem_cons_of_mem _ h9)
  have hown : s.vm.findClass "ClauseLedger$Reader" = some m.cls := findClass_of_methodNamed B.named
  have hlocks := B.notSynchronized
  subst hsz
  have hD := hD0.self (sz := s.heap.size)
  generalize hAe : va_A (Wc ty h σ px) s.heap.size = A at hD hM ⊢
  have hA : ∀ q : Nat, s.heap.size ≤ q → A q := fun q h9 => by rw [← hAe]; exact Or.inr h9
  have hS : va_S A s.heap s.heap [] := va_S.rf
  have he : entryFrame m args 3 = entryFrame m ([.ref (h 20)] : List Value).toArray 3 := by rw [ha]
  rw [he, lg_entry_eq]
  have hl := lv_entry ([.ref (h 20)]) (n := 3) (Nat.le_of_ble_eq_true rfl)
  generalize (lg_sl ([.ref (h 20)]) ++ List.replicate (3 - (lg_sl ([.ref (h 20)])).length) Slot.unset).toArray = ls at hl ⊢
  have hl : lv_has ls 3 [(0, .ref (h 20))] := hl
  generalize hv : f_Rd_readDigits σ = v
  replace hv := hv.symm
  have B76 : ∀ (H : Heap) (locs : List Loc) (ls : Array Slot) (s0 : Int32) (σ : St), v = f_Rd_readDigits_76 s0 σ → k_Rd_readDigits_76 s0 σ → lv_has ls 3 [] → va_P D classes (Wc ty h σ px) H → va_D A (Wc ty h σ px) → va_S A s.heap H locs → W p l e (headSpec w_Rd_readDigits rm_Rd_readDigits).room s m args below meth c H locs 0 0 (MQ below (va_Qi (fun r (u : St) => (r, u) = v) (fun u t => va_P D classes (Wc ty h u px) t.heap) A) args s 0 0 A) (F0 m 76 ls [.int s0]) := by
    intro H locs ls s0 σ hv hk hl hP hD hS
    unfold f_Rd_readDigits_76 at hv
    unfold k_Rd_readDigits_76 at hk
    exact W.iret hx hb hr (fun t ht hW => ⟨⟨_, _, rfl, hv.symm, by dsimp only; rw [ht]; exact hP⟩, hS.F ht⟩) hS.2.2 d_Rd_readDigits_76
  have B71 : ∀ (H : Heap) (locs : List Loc) (ls : Array Slot) (σ : St), v = f_Rd_readDigits_71 σ → k_Rd_readDigits_71 σ → lv_has ls 3 [] → va_P D classes (Wc ty h σ px) H → va_D A (Wc ty h σ px) → va_S A s.heap H locs → W p l e (headSpec w_Rd_readDigits rm_Rd_readDigits).room s m args below meth c H locs 0 0 (MQ below (va_Qi (fun r (u : St) => (r, u) = v) (fun u t => va_P D classes (Wc ty h u px) t.heap) A) args s 0 0 A) (F0 m 71 ls []) := by
    intro H locs ls σ hv hk hl hP hD hS
    unfold f_Rd_readDigits_71 at hv
    unfold k_Rd_readDigits_71 at hk
    refine lv_iconst (v := -1) hx hb d_Rd_readDigits_71 (by decide) ?_
    refine lv_goto (tgt := 76) hx hb d_Rd_readDigits_72 (by decide) ?_
    exact B76 _ _ _ (-1) σ hv hk (lv_sub hl [] rfl) hP hD hS
  have B62 : ∀ (H : Heap) (locs : List Loc) (ls : Array Slot) (x1 : Int32) (x2 : Int32) (σ : St), v = f_Rd_readDigits_62 x1 x2 σ → k_Rd_readDigits_62 x1 x2 σ → lv_has ls 3 [(1, .int x1), (2, .int x2)] → va_P D classes (Wc ty h σ px) H → va_D A (Wc ty h σ px) → va_S A s.heap H locs → W p l e (headSpec w_Rd_readDigits rm_Rd_readDigits).room s m args below meth c H locs 0 0 (MQ below (va_Qi (fun r (u : St) => (r, u) = v) (fun u t => va_P D classes (Wc ty h u px) t.heap) A) args s 0 0 A) (F0 m 62 ls []) := by
    intro H locs ls x1 x2 σ hv hk hl hP hD hS
    unfold f_Rd_readDigits_62 at hv
    unfold k_Rd_readDigits_62 at hk
    refine lv_iload_n hx hb d_Rd_readDigits_62 rfl (lv_at hl 1 rfl) ?_
    refine lv_if_eq (tgt := 71) hx hb d_Rd_readDigits_63 (by decide) (fun hc => ?_) (fun hc => ?_)
    · have hv := hv.trans (if_pos hc)
      have hk := hk.1 hc
      exact B71 _ _ _  σ hv hk (lv_sub hl [] rfl) hP hD hS
    · have hv := hv.trans (if_neg hc)
      have hk := hk.2 hc
      refine lv_iload_n hx hb d_Rd_readDigits_66 rfl (lv_at hl 1 rfl) ?_
      refine lv_iconst (v := 5) hx hb d_Rd_readDigits_67 (by decide) ?_
      refine lv_icmp_le (tgt := 75) hx hb d_Rd_readDigits_68 (by decide) (fun hc => ?_) (fun hc => ?_)
      · have hv := hv.trans (if_pos hc)
        have hk := hk.1 hc
        refine lv_iload_n hx hb d_Rd_readDigits_75 rfl (lv_at hl 0 rfl) ?_
        exact B76 _ _ _ x1 σ hv hk (lv_sub hl [] rfl) hP hD hS
      · have hv := hv.trans (if_neg hc)
        have hk := hk.2 hc
        exact B71 _ _ _  σ hv hk (lv_sub hl [] rfl) hP hD hS
  have B4 : ∀ (n4 : Nat) (H : Heap) (locs : List Loc) (ls : Array Slot) (x1 : Int32) (x2 : Int32) (σ : St), v = f_Rd_readDigits_4 n4 x1 x2 σ → k_Rd_readDigits_4 n4 x1 x2 σ → lv_has ls 3 [(0, .ref (h 20)), (1, .int x1), (2, .int x2)] → va_P D classes (Wc ty h σ px) H → va_D A (Wc ty h σ px) → va_S A s.heap H locs → W p l e (headSpec w_Rd_readDigits rm_Rd_readDigits).room s m args below meth c H locs 0 0 (MQ below (va_Qi (fun r (u : St) => (r, u) = v) (fun u t => va_P D classes (Wc ty h u px) t.heap) A) args s 0 0 A) (F0 m 4 ls []) := by
    intro n4
    induction n4 with
    | zero => intro H locs ls x1 x2 σ hv hk hl hP hD hS; exact hk.elim
    | succ n4 ih4 =>
      have B59 : ∀ (H : Heap) (locs : List Loc) (ls : Array Slot) (x1 : Int32) (x2 : Int32) (σ : St), v = f_Rd_readDigits_59 (f_Rd_readDigits_4 n4) x1 x2 σ → k_Rd_readDigits_59 (k_Rd_readDigits_4 n4) x1 x2 σ → lv_has ls 3 [(0, .ref (h 20)), (1, .int x1), (2, .int x2)] → va_P D classes (Wc ty h σ px) H → va_D A (Wc ty h σ px) → va_S A s.heap H locs → W p l e (headSpec w_Rd_readDigits rm_Rd_readDigits).room s m args below meth c H locs 0 0 (MQ below (va_Qi (fun r (u : St) => (r, u) = v) (fun u t => va_P D classes (Wc ty h u px) t.heap) A) args s 0 0 A) (F0 m 59 ls []) := by
        intro H locs ls x1 x2 σ hv hk hl hP hD hS
        unfold f_Rd_readDigits_59 at hv
        unfold k_Rd_readDigits_59 at hk
        refine lv_goto (tgt := 4) hx hb d_Rd_readDigits_59 (by decide) ?_
        exact ih4 _ _ _ x1 x2 σ hv hk (lv_sub hl [0, 1, 2] rfl) hP hD hS
      have B46 : ∀ (H : Heap) (locs : List Loc) (ls : Array Slot) (x1 : Int32) (x2 : Int32) (σ : St), v = f_Rd_readDigits_46 (f_Rd_readDigits_4 n4) x1 x2 σ → k_Rd_readDigits_46 (k_Rd_readDigits_4 n4) x1 x2 σ → lv_has ls 3 [(0, .ref (h 20)), (1, .int x1), (2, .int x2)] → va_P D classes (Wc ty h σ px) H → va_D A (Wc ty h σ px) → va_S A s.heap H locs → W p l e (headSpec w_Rd_readDigits rm_Rd_readDigits).room s m args below meth c H locs 0 0 (MQ below (va_Qi (fun r (u : St) => (r, u) = v) (fun u t => va_P D classes (Wc ty h u px) t.heap) A) args s 0 0 A) (F0 m 46 ls []) := by
        intro H locs ls x1 x2 σ hv hk hl hP hD hS
        unfold f_Rd_readDigits_46 at hv
        unfold k_Rd_readDigits_46 at hk
        refine lv_iinc (k := 2) (v := x2 + 1) (lv' := [(2, .int (x2 + 1)), (0, .ref (h 20)), (1, .int x1)]) hx hb d_Rd_readDigits_46 hl rfl (by first | rfl | simp [lit1, litm1]) (by decide) rfl (fun ls hl => ?_)
        refine lv_aload_n hx hb d_Rd_readDigits_49 rfl (lv_at hl 1 rfl) ?_
        refine lv_dup hx hb d_Rd_readDigits_50 rfl ?_
        refine va_get (v := .int (σ.1 20 3)) (C := R_Rd) (T := T_Rd) (N := 4) hx hb hg in_Rd hown hK hP 20 rfl rfl 3 (by decide) (hg _ m_136) (fun _ h9 => h9) rfl d_Rd_readDigits_51 ?_
        refine lv_iconst (v := 1) hx hb d_Rd_readDigits_54 (by decide) ?_
        refine lv_iadd hx hb d_Rd_readDigits_55 ?_
        refine va_put (v := .int ((σ.1 20 3) + 1)) (ty := .int) (C := R_Rd) (T := T_Rd) (N := 4) hx hb hg in_Rd ty_Rd ok_Rd nm_Rd hown hK hP hD hS 20 rfl rfl 3 (by decide) (hg _ m_136) (fun _ h9 => h9) rfl (by decide +kernel) rfl rfl (Nat.le_of_ble_eq_true rfl) d_Rd_readDigits_56 (fun H locs hP hD hS => ?_)
        have hP : va_P D classes (Wc ty h (sF σ 20 3 ((σ.1 20 3) + 1)) px) H := hP
        have hD : va_D A (Wc ty h (sF σ 20 3 ((σ.1 20 3) + 1)) px) := hD
        exact B59 _ _ _ x1 (x2 + 1) (sF σ 20 3 ((σ.1 20 3) + 1)) hv hk (lv_sub hl [1, 2, 0] rfl) hP hD hS
      intro H locs ls x1 x2 σ hv hk hl hP hD hS
      rw [f_Rd_readDigits_4] at hv
      rw [k_Rd_readDigits_4] at hk
      refine lv_iload_n hx hb d_Rd_readDigits_4 rfl (lv_at hl 2 rfl) ?_
      refine lv_iconst (v := 5) hx hb d_Rd_readDigits_5 (by decide) ?_
      refine lv_icmp_gt (tgt := 62) hx hb d_Rd_readDigits_6 (by decide) (fun hc => ?_) (fun hc => ?_)
      · have hv := hv.trans (if_pos hc)
        have hk := hk.1 hc
        exact B62 _ _ _ x1 x2 σ hv hk (lv_sub hl [1, 2] rfl) hP hD hS
      · have hv := hv.trans (if_neg hc)
        have hk := hk.2 hc
        refine lv_aload_n hx hb d_Rd_readDigits_9 rfl (lv_at hl 0 rfl) ?_
        refine va_get (v := .ref (h 18)) (C := R_Rd) (T := T_Rd) (N := 4) hx hb hg in_Rd hown hK hP 20 rfl rfl 0 (by decide) (hg _ m_133) (fun _ h9 => h9) rfl d_Rd_readDigits_10 ?_
        refine lv_aload_n hx hb d_Rd_readDigits_13 rfl (lv_at hl 0 rfl) ?_
        refine va_get (v := .int (σ.1 20 3)) (C := R_Rd) (T := T_Rd) (N := 4) hx hb hg in_Rd hown hK hP 20 rfl rfl 3 (by decide) (hg _ m_136) (fun _ h9 => h9) rfl d_Rd_readDigits_14 ?_
        obtain ⟨hk0, hk⟩ := hk
        refine zz_callV (va_runV (As := [.int (σ.1 20 3)]) (rest := []) ⟨hx, hb, hml, hown, hg⟩ (c_Dr_letter l D ty h px sa σ (σ.1 20 3) hk0) ⟨callB_of 1 hg (gw_C m_583) rfl rfl rfl (hg _ m_4) (hg _ m_580) hd_Dr_letter ⟨Nat.le_of_ble_eq_true rfl, Nat.le_of_ble_eq_true rfl⟩, hg _ m_581, hg _ m_582⟩ (zz_preV (hM.at hS) hN hK hP 18 rfl rfl) rfl rfl hl.1 rfl (lv_room (Nat.le_of_ble_eq_true rfl)) d_Rd_readDigits_17 ⟨Nat.le_of_ble_eq_true rfl, Nat.le_of_ble_eq_true rfl⟩) ?_
        obtain ⟨hk0, hk⟩ := hk
        refine zz_callV (va_runS (As := [.int (f_Dr_letter (σ.1 20 3) σ)]) (rest := []) ⟨hx, hb, hml, hown, hg⟩ (c_Rd_isDigit l D ty h px sa σ (f_Dr_letter (σ.1 20 3) σ) hk0) ⟨callB_of 1 hg (gw_C m_752) rfl rfl rfl (hg _ m_5) (hg _ m_750) hd_Rd_isDigit ⟨Nat.le_of_ble_eq_true rfl, Nat.le_of_ble_eq_true rfl⟩, hg _ m_751⟩ (zz_preS (hM.at hS) hN hK hP) rfl rfl hl.1 rfl (lv_room (Nat.le_of_ble_eq_true rfl)) d_Rd_readDigits_20 ⟨Nat.le_of_ble_eq_true rfl, Nat.le_of_ble_eq_true rfl⟩) ?_
        refine lv_if_eq (tgt := 62) hx hb d_Rd_readDigits_23 (by decide) (fun hc => ?_) (fun hc => ?_)
        · have hv := hv.trans (if_pos hc)
          have hk := hk.1 hc
          exact B62 _ _ _ x1 x2 σ hv hk (lv_sub hl [1, 2] rfl) hP hD hS
        · have hv := hv.trans (if_neg hc)
          have hk := hk.2 hc
          refine lv_bipush (v := 10) hx hb d_Rd_readDigits_26 (by decide) ?_
          refine lv_iload_n hx hb d_Rd_readDigits_28 rfl (lv_at hl 1 rfl) ?_
          refine lv_imul hx hb d_Rd_readDigits_29 ?_
          refine lv_aload_n hx hb d_Rd_readDigits_30 rfl (lv_at hl 0 rfl) ?_
          refine va_get (v := .ref (h 18)) (C := R_Rd) (T := T_Rd) (N := 4) hx hb hg in_Rd hown hK hP 20 rfl rfl 0 (by decide) (hg _ m_133) (fun _ h9 => h9) rfl d_Rd_readDigits_31 ?_
          refine lv_aload_n hx hb d_Rd_readDigits_34 rfl (lv_at hl 0 rfl) ?_
          refine va_get (v := .int (σ.1 20 3)) (C := R_Rd) (T := T_Rd) (N := 4) hx hb hg in_Rd hown hK hP 20 rfl rfl 3 (by decide) (hg _ m_136) (fun _ h9 => h9) rfl d_Rd_readDigits_35 ?_
          obtain ⟨hk0, hk⟩ := hk
          refine zz_callV (va_runV (As := [.int (σ.1 20 3)]) (rest := [.int (10 * x1)]) ⟨hx, hb, hml, hown, hg⟩ (c_Dr_letter l D ty h px sa σ (σ.1 20 3) hk0) ⟨callB_of 1 hg (gw_C m_583) rfl rfl rfl (hg _ m_4) (hg _ m_580) hd_Dr_letter ⟨Nat.le_of_ble_eq_true rfl, Nat.le_of_ble_eq_true rfl⟩, hg _ m_581, hg _ m_582⟩ (zz_preV (hM.at hS) hN hK hP 18 rfl rfl) rfl rfl hl.1 rfl (lv_room (Nat.le_of_ble_eq_true rfl)) d_Rd_readDigits_38 ⟨Nat.le_of_ble_eq_true rfl, Nat.le_of_ble_eq_true rfl⟩) ?_
          refine lv_bipush (v := 48) hx hb d_Rd_readDigits_41 (by decide) ?_
          refine lv_isub hx hb d_Rd_readDigits_43 ?_
          refine lv_iadd hx hb d_Rd_readDigits_44 ?_
          refine lv_istore_n (lv' := [(1, .int ((10 * x1) + ((f_Dr_letter (σ.1 20 3) σ) - 48))), (0, .ref (h 20)), (2, .int x2)]) hx hb d_Rd_readDigits_45 rfl hl (by decide) rfl (fun ls hl => ?_)
          exact B46 _ _ _ ((10 * x1) + ((f_Dr_letter (σ.1 20 3) σ) - 48)) x2 σ hv hk (lv_sub hl [1, 0, 2] rfl) hP hD hS
  unfold f_Rd_readDigits at hv
  unfold k_Rd_readDigits at hk
  refine lv_iconst (v := 0) hx hb d_Rd_readDigits_0 (by decide) ?_
  refine lv_istore_n (lv' := [(1, .int 0), (0, .ref (h 20))]) hx hb d_Rd_readDigits_1 rfl hl (by decide) rfl (fun ls hl => ?_)
  refine lv_iconst (v := 0) hx hb d_Rd_readDigits_2 (by decide) ?_
  refine lv_istore_n (lv' := [(2, .int 0), (1, .int 0), (0, .ref (h 20))]) hx hb d_Rd_readDigits_3 rfl hl (by decide) rfl (fun ls hl => ?_)
  exact B4 1000 _ _ _ 0 0 σ hv hk (lv_sub hl [2, 1, 0] rfl) hP hD hS

-- ClauseLedger.gcd(JJ)J
abbrev b_CL_gcd : ByteArray := prog_1_method_43_code
def y_CL_gcd : MethodName := ⟨"ClauseLedger", "gcd", "(JJ)J"⟩
theorem hd_CL_gcd : y_CL_gcd.cls ≠ "java/lang/invoke/MethodHandle" ∧ y_CL_gcd.cls ≠ "java/lang/invoke/VarHandle" ∧ (parseMethodDescriptor y_CL_gcd.desc).map (fun d => d.parameters.length) = some 2 := by decide +kernel
theorem d_CL_gcd_0 : decode b_CL_gcd 0 = .ok (.lload_n 0, 1) := by decide +kernel
theorem d_CL_gcd_1 : decode b_CL_gcd 1 = .ok (.lconst 0, 1) := by decide +kernel
theorem d_CL_gcd_2 : decode b_CL_gcd 2 = .ok (.lcmp, 1) := by decide +kernel
theorem d_CL_gcd_3 : decode b_CL_gcd 3 = .ok (.ifCond .ge 8, 3) := by decide +kernel
theorem d_CL_gcd_6 : decode b_CL_gcd 6 = .ok (.lload_n 0, 1) := by decide +kernel
theorem d_CL_gcd_7 : decode b_CL_gcd 7 = .ok (.lneg, 1) := by decide +kernel
theorem d_CL_gcd_8 : decode b_CL_gcd 8 = .ok (.goto 4, 3) := by decide +kernel
theorem d_CL_gcd_11 : decode b_CL_gcd 11 = .ok (.lload_n 0, 1) := by decide +kernel
theorem d_CL_gcd_12 : decode b_CL_gcd 12 = .ok (.lstore 4, 2) := by decide +kernel
theorem d_CL_gcd_14 : decode b_CL_gcd 14 = .ok (.lload_n 2, 1) := by decide +kernel
theorem d_CL_gcd_15 : decode b_CL_gcd 15 = .ok (.lconst 0, 1) := by decide +kernel
theorem d_CL_gcd_16 : decode b_CL_gcd 16 = .ok (.lcmp, 1) := by decide +kernel
theorem d_CL_gcd_17 : decode b_CL_gcd 17 = .ok (.ifCond .ge 8, 3) := by decide +kernel
theorem d_CL_gcd_20 : decode b_CL_gcd 20 = .ok (.lload_n 2, 1) := by decide +kernel
theorem d_CL_gcd_21 : decode b_CL_gcd 21 = .ok (.lneg, 1) := by decide +kernel
theorem d_CL_gcd_22 : decode b_CL_gcd 22 = .ok (.goto 4, 3) := by decide +kernel
theorem d_CL_gcd_25 : decode b_CL_gcd 25 = .ok (.lload_n 2, 1) := by decide +kernel
theorem d_CL_gcd_26 : decode b_CL_gcd 26 = .ok (.lstore 6, 2) := by decide +kernel
theorem d_CL_gcd_28 : decode b_CL_gcd 28 = .ok (.iconst 0, 1) := by decide +kernel
theorem d_CL_gcd_29 : decode b_CL_gcd 29 = .ok (.istore 8, 2) := by decide +kernel
theorem d_CL_gcd_31 : decode b_CL_gcd 31 = .ok (.iload 8, 2) := by decide +kernel
theorem d_CL_gcd_33 : decode b_CL_gcd 33 = .ok (.sipush 200, 3) := by decide +kernel
theorem d_CL_gcd_36 : decode b_CL_gcd 36 = .ok (.if_icmp .ge 31, 3) := by decide +kernel
theorem d_CL_gcd_39 : decode b_CL_gcd 39 = .ok (.lload 6, 2) := by decide +kernel
theorem d_CL_gcd_41 : decode b_CL_gcd 41 = .ok (.lconst 0, 1) := by decide +kernel
theorem d_CL_gcd_42 : decode b_CL_gcd 42 = .ok (.lcmp, 1) := by decide +kernel
theorem d_CL_gcd_43 : decode b_CL_gcd 43 = .ok (.ifCond .eq 24, 3) := by decide +kernel
theorem d_CL_gcd_46 : decode b_CL_gcd 46 = .ok (.lload 4, 2) := by decide +kernel
theorem d_CL_gcd_48 : decode b_CL_gcd 48 = .ok (.lload 6, 2) := by decide +kernel
theorem d_CL_gcd_50 : decode b_CL_gcd 50 = .ok (.lrem, 1) := by decide +kernel
theorem d_CL_gcd_51 : decode b_CL_gcd 51 = .ok (.lstore 9, 2) := by decide +kernel
theorem d_CL_gcd_53 : decode b_CL_gcd 53 = .ok (.lload 6, 2) := by decide +kernel
theorem d_CL_gcd_55 : decode b_CL_gcd 55 = .ok (.lstore 4, 2) := by decide +kernel
theorem d_CL_gcd_57 : decode b_CL_gcd 57 = .ok (.lload 9, 2) := by decide +kernel
theorem d_CL_gcd_59 : decode b_CL_gcd 59 = .ok (.lstore 6, 2) := by decide +kernel
theorem d_CL_gcd_61 : decode b_CL_gcd 61 = .ok (.iinc 8 1, 3) := by decide +kernel
theorem d_CL_gcd_64 : decode b_CL_gcd 64 = .ok (.goto (-33), 3) := by decide +kernel
theorem d_CL_gcd_67 : decode b_CL_gcd 67 = .ok (.lload 4, 2) := by decide +kernel
theorem d_CL_gcd_69 : decode b_CL_gcd 69 = .ok (.lreturn, 1) := by decide +kernel
def f_CL_gcd_67 (x4 : Int64) (σ : St) : Int64 := x4
def k_CL_gcd_67 (x4 : Int64) (σ : St) : Prop := True
def f_CL_gcd_31 : Nat → Int64 → Int64 → Int32 → St → Int64
  | 0, _, _, _, σ => 0
  | n + 1, x4, x6, x8, σ => if 200 ≤ x8 then (f_CL_gcd_67 x4 σ) else (if (lg_cmp x6 0) = 0 then (f_CL_gcd_67 x4 σ) else ((f_CL_gcd_31 n) x6 (x4 - x4 / x6 * x6) (x8 + 1) σ))
def k_CL_gcd_31 : Nat → Int64 → Int64 → Int32 → St → Prop
  | 0, _, _, _, _ => False
  | n + 1, x4, x6, x8, σ => (200 ≤ x8 → (k_CL_gcd_67 x4 σ)) ∧ (¬ 200 ≤ x8 → (((lg_cmp x6 0) = 0 → (k_CL_gcd_67 x4 σ)) ∧ (¬ (lg_cmp x6 0) = 0 → ((¬ (x6 : Int64) = 0) ∧ ((k_CL_gcd_31 n) x6 (x4 - x4 / x6 * x6) (x8 + 1) σ)))))
def f_CL_gcd_26 (x4 : Int64) (s0 : Int64) (σ : St) : Int64 := f_CL_gcd_31 1000 x4 s0 0 σ
def k_CL_gcd_26 (x4 : Int64) (s0 : Int64) (σ : St) : Prop := k_CL_gcd_31 1000 x4 s0 0 σ
def f_CL_gcd_12 (x2 : Int64) (s0 : Int64) (σ : St) : Int64 := if 0 ≤ (lg_cmp x2 0) then (f_CL_gcd_26 s0 x2 σ) else (f_CL_gcd_26 s0 (-x2) σ)
def k_CL_gcd_12 (x2 : Int64) (s0 : Int64) (σ : St) : Prop := (0 ≤ (lg_cmp x2 0) → (k_CL_gcd_26 s0 x2 σ)) ∧ (¬ 0 ≤ (lg_cmp x2 0) → (k_CL_gcd_26 s0 (-x2) σ))
def f_CL_gcd (a0 : Int64) (a2 : Int64) (σ : St) : Int64 := if 0 ≤ (lg_cmp a0 0) then (f_CL_gcd_12 a2 a0 σ) else (f_CL_gcd_12 a2 (-a0) σ)
def k_CL_gcd (a0 : Int64) (a2 : Int64) (σ : St) : Prop := (0 ≤ (lg_cmp a0 0) → (k_CL_gcd_12 a2 a0 σ)) ∧ (¬ 0 ≤ (lg_cmp a0 0) → (k_CL_gcd_12 a2 (-a0) σ))
abbrev w_CL_gcd : List Cond := Cond.code y_CL_gcd b_CL_gcd 11 (some .long) :: gw
abbrev rm_CL_gcd : Room := { frames := 0, cells := 0, slots := 0, locals := 0 }
set_option maxHeartbeats 4000000 in
set_option maxRecDepth 100000 in
theorem c_CL_gcd (l : Launch) (D : va_G) (ty : Nat → ClassId) (h : Nat → Nat) (px : va_W) (sa : Nat → Nat) (σ : St) (a0 : Int64) (a2 : Int64) (hk : k_CL_gcd a0 a2 σ) : Met l y_CL_gcd w_CL_gcd rm_CL_gcd (va_Pc [.long a0, .long a2] (fun U => va_P D classes (Wc ty h σ px) U.heap ∧ va_K D classes (Ta ty) U ∧ NW U ∧ MK sa (fun _ => False) U U.heap)) (k2_QcV (.long (f_CL_gcd a0 a2 σ))) 0 0 (fun _ => False) := by
  refine Met.ofW (cc := b_CL_gcd) (maxL := 11) (ret := (some .long)) (by decide) rfl ?_
  intro p e s m args below meth c s₁ B hml hv
  obtain ⟨ha, hP, hK, hN, hM⟩ := hv
  have hx := B.exec
  have hb := B.bytes
  have hr := B.returns
  have hg : ∀ w ∈ gw, w.before args s = true := fun w h9 => atoms_spec (ws := w_CL_gcd) B.pre w (List.mem_cons_of_mem _ h9)
  have hown : s.vm.findClass "ClauseLedger" = some m.cls := findClass_of_methodNamed B.named
  have hlocks := B.notSynchronized
  have he : entryFrame m args 11 = entryFrame m ([.long a0, .long a2] : List Value).toArray 11 := by rw [ha]
  rw [he, lg_entry_eq]
  have hl := lv_entry ([.long a0, .long a2]) (n := 11) (Nat.le_of_ble_eq_true rfl)
  generalize (lg_sl ([.long a0, .long a2]) ++ List.replicate (11 - (lg_sl ([.long a0, .long a2])).length) Slot.unset).toArray = ls at hl ⊢
  have hl : lv_has ls 11 [(0, .long a0), (2, .long a2)] := hl
  generalize hv : f_CL_gcd a0 a2 σ = v
  replace hv := hv.symm
  have B67 : ∀ (ls : Array Slot) (x4 : Int64), v = f_CL_gcd_67 x4 σ → k_CL_gcd_67 x4 σ → lv_has ls 11 [(4, .long x4)] → W p l e (headSpec w_CL_gcd rm_CL_gcd).room s m args below meth c s.heap [] 0 0 (MQ below (k2_QcV (.long v)) args s 0 0 (fun _ => False)) (F0 m 67 ls []) := by
    intro ls x4 hv hk hl
    unfold f_CL_gcd_67 at hv
    unfold k_CL_gcd_67 at hk
    refine lv_lload hx hb d_CL_gcd_67 (lv_at hl 0 rfl) ?_
    exact W.lret hx hb hr (fun t ht hW => ⟨by rw [hv], ht⟩) (fun q h => nomatch h) d_CL_gcd_69
  have B31 : ∀ (n31 : Nat) (ls : Array Slot) (x4 : Int64) (x6 : Int64) (x8 : Int32), v = f_CL_gcd_31 n31 x4 x6 x8 σ → k_CL_gcd_31 n31 x4 x6 x8 σ → lv_has ls 11 [(4, .long x4), (6, .long x6), (8, .int x8)] → W p l e (headSpec w_CL_gcd rm_CL_gcd).room s m args below meth c s.heap [] 0 0 (MQ below (k2_QcV (.long v)) args s 0 0 (fun _ => False)) (F0 m 31 ls []) := by
    intro n31
    induction n31 with
    | zero => intro ls x4 x6 x8 hv hk hl; exact hk.elim
    | succ n31 ih31 =>
      intro ls x4 x6 x8 hv hk hl
      rw [f_CL_gcd_31] at hv
      rw [k_CL_gcd_31] at hk
      refine lv_iload hx hb d_CL_gcd_31 (lv_at hl 2 rfl) ?_
      refine lv_sipush (v := 200) hx hb d_CL_gcd_33 (by decide) ?_
      refine lv_icmp_ge (tgt := 67) hx hb d_CL_gcd_36 (by decide) (fun hc => ?_) (fun hc => ?_)
      · have hv := hv.trans (if_pos hc)
        have hk := hk.1 hc
        exact B67 _ x4 hv hk (lv_sub hl [0] rfl)
      · have hv := hv.trans (if_neg hc)
        have hk := hk.2 hc
        refine lv_lload hx hb d_CL_gcd_39 (lv_at hl 1 rfl) ?_
        refine lv_lconst (v := 0) hx hb d_CL_gcd_41 (by decide) ?_
        refine W.lcmp hx hb d_CL_gcd_42 ?_
        refine lv_if_eq (tgt := 67) hx hb d_CL_gcd_43 (by decide) (fun hc => ?_) (fun hc => ?_)
        · have hv := hv.trans (if_pos hc)
          have hk := hk.1 hc
          exact B67 _ x4 hv hk (lv_sub hl [0] rfl)
        · have hv := hv.trans (if_neg hc)
          have hk := hk.2 hc
          refine lv_lload hx hb d_CL_gcd_46 (lv_at hl 0 rfl) ?_
          refine lv_lload hx hb d_CL_gcd_48 (lv_at hl 1 rfl) ?_
          obtain ⟨hk0, hk⟩ := hk
          refine lv_lrem hx hb d_CL_gcd_50 hk0 ?_
          refine lv_lstore (lv' := [(9, .long (x4 - x4 / x6 * x6)), (4, .long x4), (6, .long x6), (8, .int x8)]) hx hb d_CL_gcd_51 hl (by decide) rfl (fun ls hl => ?_)
          refine lv_lload hx hb d_CL_gcd_53 (lv_at hl 2 rfl) ?_
          refine lv_lstore (lv' := [(4, .long x6), (9, .long (x4 - x4 / x6 * x6)), (6, .long x6), (8, .int x8)]) hx hb d_CL_gcd_55 hl (by decide) rfl (fun ls hl => ?_)
          refine lv_lload hx hb d_CL_gcd_57 (lv_at hl 1 rfl) ?_
          refine lv_lstore (lv' := [(6, .long (x4 - x4 / x6 * x6)), (4, .long x6), (9, .long (x4 - x4 / x6 * x6)), (8, .int x8)]) hx hb d_CL_gcd_59 hl (by decide) rfl (fun ls hl => ?_)
          refine lv_iinc (k := 3) (v := x8 + 1) (lv' := [(8, .int (x8 + 1)), (6, .long (x4 - x4 / x6 * x6)), (4, .long x6), (9, .long (x4 - x4 / x6 * x6))]) hx hb d_CL_gcd_61 hl rfl (by first | rfl | simp [lit1, litm1]) (by decide) rfl (fun ls hl => ?_)
          refine lv_goto (tgt := 31) hx hb d_CL_gcd_64 (by decide) ?_
          exact ih31 _ x6 (x4 - x4 / x6 * x6) (x8 + 1) hv hk (lv_sub hl [2, 1, 0] rfl)
  have B26 : ∀ (ls : Array Slot) (x4 : Int64) (s0 : Int64), v = f_CL_gcd_26 x4 s0 σ → k_CL_gcd_26 x4 s0 σ → lv_has ls 11 [(4, .long x4)] → W p l e (headSpec w_CL_gcd rm_CL_gcd).room s m args below meth c s.heap [] 0 0 (MQ below (k2_QcV (.long v)) args s 0 0 (fun _ => False)) (F0 m 26 ls [.long s0]) := by
    intro ls x4 s0 hv hk hl
    unfold f_CL_gcd_26 at hv
    unfold k_CL_gcd_26 at hk
    refine lv_lstore (lv' := [(6, .long s0), (4, .long x4)]) hx hb d_CL_gcd_26 hl (by decide) rfl (fun ls hl => ?_)
    refine lv_iconst (v := 0) hx hb d_CL_gcd_28 (by decide) ?_
    refine lv_istore (lv' := [(8, .int 0), (6, .long s0), (4, .long x4)]) hx hb d_CL_gcd_29 hl (by decide) rfl (fun ls hl => ?_)
    exact B31 1000 _ x4 s0 0 hv hk (lv_sub hl [2, 1, 0] rfl)
  have B12 : ∀ (ls : Array Slot) (x2 : Int64) (s0 : Int64), v = f_CL_gcd_12 x2 s0 σ → k_CL_gcd_12 x2 s0 σ → lv_has ls 11 [(2, .long x2)] → W p l e (headSpec w_CL_gcd rm_CL_gcd).room s m args below meth c s.heap [] 0 0 (MQ below (k2_QcV (.long v)) args s 0 0 (fun _ => False)) (F0 m 12 ls [.long s0]) := by
    intro ls x2 s0 hv hk hl
    unfold f_CL_gcd_12 at hv
    unfold k_CL_gcd_12 at hk
    refine lv_lstore (lv' := [(4, .long s0), (2, .long x2)]) hx hb d_CL_gcd_12 hl (by decide) rfl (fun ls hl => ?_)
    refine lv_lload_n hx hb d_CL_gcd_14 rfl (lv_at hl 1 rfl) ?_
    refine lv_lconst (v := 0) hx hb d_CL_gcd_15 (by decide) ?_
    refine W.lcmp hx hb d_CL_gcd_16 ?_
    refine lv_if_ge (tgt := 25) hx hb d_CL_gcd_17 (by decide) (fun hc => ?_) (fun hc => ?_)
    · have hv := hv.trans (if_pos hc)
      have hk := hk.1 hc
      refine lv_lload_n hx hb d_CL_gcd_25 rfl (lv_at hl 1 rfl) ?_
      exact B26 _ s0 x2 hv hk (lv_sub hl [0] rfl)
    · have hv := hv.trans (if_neg hc)
      have hk := hk.2 hc
      refine lv_lload_n hx hb d_CL_gcd_20 rfl (lv_at hl 1 rfl) ?_
      refine lv_lneg hx hb d_CL_gcd_21 ?_
      refine lv_goto (tgt := 26) hx hb d_CL_gcd_22 (by decide) ?_
      exact B26 _ s0 (-x2) hv hk (lv_sub hl [0] rfl)
  unfold f_CL_gcd at hv
  unfold k_CL_gcd at hk
  refine lv_lload_n hx hb d_CL_gcd_0 rfl (lv_at hl 0 rfl) ?_
  refine lv_lconst (v := 0) hx hb d_CL_gcd_1 (by decide) ?_
  refine W.lcmp hx hb d_CL_gcd_2 ?_
  refine lv_if_ge (tgt := 11) hx hb d_CL_gcd_3 (by decide) (fun hc => ?_) (fun hc => ?_)
  · have hv := hv.trans (if_pos hc)
    have hk := hk.1 hc
    refine lv_lload_n hx hb d_CL_gcd_11 rfl (lv_at hl 0 rfl) ?_
    exact B12 _ a2 a0 hv hk (lv_sub hl [1] rfl)
  · have hv := hv.trans (if_neg hc)
    have hk := hk.2 hc
    refine lv_lload_n hx hb d_CL_gcd_6 rfl (lv_at hl 0 rfl) ?_
    refine lv_lneg hx hb d_CL_gcd_7 ?_
    refine lv_goto (tgt := 12) hx hb d_CL_gcd_8 (by decide) ?_
    exact B12 _ a2 (-a0) hv hk (lv_sub hl [1] rfl)

-- ClauseLedger$Writer.digitsOf(I)I
abbrev b_Wr_digitsOf : ByteArray := prog_12_method_10_code
def y_Wr_digitsOf : MethodName := ⟨"ClauseLedger$Writer", "digitsOf", "(I)I"⟩
theorem hd_Wr_digitsOf : y_Wr_digitsOf.cls ≠ "java/lang/invoke/MethodHandle" ∧ y_Wr_digitsOf.cls ≠ "java/lang/invoke/VarHandle" ∧ (parseMethodDescriptor y_Wr_digitsOf.desc).map (fun d => d.parameters.length) = some 1 := by decide +kernel
theorem d_Wr_digitsOf_0 : decode b_Wr_digitsOf 0 = .ok (.iconst 1, 1) := by decide +kernel
theorem d_Wr_digitsOf_1 : decode b_Wr_digitsOf 1 = .ok (.istore_n 1, 1) := by decide +kernel
theorem d_Wr_digitsOf_2 : decode b_Wr_digitsOf 2 = .ok (.iload_n 0, 1) := by decide +kernel
theorem d_Wr_digitsOf_3 : decode b_Wr_digitsOf 3 = .ok (.bipush 10, 2) := by decide +kernel
theorem d_Wr_digitsOf_5 : decode b_Wr_digitsOf 5 = .ok (.idiv, 1) := by decide +kernel
theorem d_Wr_digitsOf_6 : decode b_Wr_digitsOf 6 = .ok (.istore_n 2, 1) := by decide +kernel
theorem d_Wr_digitsOf_7 : decode b_Wr_digitsOf 7 = .ok (.iload_n 2, 1) := by decide +kernel
theorem d_Wr_digitsOf_8 : decode b_Wr_digitsOf 8 = .ok (.ifCond .le 20, 3) := by decide +kernel
theorem d_Wr_digitsOf_11 : decode b_Wr_digitsOf 11 = .ok (.iload_n 1, 1) := by decide +kernel
theorem d_Wr_digitsOf_12 : decode b_Wr_digitsOf 12 = .ok (.bipush 10, 2) := by decide +kernel
theorem d_Wr_digitsOf_14 : decode b_Wr_digitsOf 14 = .ok (.if_icmp .ge 14, 3) := by decide +kernel
theorem d_Wr_digitsOf_17 : decode b_Wr_digitsOf 17 = .ok (.iinc 1 1, 3) := by decide +kernel
theorem d_Wr_digitsOf_20 : decode b_Wr_digitsOf 20 = .ok (.iload_n 2, 1) := by decide +kernel
theorem d_Wr_digitsOf_21 : decode b_Wr_digitsOf 21 = .ok (.bipush 10, 2) := by decide +kernel
theorem d_Wr_digitsOf_23 : decode b_Wr_digitsOf 23 = .ok (.idiv, 1) := by decide +kernel
theorem d_Wr_digitsOf_24 : decode b_Wr_digitsOf 24 = .ok (.istore_n 2, 1) := by decide +kernel
theorem d_Wr_digitsOf_25 : decode b_Wr_digitsOf 25 = .ok (.goto (-18), 3) := by decide +kernel
theorem d_Wr_digitsOf_28 : decode b_Wr_digitsOf 28 = .ok (.iload_n 1, 1) := by decide +kernel
theorem d_Wr_digitsOf_29 : decode b_Wr_digitsOf 29 = .ok (.ireturn, 1) := by decide +kernel
def f_Wr_digitsOf_25 (F7 : (Int32 → Int32 → St → Int32)) (x1 : Int32) (x2 : Int32) (σ : St) : Int32 := F7 x1 x2 σ
def k_Wr_digitsOf_25 (K7 : (Int32 → Int32 → St → Prop)) (x1 : Int32) (x2 : Int32) (σ : St) : Prop := K7 x1 x2 σ
def f_Wr_digitsOf_28 (x1 : Int32) (σ : St) : Int32 := x1
def k_Wr_digitsOf_28 (x1 : Int32) (σ : St) : Prop := True
def f_Wr_digitsOf_7 : Nat → Int32 → Int32 → St → Int32
  | 0, _, _, σ => 0
  | n + 1, x1, x2, σ => if x2 ≤ 0 then (f_Wr_digitsOf_28 x1 σ) else (if 10 ≤ x1 then (f_Wr_digitsOf_28 x1 σ) else (f_Wr_digitsOf_25 (f_Wr_digitsOf_7 n) (x1 + 1) (x2 / 10) σ))
def k_Wr_digitsOf_7 : Nat → Int32 → Int32 → St → Prop
  | 0, _, _, _ => False
  | n + 1, x1, x2, σ => (x2 ≤ 0 → (k_Wr_digitsOf_28 x1 σ)) ∧ (¬ x2 ≤ 0 → ((10 ≤ x1 → (k_Wr_digitsOf_28 x1 σ)) ∧ (¬ 10 ≤ x1 → ((¬ (10 : Int32) = 0) ∧ (k_Wr_digitsOf_25 (k_Wr_digitsOf_7 n) (x1 + 1) (x2 / 10) σ)))))
def f_Wr_digitsOf (a0 : Int32) (σ : St) : Int32 := f_Wr_digitsOf_7 1000 1 (a0 / 10) σ
def k_Wr_digitsOf (a0 : Int32) (σ : St) : Prop := (¬ (10 : Int32) = 0) ∧ (k_Wr_digitsOf_7 1000 1 (a0 / 10) σ)
abbrev w_Wr_digitsOf : List Cond := Cond.code y_Wr_digitsOf b_Wr_digitsOf 3 (some .int) :: gw
abbrev rm_Wr_digitsOf : Room := { frames := 0, cells := 0, slots := 0, locals := 0 }
set_option maxHeartbeats 4000000 in
set_option maxRecDepth 100000 in
theorem c_Wr_digitsOf (l : Launch) (D : va_G) (ty : Nat → ClassId) (h : Nat → Nat) (px : va_W) (sa : Nat → Nat) (σ : St) (a0 : Int32) (hk : k_Wr_digitsOf a0 σ) : Met l y_Wr_digitsOf w_Wr_digitsOf rm_Wr_digitsOf (va_Pc [.int a0] (fun U => va_P D classes (Wc ty h σ px) U.heap ∧ va_K D classes (Ta ty) U ∧ NW U ∧ MK sa (fun _ => False) U U.heap)) (k2_QcV (.int (f_Wr_digitsOf a0 σ))) 0 0 (fun _ => False) := by
  refine Met.ofW (cc := b_Wr_digitsOf) (maxL := 3) (ret := (some .int)) (by decide) rfl ?_
  intro p e s m args below meth c s₁ B hml hv
  obtain ⟨ha, hP, hK, hN, hM⟩ := hv
  have hx := B.exec
  have hb := B.bytes
  have hr := B.returns
  have hg : ∀ w ∈ gw, w.before args s = true := fun w h9 => atoms_spec (ws := w_Wr_digitsOf) B.pre w (List.mem_cons_of_mem _ h9)
  have hown : s.vm.findClass "ClauseLedger$Writer" = some m.cls := findClass_of_methodNamed B.named
  have hlocks := B.notSynchronized
  have he : entryFrame m args 3 = entryFrame m ([.int a0] : List Value).toArray 3 := by rw [ha]
  rw [he, lg_entry_eq]
  have hl := lv_entry ([.int a0]) (n := 3) (Nat.le_of_ble_eq_true rfl)
  generalize (lg_sl ([.int a0]) ++ List.replicate (3 - (lg_sl ([.int a0])).length) Slot.unset).toArray = ls at hl ⊢
  have hl : lv_has ls 3 [(0, .int a0)] := hl
  generalize hv : f_Wr_digitsOf a0 σ = v
  replace hv := hv.symm
  have B28 : ∀ (ls : Array Slot) (x1 : Int32), v = f_Wr_digitsOf_28 x1 σ → k_Wr_digitsOf_28 x1 σ → lv_has ls 3 [(1, .int x1)] → W p l e (headSpec w_Wr_digitsOf rm_Wr_digitsOf).room s m args below meth c s.heap [] 0 0 (MQ below (k2_QcV (.int v)) args s 0 0 (fun _ => False)) (F0 m 28 ls []) := by
    intro ls x1 hv hk hl
    unfold f_Wr_digitsOf_28 at hv
    unfold k_Wr_digitsOf_28 at hk
    refine lv_iload_n hx hb d_Wr_digitsOf_28 rfl (lv_at hl 0 rfl) ?_
    exact W.iret hx hb hr (fun t ht hW => ⟨by rw [hv], ht⟩) (fun q h => nomatch h) d_Wr_digitsOf_29
  have B7 : ∀ (n7 : Nat) (ls : Array Slot) (x1 : Int32) (x2 : Int32), v = f_Wr_digitsOf_7 n7 x1 x2 σ → k_Wr_digitsOf_7 n7 x1 x2 σ → lv_has ls 3 [(1, .int x1), (2, .int x2)] → W p l e (headSpec w_Wr_digitsOf rm_Wr_digitsOf).room s m args below meth c s.heap [] 0 0 (MQ below (k2_QcV (.int v)) args s 0 0 (fun _ => False)) (F0 m 7 ls []) := by
    intro n7
    induction n7 with
    | zero => intro ls x1 x2 hv hk hl; exact hk.elim
    | succ n7 ih7 =>
      have B25 : ∀ (ls : Array Slot) (x1 : Int32) (x2 : Int32), v = f_Wr_digitsOf_25 (f_Wr_digitsOf_7 n7) x1 x2 σ → k_Wr_digitsOf_25 (k_Wr_digitsOf_7 n7) x1 x2 σ → lv_has ls 3 [(1, .int x1), (2, .int x2)] → W p l e (headSpec w_Wr_digitsOf rm_Wr_digitsOf).room s m args below meth c s.heap [] 0 0 (MQ below (k2_QcV (.int v)) args s 0 0 (fun _ => False)) (F0 m 25 ls []) := by
        intro ls x1 x2 hv hk hl
        unfold f_Wr_digitsOf_25 at hv
        unfold k_Wr_digitsOf_25 at hk
        refine lv_goto (tgt := 7) hx hb d_Wr_digitsOf_25 (by decide) ?_
        exact ih7 _ x1 x2 hv hk (lv_sub hl [0, 1] rfl)
      intro ls x1 x2 hv hk hl
      rw [f_Wr_digitsOf_7] at hv
      rw [k_Wr_digitsOf_7] at hk
      refine lv_iload_n hx hb d_Wr_digitsOf_7 rfl (lv_at hl 1 rfl) ?_
      refine lv_if_le (tgt := 28) hx hb d_Wr_digitsOf_8 (by decide) (fun hc => ?_) (fun hc => ?_)
      · have hv := hv.trans (if_pos hc)
        have hk := hk.1 hc
        exact B28 _ x1 hv hk (lv_sub hl [0] rfl)
      · have hv := hv.trans (if_neg hc)
        have hk := hk.2 hc
        refine lv_iload_n hx hb d_Wr_digitsOf_11 rfl (lv_at hl 0 rfl) ?_
        refine lv_bipush (v := 10) hx hb d_Wr_digitsOf_12 (by decide) ?_
        refine lv_icmp_ge (tgt := 28) hx hb d_Wr_digitsOf_14 (by decide) (fun hc => ?_) (fun hc => ?_)
        · have hv := hv.trans (if_pos hc)
          have hk := hk.1 hc
          exact B28 _ x1 hv hk (lv_sub hl [0] rfl)
        · have hv := hv.trans (if_neg hc)
          have hk := hk.2 hc
          refine lv_iinc (k := 0) (v := x1 + 1) (lv' := [(1, .int (x1 + 1)), (2, .int x2)]) hx hb d_Wr_digitsOf_17 hl rfl (by first | rfl | simp [lit1, litm1]) (by decide) rfl (fun ls hl => ?_)
          refine lv_iload_n hx hb d_Wr_digitsOf_20 rfl (lv_at hl 1 rfl) ?_
          refine lv_bipush (v := 10) hx hb d_Wr_digitsOf_21 (by decide) ?_
          obtain ⟨hk0, hk⟩ := hk
          refine lv_idiv hx hb d_Wr_digitsOf_23 hk0 ?_
          refine lv_istore_n (lv' := [(2, .int (x2 / 10)), (1, .int (x1 + 1))]) hx hb d_Wr_digitsOf_24 rfl hl (by decide) rfl (fun ls hl => ?_)
          exact B25 _ (x1 + 1) (x2 / 10) hv hk (lv_sub hl [1, 0] rfl)
  unfold f_Wr_digitsOf at hv
  unfold k_Wr_digitsOf at hk
  refine lv_iconst (v := 1) hx hb d_Wr_digitsOf_0 (by decide) ?_
  refine lv_istore_n (lv' := [(1, .int 1), (0, .int a0)]) hx hb d_Wr_digitsOf_1 rfl hl (by decide) rfl (fun ls hl => ?_)
  refine lv_iload_n hx hb d_Wr_digitsOf_2 rfl (lv_at hl 1 rfl) ?_
  refine lv_bipush (v := 10) hx hb d_Wr_digitsOf_3 (by decide) ?_
  obtain ⟨hk0, hk⟩ := hk
  refine lv_idiv hx hb d_Wr_digitsOf_5 hk0 ?_
  refine lv_istore_n (lv' := [(2, .int (a0 / 10)), (1, .int 1), (0, .int a0)]) hx hb d_Wr_digitsOf_6 rfl hl (by decide) rfl (fun ls hl => ?_)
  exact B7 1000 _ 1 (a0 / 10) hv hk (lv_sub hl [1, 0] rfl)

-- ClauseLedger$Writer.lengthOfConstant(II)I
abbrev b_Wr_lengthOfConstant : ByteArray := prog_12_method_3_code
def y_Wr_lengthOfConstant : MethodName := ⟨"ClauseLedger$Writer", "lengthOfConstant", "(II)I"⟩
theorem hd_Wr_lengthOfConstant : y_Wr_lengthOfConstant.cls ≠ "java/lang/invoke/MethodHandle" ∧ y_Wr_lengthOfConstant.cls ≠ "java/lang/invoke/VarHandle" ∧ (parseMethodDescriptor y_Wr_lengthOfConstant.desc).map (fun d => d.parameters.length) = some 2 := by decide +kernel
theorem d_Wr_lengthOfConstant_0 : decode b_Wr_lengthOfConstant 0 = .ok (.iload_n 0, 1) := by decide +kernel
theorem d_Wr_lengthOfConstant_1 : decode b_Wr_lengthOfConstant 1 = .ok (.ifCond .ge 7, 3) := by decide +kernel
theorem d_Wr_lengthOfConstant_4 : decode b_Wr_lengthOfConstant 4 = .ok (.iconst 1, 1) := by decide +kernel
theorem d_Wr_lengthOfConstant_5 : decode b_Wr_lengthOfConstant 5 = .ok (.goto 4, 3) := by decide +kernel
theorem d_Wr_lengthOfConstant_8 : decode b_Wr_lengthOfConstant 8 = .ok (.iconst 0, 1) := by decide +kernel
theorem d_Wr_lengthOfConstant_9 : decode b_Wr_lengthOfConstant 9 = .ok (.iload_n 0, 1) := by decide +kernel
theorem d_Wr_lengthOfConstant_10 : decode b_Wr_lengthOfConstant 10 = .ok (.invokestatic 19, 3) := by decide +kernel
theorem d_Wr_lengthOfConstant_13 : decode b_Wr_lengthOfConstant 13 = .ok (.invokestatic 24, 3) := by decide +kernel
theorem d_Wr_lengthOfConstant_16 : decode b_Wr_lengthOfConstant 16 = .ok (.iadd, 1) := by decide +kernel
theorem d_Wr_lengthOfConstant_17 : decode b_Wr_lengthOfConstant 17 = .ok (.istore_n 2, 1) := by decide +kernel
theorem d_Wr_lengthOfConstant_18 : decode b_Wr_lengthOfConstant 18 = .ok (.iload_n 1, 1) := by decide +kernel
theorem d_Wr_lengthOfConstant_19 : decode b_Wr_lengthOfConstant 19 = .ok (.iconst 1, 1) := by decide +kernel
theorem d_Wr_lengthOfConstant_20 : decode b_Wr_lengthOfConstant 20 = .ok (.if_icmp .ne 7, 3) := by decide +kernel
theorem d_Wr_lengthOfConstant_23 : decode b_Wr_lengthOfConstant 23 = .ok (.iload_n 2, 1) := by decide +kernel
theorem d_Wr_lengthOfConstant_24 : decode b_Wr_lengthOfConstant 24 = .ok (.goto 11, 3) := by decide +kernel
theorem d_Wr_lengthOfConstant_27 : decode b_Wr_lengthOfConstant 27 = .ok (.iload_n 2, 1) := by decide +kernel
theorem d_Wr_lengthOfConstant_28 : decode b_Wr_lengthOfConstant 28 = .ok (.iconst 1, 1) := by decide +kernel
theorem d_Wr_lengthOfConstant_29 : decode b_Wr_lengthOfConstant 29 = .ok (.iadd, 1) := by decide +kernel
theorem d_Wr_lengthOfConstant_30 : decode b_Wr_lengthOfConstant 30 = .ok (.iload_n 1, 1) := by decide +kernel
theorem d_Wr_lengthOfConstant_31 : decode b_Wr_lengthOfConstant 31 = .ok (.invokestatic 24, 3) := by decide +kernel
theorem d_Wr_lengthOfConstant_34 : decode b_Wr_lengthOfConstant 34 = .ok (.iadd, 1) := by decide +kernel
theorem d_Wr_lengthOfConstant_35 : decode b_Wr_lengthOfConstant 35 = .ok (.ireturn, 1) := by decide +kernel
def f_Wr_lengthOfConstant_35 (s0 : Int32) (σ : St) : Int32 := s0
def k_Wr_lengthOfConstant_35 (s0 : Int32) (σ : St) : Prop := True
def f_Wr_lengthOfConstant_18 (x1 : Int32) (x2 : Int32) (σ : St) : Int32 := if x1 = 1 then (f_Wr_lengthOfConstant_35 x2 σ) else (f_Wr_lengthOfConstant_35 ((x2 + 1) + (f_Wr_digitsOf x1 σ)) σ)
def k_Wr_lengthOfConstant_18 (x1 : Int32) (x2 : Int32) (σ : St) : Prop := (x1 = 1 → (k_Wr_lengthOfConstant_35 x2 σ)) ∧ (¬ x1 = 1 → ((k_Wr_digitsOf x1 σ) ∧ (k_Wr_lengthOfConstant_35 ((x2 + 1) + (f_Wr_digitsOf x1 σ)) σ)))
def f_Wr_lengthOfConstant_9 (x0 : Int32) (x1 : Int32) (s0 : Int32) (σ : St) : Int32 := f_Wr_lengthOfConstant_18 x1 (s0 + (f_Wr_digitsOf (if 0 ≤ x0 then x0 else 0 - x0) σ)) σ
def k_Wr_lengthOfConstant_9 (x0 : Int32) (x1 : Int32) (s0 : Int32) (σ : St) : Prop := (k_Wr_digitsOf (if 0 ≤ x0 then x0 else 0 - x0) σ) ∧ (k_Wr_lengthOfConstant_18 x1 (s0 + (f_Wr_digitsOf (if 0 ≤ x0 then x0 else 0 - x0) σ)) σ)
def f_Wr_lengthOfConstant (a0 : Int32) (a1 : Int32) (σ : St) : Int32 := if 0 ≤ a0 then (f_Wr_lengthOfConstant_9 a0 a1 0 σ) else (f_Wr_lengthOfConstant_9 a0 a1 1 σ)
def k_Wr_lengthOfConstant (a0 : Int32) (a1 : Int32) (σ : St) : Prop := (0 ≤ a0 → (k_Wr_lengthOfConstant_9 a0 a1 0 σ)) ∧ (¬ 0 ≤ a0 → (k_Wr_lengthOfConstant_9 a0 a1 1 σ))
abbrev w_Wr_lengthOfConstant : List Cond := Cond.code y_Wr_lengthOfConstant b_Wr_lengthOfConstant 3 (some .int) :: gw
abbrev rm_Wr_lengthOfConstant : Room := { frames := 1, cells := 0, slots := 0, locals := 22 }
set_option maxHeartbeats 4000000 in
set_option maxRecDepth 100000 in
theorem c_Wr_lengthOfConstant (l : Launch) (D : va_G) (ty : Nat → ClassId) (h : Nat → Nat) (px : va_W) (sa : Nat → Nat) (σ : St) (a0 : Int32) (a1 : Int32) (hk : k_Wr_lengthOfConstant a0 a1 σ) : Met l y_Wr_lengthOfConstant w_Wr_lengthOfConstant rm_Wr_lengthOfConstant (va_Pc [.int a0, .int a1] (fun U => va_P D classes (Wc ty h σ px) U.heap ∧ va_K D classes (Ta ty) U ∧ NW U ∧ MK sa (fun _ => False) U U.heap)) (k2_QcV (.int (f_Wr_lengthOfConstant a0 a1 σ))) 0 0 (fun _ => False) := by
  refine Met.ofW (cc := b_Wr_lengthOfConstant) (maxL := 3) (ret := (some .int)) (by decide) rfl ?_
  intro p e s m args below meth c s₁ B hml hv
  obtain ⟨ha, hP, hK, hN, hM⟩ := hv
  have hx := B.exec
  have hb := B.bytes
  have hr := B.returns
  have hg : ∀ w ∈ gw, w.before args s = true := fun w h9 => atoms_spec (ws := w_Wr_lengthOfConstant) B.pre w (List.mem_cons_of_mem _ h9)
  have hown : s.vm.findClass "ClauseLedger$Writer" = some m.cls := findClass_of_methodNamed B.named
  have hlocks := B.notSynchronized
  have he : entryFrame m args 3 = entryFrame m ([.int a0, .int a1] : List Value).toArray 3 := by rw [ha]
  rw [he, lg_entry_eq]
  have hl := lv_entry ([.int a0, .int a1]) (n := 3) (Nat.le_of_ble_eq_true rfl)
  generalize (lg_sl ([.int a0, .int a1]) ++ List.replicate (3 - (lg_sl ([.int a0, .int a1])).length) Slot.unset).toArray = ls at hl ⊢
  have hl : lv_has ls 3 [(0, .int a0), (1, .int a1)] := hl
  generalize hv : f_Wr_lengthOfConstant a0 a1 σ = v
  replace hv := hv.symm
  have B35 : ∀ (ls : Array Slot) (s0 : Int32), v = f_Wr_lengthOfConstant_35 s0 σ → k_Wr_lengthOfConstant_35 s0 σ → lv_has ls 3 [] → W p l e (headSpec w_Wr_lengthOfConstant rm_Wr_lengthOfConstant).room s m args below meth c s.heap [] 0 0 (MQ below (k2_QcV (.int v)) args s 0 0 (fun _ => False)) (F0 m 35 ls [.int s0]) := by
    intro ls s0 hv hk hl
    unfold f_Wr_lengthOfConstant_35 at hv
    unfold k_Wr_lengthOfConstant_35 at hk
    exact W.iret hx hb hr (fun t ht hW => ⟨by rw [hv], ht⟩) (fun q h => nomatch h) d_Wr_lengthOfConstant_35
  have B18 : ∀ (ls : Array Slot) (x1 : Int32) (x2 : Int32), v = f_Wr_lengthOfConstant_18 x1 x2 σ → k_Wr_lengthOfConstant_18 x1 x2 σ → lv_has ls 3 [(1, .int x1), (2, .int x2)] → W p l e (headSpec w_Wr_lengthOfConstant rm_Wr_lengthOfConstant).room s m args below meth c s.heap [] 0 0 (MQ below (k2_QcV (.int v)) args s 0 0 (fun _ => False)) (F0 m 18 ls []) := by
    intro ls x1 x2 hv hk hl
    unfold f_Wr_lengthOfConstant_18 at hv
    unfold k_Wr_lengthOfConstant_18 at hk
    refine lv_iload_n hx hb d_Wr_lengthOfConstant_18 rfl (lv_at hl 0 rfl) ?_
    refine lv_iconst (v := 1) hx hb d_Wr_lengthOfConstant_19 (by decide) ?_
    refine lv_icmp_ne (tgt := 27) hx hb d_Wr_lengthOfConstant_20 (by decide) (fun hc => ?_) (fun hc => ?_)
    · have hv := hv.trans (if_neg hc)
      have hk := hk.2 hc
      refine lv_iload_n hx hb d_Wr_lengthOfConstant_27 rfl (lv_at hl 1 rfl) ?_
      refine lv_iconst (v := 1) hx hb d_Wr_lengthOfConstant_28 (by decide) ?_
      refine lv_iadd hx hb d_Wr_lengthOfConstant_29 ?_
      refine lv_iload_n hx hb d_Wr_lengthOfConstant_30 rfl (lv_at hl 0 rfl) ?_
      obtain ⟨hk0, hk⟩ := hk
      refine zz_callV (va_runS (As := [.int x1]) (rest := [.int (x2 + 1)]) ⟨hx, hb, hml, hown, hg⟩ (c_Wr_digitsOf l D ty h px sa σ x1 hk0) ⟨callB_of 1 hg (gw_C m_553) rfl rfl rfl (hg _ m_6) (hg _ m_551) hd_Wr_digitsOf ⟨Nat.le_of_ble_eq_true rfl, Nat.le_of_ble_eq_true rfl⟩, hg _ m_552⟩ (zz_preS hM hN hK hP) rfl rfl hl.1 rfl (lv_room (Nat.le_of_ble_eq_true rfl)) d_Wr_lengthOfConstant_31 ⟨Nat.le_of_ble_eq_true rfl, Nat.le_of_ble_eq_true rfl⟩) ?_
      refine lv_iadd hx hb d_Wr_lengthOfConstant_34 ?_
      exact B35 _ ((x2 + 1) + (f_Wr_digitsOf x1 σ)) hv hk (lv_sub hl [] rfl)
    · have hv := hv.trans (if_pos hc)
      have hk := hk.1 hc
      refine lv_iload_n hx hb d_Wr_lengthOfConstant_23 rfl (lv_at hl 1 rfl) ?_
      refine lv_goto (tgt := 35) hx hb d_Wr_lengthOfConstant_24 (by decide) ?_
      exact B35 _ x2 hv hk (lv_sub hl [] rfl)
  have B9 : ∀ (ls : Array Slot) (x0 : Int32) (x1 : Int32) (s0 : Int32), v = f_Wr_lengthOfConstant_9 x0 x1 s0 σ → k_Wr_lengthOfConstant_9 x0 x1 s0 σ → lv_has ls 3 [(0, .int x0), (1, .int x1)] → W p l e (headSpec w_Wr_lengthOfConstant rm_Wr_lengthOfConstant).room s m args below meth c s.heap [] 0 0 (MQ below (k2_QcV (.int v)) args s 0 0 (fun _ => False)) (F0 m 9 ls [.int s0]) := by
    intro ls x0 x1 s0 hv hk hl
    unfold f_Wr_lengthOfConstant_9 at hv
    unfold k_Wr_lengthOfConstant_9 at hk
    refine lv_iload_n hx hb d_Wr_lengthOfConstant_9 rfl (lv_at hl 0 rfl) ?_
    refine va_mabs hx hb (hml.trans hl.1.symm) hown (hg _ m_548) (hg _ m_549) (hg _ m_14) (hg _ m_550) (Nat.le_of_ble_eq_true rfl) (Nat.le_of_ble_eq_true rfl) (Nat.le_of_ble_eq_true rfl) (Nat.le_of_ble_eq_true rfl) d_Wr_lengthOfConstant_10 ?_
    obtain ⟨hk0, hk⟩ := hk
    refine zz_callV (va_runS (As := [.int (if 0 ≤ x0 then x0 else 0 - x0)]) (rest := [.int s0]) ⟨hx, hb, hml, hown, hg⟩ (c_Wr_digitsOf l D ty h px sa σ (if 0 ≤ x0 then x0 else 0 - x0) hk0) ⟨callB_of 1 hg (gw_C m_553) rfl rfl rfl (hg _ m_6) (hg _ m_551) hd_Wr_digitsOf ⟨Nat.le_of_ble_eq_true rfl, Nat.le_of_ble_eq_true rfl⟩, hg _ m_552⟩ (zz_preS hM hN hK hP) rfl rfl hl.1 rfl (lv_room (Nat.le_of_ble_eq_true rfl)) d_Wr_lengthOfConstant_13 ⟨Nat.le_of_ble_eq_true rfl, Nat.le_of_ble_eq_true rfl⟩) ?_
    refine lv_iadd hx hb d_Wr_lengthOfConstant_16 ?_
    refine lv_istore_n (lv' := [(2, .int (s0 + (f_Wr_digitsOf (if 0 ≤ x0 then x0 else 0 - x0) σ))), (0, .int x0), (1, .int x1)]) hx hb d_Wr_lengthOfConstant_17 rfl hl (by decide) rfl (fun ls hl => ?_)
    exact B18 _ x1 (s0 + (f_Wr_digitsOf (if 0 ≤ x0 then x0 else 0 - x0) σ)) hv hk (lv_sub hl [2, 0] rfl)
  unfold f_Wr_lengthOfConstant at hv
  unfold k_Wr_lengthOfConstant at hk
  refine lv_iload_n hx hb d_Wr_lengthOfConstant_0 rfl (lv_at hl 0 rfl) ?_
  refine lv_if_ge (tgt := 8) hx hb d_Wr_lengthOfConstant_1 (by decide) (fun hc => ?_) (fun hc => ?_)
  · have hv := hv.trans (if_pos hc)
    have hk := hk.1 hc
    refine lv_iconst (v := 0) hx hb d_Wr_lengthOfConstant_8 (by decide) ?_
    exact B9 _ a0 a1 0 hv hk (lv_sub hl [0, 1] rfl)
  · have hv := hv.trans (if_neg hc)
    have hk := hk.2 hc
    refine lv_iconst (v := 1) hx hb d_Wr_lengthOfConstant_4 (by decide) ?_
    refine lv_goto (tgt := 9) hx hb d_Wr_lengthOfConstant_5 (by decide) ?_
    exact B9 _ a0 a1 1 hv hk (lv_sub hl [0, 1] rfl)

-- ClauseLedger$Terms.makeConstant(II)I
abbrev b_Te_makeConstant : ByteArray := prog_11_method_20_code
def y_Te_makeConstant : MethodName := ⟨"ClauseLedger$Terms", "makeConstant", "(II)I"⟩
theorem hd_Te_makeConstant : y_Te_makeConstant.cls ≠ "java/lang/invoke/MethodHandle" ∧ y_Te_makeConstant.cls ≠ "java/lang/invoke/VarHandle" ∧ (parseMethodDescriptor y_Te_makeConstant.desc).map (fun d => d.parameters.length) = some 2 := by decide +kernel
theorem d_Te_makeConstant_0 : decode b_Te_makeConstant 0 = .ok (.iconst 2, 1) := by decide +kernel
theorem d_Te_makeConstant_1 : decode b_Te_makeConstant 1 = .ok (.iconst (-1), 1) := by decide +kernel
theorem d_Te_makeConstant_2 : decode b_Te_makeConstant 2 = .ok (.iload_n 1, 1) := by decide +kernel
theorem d_Te_makeConstant_3 : decode b_Te_makeConstant 3 = .ok (.iload_n 2, 1) := by decide +kernel
theorem d_Te_makeConstant_4 : decode b_Te_makeConstant 4 = .ok (.invokestatic 68, 3) := by decide +kernel
theorem d_Te_makeConstant_7 : decode b_Te_makeConstant 7 = .ok (.lstore_n 3, 1) := by decide +kernel
theorem d_Te_makeConstant_8 : decode b_Te_makeConstant 8 = .ok (.aload_n 0, 1) := by decide +kernel
theorem d_Te_makeConstant_9 : decode b_Te_makeConstant 9 = .ok (.lload_n 3, 1) := by decide +kernel
theorem d_Te_makeConstant_10 : decode b_Te_makeConstant 10 = .ok (.iconst 0, 1) := by decide +kernel
theorem d_Te_makeConstant_11 : decode b_Te_makeConstant 11 = .ok (.invokevirtual 78, 3) := by decide +kernel
theorem d_Te_makeConstant_14 : decode b_Te_makeConstant 14 = .ok (.istore 5, 2) := by decide +kernel
theorem d_Te_makeConstant_16 : decode b_Te_makeConstant 16 = .ok (.iload 5, 2) := by decide +kernel
theorem d_Te_makeConstant_18 : decode b_Te_makeConstant 18 = .ok (.iconst (-1), 1) := by decide +kernel
theorem d_Te_makeConstant_19 : decode b_Te_makeConstant 19 = .ok (.if_icmp .eq 6, 3) := by decide +kernel
theorem d_Te_makeConstant_22 : decode b_Te_makeConstant 22 = .ok (.iload 5, 2) := by decide +kernel
theorem d_Te_makeConstant_24 : decode b_Te_makeConstant 24 = .ok (.ireturn, 1) := by decide +kernel
theorem d_Te_makeConstant_25 : decode b_Te_makeConstant 25 = .ok (.aload_n 0, 1) := by decide +kernel
theorem d_Te_makeConstant_26 : decode b_Te_makeConstant 26 = .ok (.lload_n 3, 1) := by decide +kernel
theorem d_Te_makeConstant_27 : decode b_Te_makeConstant 27 = .ok (.iconst 2, 1) := by decide +kernel
theorem d_Te_makeConstant_28 : decode b_Te_makeConstant 28 = .ok (.iconst 1, 1) := by decide +kernel
theorem d_Te_makeConstant_29 : decode b_Te_makeConstant 29 = .ok (.iconst (-1), 1) := by decide +kernel
theorem d_Te_makeConstant_30 : decode b_Te_makeConstant 30 = .ok (.invokevirtual 82, 3) := by decide +kernel
theorem d_Te_makeConstant_33 : decode b_Te_makeConstant 33 = .ok (.istore 6, 2) := by decide +kernel
theorem d_Te_makeConstant_35 : decode b_Te_makeConstant 35 = .ok (.aload_n 0, 1) := by decide +kernel
theorem d_Te_makeConstant_36 : decode b_Te_makeConstant 36 = .ok (.getfield 21, 3) := by decide +kernel
theorem d_Te_makeConstant_39 : decode b_Te_makeConstant 39 = .ok (.iload 6, 2) := by decide +kernel
theorem d_Te_makeConstant_41 : decode b_Te_makeConstant 41 = .ok (.iconst (-1), 1) := by decide +kernel
theorem d_Te_makeConstant_42 : decode b_Te_makeConstant 42 = .ok (.iastore, 1) := by decide +kernel
theorem d_Te_makeConstant_43 : decode b_Te_makeConstant 43 = .ok (.aload_n 0, 1) := by decide +kernel
theorem d_Te_makeConstant_44 : decode b_Te_makeConstant 44 = .ok (.getfield 24, 3) := by decide +kernel
theorem d_Te_makeConstant_47 : decode b_Te_makeConstant 47 = .ok (.iload 6, 2) := by decide +kernel
theorem d_Te_makeConstant_49 : decode b_Te_makeConstant 49 = .ok (.iconst (-1), 1) := by decide +kernel
theorem d_Te_makeConstant_50 : decode b_Te_makeConstant 50 = .ok (.iastore, 1) := by decide +kernel
theorem d_Te_makeConstant_51 : decode b_Te_makeConstant 51 = .ok (.aload_n 0, 1) := by decide +kernel
theorem d_Te_makeConstant_52 : decode b_Te_makeConstant 52 = .ok (.getfield 27, 3) := by decide +kernel
theorem d_Te_makeConstant_55 : decode b_Te_makeConstant 55 = .ok (.iload 6, 2) := by decide +kernel
theorem d_Te_makeConstant_57 : decode b_Te_makeConstant 57 = .ok (.iload_n 1, 1) := by decide +kernel
theorem d_Te_makeConstant_58 : decode b_Te_makeConstant 58 = .ok (.iastore, 1) := by decide +kernel
theorem d_Te_makeConstant_59 : decode b_Te_makeConstant 59 = .ok (.aload_n 0, 1) := by decide +kernel
theorem d_Te_makeConstant_60 : decode b_Te_makeConstant 60 = .ok (.getfield 30, 3) := by decide +kernel
theorem d_Te_makeConstant_63 : decode b_Te_makeConstant 63 = .ok (.iload 6, 2) := by decide +kernel
theorem d_Te_makeConstant_65 : decode b_Te_makeConstant 65 = .ok (.iload_n 2, 1) := by decide +kernel
theorem d_Te_makeConstant_66 : decode b_Te_makeConstant 66 = .ok (.iastore, 1) := by decide +kernel
theorem d_Te_makeConstant_67 : decode b_Te_makeConstant 67 = .ok (.aload_n 0, 1) := by decide +kernel
theorem d_Te_makeConstant_68 : decode b_Te_makeConstant 68 = .ok (.getfield 33, 3) := by decide +kernel
theorem d_Te_makeConstant_71 : decode b_Te_makeConstant 71 = .ok (.iload 6, 2) := by decide +kernel
theorem d_Te_makeConstant_73 : decode b_Te_makeConstant 73 = .ok (.iconst 1, 1) := by decide +kernel
theorem d_Te_makeConstant_74 : decode b_Te_makeConstant 74 = .ok (.iastore, 1) := by decide +kernel
theorem d_Te_makeConstant_75 : decode b_Te_makeConstant 75 = .ok (.aload_n 0, 1) := by decide +kernel
theorem d_Te_makeConstant_76 : decode b_Te_makeConstant 76 = .ok (.getfield 36, 3) := by decide +kernel
theorem d_Te_makeConstant_79 : decode b_Te_makeConstant 79 = .ok (.iload 6, 2) := by decide +kernel
theorem d_Te_makeConstant_81 : decode b_Te_makeConstant 81 = .ok (.iload_n 1, 1) := by decide +kernel
theorem d_Te_makeConstant_82 : decode b_Te_makeConstant 82 = .ok (.iload_n 2, 1) := by decide +kernel
theorem d_Te_makeConstant_83 : decode b_Te_makeConstant 83 = .ok (.invokestatic 102, 3) := by decide +kernel
theorem d_Te_makeConstant_86 : decode b_Te_makeConstant 86 = .ok (.iastore, 1) := by decide +kernel
theorem d_Te_makeConstant_87 : decode b_Te_makeConstant 87 = .ok (.aload_n 0, 1) := by decide +kernel
theorem d_Te_makeConstant_88 : decode b_Te_makeConstant 88 = .ok (.getfield 39, 3) := by decide +kernel
theorem d_Te_makeConstant_91 : decode b_Te_makeConstant 91 = .ok (.iload 6, 2) := by decide +kernel
theorem d_Te_makeConstant_93 : decode b_Te_makeConstant 93 = .ok (.iconst 0, 1) := by decide +kernel
theorem d_Te_makeConstant_94 : decode b_Te_makeConstant 94 = .ok (.iastore, 1) := by decide +kernel
theorem d_Te_makeConstant_95 : decode b_Te_makeConstant 95 = .ok (.iload 6, 2) := by decide +kernel
theorem d_Te_makeConstant_97 : decode b_Te_makeConstant 97 = .ok (.ireturn, 1) := by decide +kernel
def f_Te_makeConstant_95 (x6 : Int32) (σ : St) : Int32 × St := (x6, σ)
def k_Te_makeConstant_95 (x6 : Int32) (σ : St) : Prop := True
def f_Te_makeConstant_87 (x6 : Int32) (σ : St) : Int32 × St := f_Te_makeConstant_95 x6 (sA σ 16 x6 0)
def k_Te_makeConstant_87 (x6 : Int32) (σ : St) : Prop := vp_in x6 208 ∧ (k_Te_makeConstant_95 x6 (sA σ 16 x6 0))
def f_Te_makeConstant_75 (x1 : Int32) (x2 : Int32) (x6 : Int32) (σ : St) : Int32 × St := f_Te_makeConstant_87 x6 (sA σ 15 x6 (f_Wr_lengthOfConstant x1 x2 σ))
def k_Te_makeConstant_75 (x1 : Int32) (x2 : Int32) (x6 : Int32) (σ : St) : Prop := (k_Wr_lengthOfConstant x1 x2 σ) ∧ (vp_in x6 208 ∧ (k_Te_makeConstant_87 x6 (sA σ 15 x6 (f_Wr_lengthOfConstant x1 x2 σ))))
def f_Te_makeConstant_67 (x1 : Int32) (x2 : Int32) (x6 : Int32) (σ : St) : Int32 × St := f_Te_makeConstant_75 x1 x2 x6 (sA σ 14 x6 1)
def k_Te_makeConstant_67 (x1 : Int32) (x2 : Int32) (x6 : Int32) (σ : St) : Prop := vp_in x6 208 ∧ (k_Te_makeConstant_75 x1 x2 x6 (sA σ 14 x6 1))
def f_Te_makeConstant_59 (x1 : Int32) (x2 : Int32) (x6 : Int32) (σ : St) : Int32 × St := f_Te_makeConstant_67 x1 x2 x6 (sA σ 13 x6 x2)
def k_Te_makeConstant_59 (x1 : Int32) (x2 : Int32) (x6 : Int32) (σ : St) : Prop := vp_in x6 208 ∧ (k_Te_makeConstant_67 x1 x2 x6 (sA σ 13 x6 x2))
def f_Te_makeConstant_51 (x1 : Int32) (x2 : Int32) (x6 : Int32) (σ : St) : Int32 × St := f_Te_makeConstant_59 x1 x2 x6 (sA σ 12 x6 x1)
def k_Te_makeConstant_51 (x1 : Int32) (x2 : Int32) (x6 : Int32) (σ : St) : Prop := vp_in x6 208 ∧ (k_Te_makeConstant_59 x1 x2 x6 (sA σ 12 x6 x1))
def f_Te_makeConstant_43 (x1 : Int32) (x2 : Int32) (x6 : Int32) (σ : St) : Int32 × St := f_Te_makeConstant_51 x1 x2 x6 (sA σ 11 x6 (-1))
def k_Te_makeConstant_43 (x1 : Int32) (x2 : Int32) (x6 : Int32) (σ : St) : Prop := vp_in x6 208 ∧ (k_Te_makeConstant_51 x1 x2 x6 (sA σ 11 x6 (-1)))
def f_Te_makeConstant_35 (x1 : Int32) (x2 : Int32) (x6 : Int32) (σ : St) : Int32 × St := f_Te_makeConstant_43 x1 x2 x6 (sA σ 10 x6 (-1))
def k_Te_makeConstant_35 (x1 : Int32) (x2 : Int32) (x6 : Int32) (σ : St) : Prop := vp_in x6 208 ∧ (k_Te_makeConstant_43 x1 x2 x6 (sA σ 10 x6 (-1)))
def f_Te_makeConstant_33 (x1 : Int32) (x2 : Int32) (s0 : Int32) (σ : St) : Int32 × St := f_Te_makeConstant_35 x1 x2 s0 σ
def k_Te_makeConstant_33 (x1 : Int32) (x2 : Int32) (s0 : Int32) (σ : St) : Prop := k_Te_makeConstant_35 x1 x2 s0 σ
def f_Te_makeConstant_16 (x1 : Int32) (x2 : Int32) (x3 : Int64) (x5 : Int32) (σ : St) : Int32 × St := if x5 = (-1) then (f_Te_makeConstant_33 x1 x2 ((f_Te_append x3 2 1 (-1) σ).1) ((f_Te_append x3 2 1 (-1) σ).2)) else (x5, σ)
def k_Te_makeConstant_16 (x1 : Int32) (x2 : Int32) (x3 : Int64) (x5 : Int32) (σ : St) : Prop := (x5 = (-1) → ((k_Te_append x3 2 1 (-1) σ) ∧ (k_Te_makeConstant_33 x1 x2 ((f_Te_append x3 2 1 (-1) σ).1) ((f_Te_append x3 2 1 (-1) σ).2)))) ∧ (¬ x5 = (-1) → True)
def f_Te_makeConstant_8 (x1 : Int32) (x2 : Int32) (x3 : Int64) (σ : St) : Int32 × St := f_Te_makeConstant_16 x1 x2 x3 (f_Te_find x3 0 σ) σ
def k_Te_makeConstant_8 (x1 : Int32) (x2 : Int32) (x3 : Int64) (σ : St) : Prop := (k_Te_find x3 0 σ) ∧ (k_Te_makeConstant_16 x1 x2 x3 (f_Te_find x3 0 σ) σ)
def f_Te_makeConstant (a1 : Int32) (a2 : Int32) (σ : St) : Int32 × St := f_Te_makeConstant_8 a1 a2 (f_Te_keyOf 2 (-1) a1 a2 σ) σ
def k_Te_makeConstant (a1 : Int32) (a2 : Int32) (σ : St) : Prop := (k_Te_keyOf 2 (-1) a1 a2 σ) ∧ (k_Te_makeConstant_8 a1 a2 (f_Te_keyOf 2 (-1) a1 a2 σ) σ)
abbrev w_Te_makeConstant : List Cond := Cond.code y_Te_makeConstant b_Te_makeConstant 7 (some .int) :: gw
abbrev rm_Te_makeConstant : Room := { frames := 2, cells := 0, slots := 0, locals := 47 }
set_option maxHeartbeats 4000000 in
set_option maxRecDepth 100000 in
theorem c_Te_makeConstant (l : Launch) (D : va_G) (ty : Nat → ClassId) (h : Nat → Nat) (px : va_W) (sa : Nat → Nat) (σ : St) (sz : Nat) (a1 : Int32) (a2 : Int32) (hk : k_Te_makeConstant a1 a2 σ) : Met l y_Te_makeConstant w_Te_makeConstant rm_Te_makeConstant (va_Pc [.ref (h 6), .int a1, .int a2] (fun U => U.heap.size = sz ∧ va_P D classes (Wc ty h σ px) U.heap ∧ va_K D classes (Ta ty) U ∧ NW U ∧ MK sa (va_A (Wc ty h σ px) sz) U U.heap ∧ va_D (fun _ => True) (Wc ty h σ px))) (va_Qi (fun r (u : St) => (r, u) = f_Te_makeConstant a1 a2 σ) (fun u t => va_P D classes (Wc ty h u px) t.heap) (va_A (Wc ty h σ px) sz)) 0 0 (va_A (Wc ty h σ px) sz) := by
  refine Met.ofW (cc := b_Te_makeConstant) (maxL := 7) (ret := (some .int)) (by decide) rfl ?_
  intro p e s m args below meth c s₁ B hml hv
  obtain ⟨ha, hsz, hP, hK, hN, hM, hD0⟩ := hv
  have hx := B.exec
  have hb := B.bytes
  have hr := B.returns
  have hg : ∀ w ∈ gw, w.before args s = true := fun w h9 => atoms_spec (ws := w_Te_makeConstant) B.pre w (List.mem_cons_of_mem _ h9)
  have hown : s.vm.findClass "ClauseLedger$Terms" = some m.cls := findClass_of_methodNamed B.named
  have hlocks := B.notSynchronized
  subst hsz
  have hD := hD0.self (sz := s.heap.size)
  generalize hAe : va_A (Wc ty h σ px) s.heap.size = A at hD hM ⊢
  have hA : ∀ q : Nat, s.heap.size ≤ q → A q := fun q h9 => by rw [← hAe]; exact Or.inr h9
  have hS : va_S A s.heap s.heap [] := va_S.rf
  have he : entryFrame m args 7 = entryFrame m ([.ref (h 6), .int a1, .int a2] : List Value).toArray 7 := by rw [ha]
  rw [he, lg_entry_eq]
  have hl := lv_entry ([.ref (h 6), .int a1, .int a2]) (n := 7) (Nat.le_of_ble_eq_true rfl)
  generalize (lg_sl ([.ref (h 6), .int a1, .int a2]) ++ List.replicate (7 - (lg_sl ([.ref (h 6), .int a1, .int a2])).length) Slot.unset).toArray = ls at hl ⊢
  have hl : lv_has ls 7 [(0, .ref (h 6)), (1, .int a1), (2, .int a2)] := hl
  generalize hv : f_Te_makeConstant a1 a2 σ = v
  replace hv := hv.symm
  have B95 : ∀ (H : Heap) (locs : List Loc) (ls : Array Slot) (x6 : Int32) (σ : St), v = f_Te_makeConstant_95 x6 σ → k_Te_makeConstant_95 x6 σ → lv_has ls 7 [(6, .int x6)] → va_P D classes (Wc ty h σ px) H → va_D A (Wc ty h σ px) → va_S A s.heap H locs → W p l e (headSpec w_Te_makeConstant rm_Te_makeConstant).room s m args below meth c H locs 0 0 (MQ below (va_Qi (fun r (u : St) => (r, u) = v) (fun u t => va_P D classes (Wc ty h u px) t.heap) A) args s 0 0 A) (F0 m 95 ls []) := by
    intro H locs ls x6 σ hv hk hl hP hD hS
    unfold f_Te_makeConstant_95 at hv
    unfold k_Te_makeConstant_95 at hk
    refine lv_iload hx hb d_Te_makeConstant_95 (lv_at hl 0 rfl) ?_
    exact W.iret hx hb hr (fun t ht hW => ⟨⟨_, _, rfl, hv.symm, by dsimp only; rw [ht]; exact hP⟩, hS.F ht⟩) hS.2.2 d_Te_makeConstant_97
  have B87 : ∀ (H : Heap) (locs : List Loc) (ls : Array Slot) (x6 : Int32) (σ : St), v = f_Te_makeConstant_87 x6 σ → k_Te_makeConstant_87 x6 σ → lv_has ls 7 [(0, .ref (h 6)), (6, .int x6)] → va_P D classes (Wc ty h σ px) H → va_D A (Wc ty h σ px) → va_S A s.heap H locs → W p l e (headSpec w_Te_makeConstant rm_Te_makeConstant).room s m args below meth c H locs 0 0 (MQ below (va_Qi (fun r (u : St) => (r, u) = v) (fun u t => va_P D classes (Wc ty h u px) t.heap) A) args s 0 0 A) (F0 m 87 ls []) := by
    intro H locs ls x6 σ hv hk hl hP hD hS
    unfold f_Te_makeConstant_87 at hv
    unfold k_Te_makeConstant_87 at hk
    refine lv_aload_n hx hb d_Te_makeConstant_87 rfl (lv_at hl 0 rfl) ?_
    refine va_get (v := .ref (h 16)) (C := R_Te) (T := T_Te) (N := 14) hx hb hg in_Te hown hK hP 6 rfl rfl 9 (by decide) (hg _ m_78) (fun _ h9 => h9) rfl d_Te_makeConstant_88 ?_
    refine lv_iload hx hb d_Te_makeConstant_91 (lv_at hl 1 rfl) ?_
    refine lv_iconst (v := 0) hx hb d_Te_makeConstant_93 (by decide) ?_
    obtain ⟨hk0, hk⟩ := hk
    refine va_iast hx hb hK hP hD hS 16 0 rfl rfl hk0 d_Te_makeConstant_94 (fun H locs hP hD hS => ?_)
    have hP : va_P D classes (Wc ty h (sA σ 16 x6 0) px) H := hP
    have hD : va_D A (Wc ty h (sA σ 16 x6 0) px) := hD
    exact B95 _ _ _ x6 (sA σ 16 x6 0) hv hk (lv_sub hl [1] rfl) hP hD hS
  have B75 : ∀ (H : Heap) (locs : List Loc) (ls : Array Slot) (x1 : Int32) (x2 : Int32) (x6 : Int32) (σ : St), v = f_Te_makeConstant_75 x1 x2 x6 σ → k_Te_makeConstant_75 x1 x2 x6 σ → lv_has ls 7 [(0, .ref (h 6)), (1, .int x1), (2, .int x2), (6, .int x6)] → va_P D classes (Wc ty h σ px) H → va_D A (Wc ty h σ px) → va_S A s.heap H locs → W p l e (headSpec w_Te_makeConstant rm_Te_makeConstant).room s m args below meth c H locs 0 0 (MQ below (va_Qi (fun r (u : St) => (r, u) = v) (fun u t => va_P D classes (Wc ty h u px) t.heap) A) args s 0 0 A) (F0 m 75 ls []) := by
    intro H locs ls x1 x2 x6 σ hv hk hl hP hD hS
    unfold f_Te_makeConstant_75 at hv
    unfold k_Te_makeConstant_75 at hk
    refine lv_aload_n hx hb d_Te_makeConstant_75 rfl (lv_at hl 0 rfl) ?_
    refine va_get (v := .ref (h 15)) (C := R_Te) (T := T_Te) (N := 14) hx hb hg in_Te hown hK hP 6 rfl rfl 8 (by decide) (hg _ m_77) (fun _ h9 => h9) rfl d_Te_makeConstant_76 ?_
    refine lv_iload hx hb d_Te_makeConstant_79 (lv_at hl 3 rfl) ?_
    refine lv_iload_n hx hb d_Te_makeConstant_81 rfl (lv_at hl 1 rfl) ?_
    refine lv_iload_n hx hb d_Te_makeConstant_82 rfl (lv_at hl 2 rfl) ?_
    obtain ⟨hk0, hk⟩ := hk
    refine zz_callV (va_runS (As := [.int x1, .int x2]) (rest := [.int x6, .ref (h 15)]) ⟨hx, hb, hml, hown, hg⟩ (c_Wr_lengthOfConstant l D ty h px sa σ x1 x2 hk0) ⟨callB_of 2 hg (gw_C m_762) rfl rfl rfl (hg _ m_6) (hg _ m_760) hd_Wr_lengthOfConstant ⟨Nat.le_of_ble_eq_true rfl, Nat.le_of_ble_eq_true rfl⟩, hg _ m_761⟩ (zz_preS (hM.at hS) hN hK hP) rfl rfl hl.1 rfl (lv_room (Nat.le_of_ble_eq_true rfl)) d_Te_makeConstant_83 ⟨Nat.le_of_ble_eq_true rfl, Nat.le_of_ble_eq_true rfl⟩) ?_
    obtain ⟨hk0, hk⟩ := hk
    refine va_iast hx hb hK hP hD hS 15 0 rfl rfl hk0 d_Te_makeConstant_86 (fun H locs hP hD hS => ?_)
    have hP : va_P D classes (Wc ty h (sA σ 15 x6 (f_Wr_lengthOfConstant x1 x2 σ)) px) H := hP
    have hD : va_D A (Wc ty h (sA σ 15 x6 (f_Wr_lengthOfConstant x1 x2 σ)) px) := hD
    exact B87 _ _ _ x6 (sA σ 15 x6 (f_Wr_lengthOfConstant x1 x2 σ)) hv hk (lv_sub hl [0, 3] rfl) hP hD hS
  have B67 : ∀ (H : Heap) (locs : List Loc) (ls : Array Slot) (x1 : Int32) (x2 : Int32) (x6 : Int32) (σ : St), v = f_Te_makeConstant_67 x1 x2 x6 σ → k_Te_makeConstant_67 x1 x2 x6 σ → lv_has ls 7 [(0, .ref (h 6)), (1, .int x1), (2, .int x2), (6, .int x6)] → va_P D classes (Wc ty h σ px) H → va_D A (Wc ty h σ px) → va_S A s.heap H locs → W p l e (headSpec w_Te_makeConstant rm_Te_makeConstant).room s m args below meth c H locs 0 0 (MQ below (va_Qi (fun r (u : St) => (r, u) = v) (fun u t => va_P D classes (Wc ty h u px) t.heap) A) args s 0 0 A) (F0 m 67 ls []) := by
    intro H locs ls x1 x2 x6 σ hv hk hl hP hD hS
    unfold f_Te_makeConstant_67 at hv
    unfold k_Te_makeConstant_67 at hk
    refine lv_aload_n hx hb d_Te_makeConstant_67 rfl (lv_at hl 0 rfl) ?_
    refine va_get (v := .ref (h 14)) (C := R_Te) (T := T_Te) (N := 14) hx hb hg in_Te hown hK hP 6 rfl rfl 7 (by decide) (hg _ m_76) (fun _ h9 => h9) rfl d_Te_makeConstant_68 ?_
    refine lv_iload hx hb d_Te_makeConstant_71 (lv_at hl 3 rfl) ?_
    refine lv_iconst (v := 1) hx hb d_Te_makeConstant_73 (by decide) ?_
    obtain ⟨hk0, hk⟩ := hk
    refine va_iast hx hb hK hP hD hS 14 0 rfl rfl hk0 d_Te_makeConstant_74 (fun H locs hP hD hS => ?_)
    have hP : va_P D classes (Wc ty h (sA σ 14 x6 1) px) H := hP
    have hD : va_D A (Wc ty h (sA σ 14 x6 1) px) := hD
    exact B75 _ _ _ x1 x2 x6 (sA σ 14 x6 1) hv hk (lv_sub hl [0, 1, 2, 3] rfl) hP hD hS
  have B59 : ∀ (H : Heap) (locs : List Loc) (ls : Array Slot) (x1 : Int32) (x2 : Int32) (x6 : Int32) (σ : St), v = f_Te_makeConstant_59 x1 x2 x6 σ → k_Te_makeConstant_59 x1 x2 x6 σ → lv_has ls 7 [(0, .ref (h 6)), (1, .int x1), (2, .int x2), (6, .int x6)] → va_P D classes (Wc ty h σ px) H → va_D A (Wc ty h σ px) → va_S A s.heap H locs → W p l e (headSpec w_Te_makeConstant rm_Te_makeConstant).room s m args below meth c H locs 0 0 (MQ below (va_Qi (fun r (u : St) => (r, u) = v) (fun u t => va_P D classes (Wc ty h u px) t.heap) A) args s 0 0 A) (F0 m 59 ls []) := by
    intro H locs ls x1 x2 x6 σ hv hk hl hP hD hS
    unfold f_Te_makeConstant_59 at hv
    unfold k_Te_makeConstant_59 at hk
    refine lv_aload_n hx hb d_Te_makeConstant_59 rfl (lv_at hl 0 rfl) ?_
    refine va_get (v := .ref (h 13)) (C := R_Te) (T := T_Te) (N := 14) hx hb hg in_Te hown hK hP 6 rfl rfl 6 (by decide) (hg _ m_75) (fun _ h9 => h9) rfl d_Te_makeConstant_60 ?_
    refine lv_iload hx hb d_Te_makeConstant_63 (lv_at hl 3 rfl) ?_
    refine lv_iload_n hx hb d_Te_makeConstant_65 rfl (lv_at hl 2 rfl) ?_
    obtain ⟨hk0, hk⟩ := hk
    refine va_iast hx hb hK hP hD hS 13 0 rfl rfl hk0 d_Te_makeConstant_66 (fun H locs hP hD hS => ?_)
    have hP : va_P D classes (Wc ty h (sA σ 13 x6 x2) px) H := hP
    have hD : va_D A (Wc ty h (sA σ 13 x6 x2) px) := hD
    exact B67 _ _ _ x1 x2 x6 (sA σ 13 x6 x2) hv hk (lv_sub hl [0, 1, 2, 3] rfl) hP hD hS
  have B51 : ∀ (H : Heap) (locs : List Loc) (ls : Array Slot) (x1 : Int32) (x2 : Int32) (x6 : Int32) (σ : St), v = f_Te_makeConstant_51 x1 x2 x6 σ → k_Te_makeConstant_51 x1 x2 x6 σ → lv_has ls 7 [(0, .ref (h 6)), (1, .int x1), (2, .int x2), (6, .int x6)] → va_P D classes (Wc ty h σ px) H → va_D A (Wc ty h σ px) → va_S A s.heap H locs → W p l e (headSpec w_Te_makeConstant rm_Te_makeConstant).room s m args below meth c H locs 0 0 (MQ below (va_Qi (fun r (u : St) => (r, u) = v) (fun u t => va_P D classes (Wc ty h u px) t.heap) A) args s 0 0 A) (F0 m 51 ls []) := by
    intro H locs ls x1 x2 x6 σ hv hk hl hP hD hS
    unfold f_Te_makeConstant_51 at hv
    unfold k_Te_makeConstant_51 at hk
    refine lv_aload_n hx hb d_Te_makeConstant_51 rfl (lv_at hl 0 rfl) ?_
    refine va_get (v := .ref (h 12)) (C := R_Te) (T := T_Te) (N := 14) hx hb hg in_Te hown hK hP 6 rfl rfl 5 (by decide) (hg _ m_74) (fun _ h9 => h9) rfl d_Te_makeConstant_52 ?_
    refine lv_iload hx hb d_Te_makeConstant_55 (lv_at hl 3 rfl) ?_
    refine lv_iload_n hx hb d_Te_makeConstant_57 rfl (lv_at hl 1 rfl) ?_
    obtain ⟨hk0, hk⟩ := hk
    refine va_iast hx hb hK hP hD hS 12 0 rfl rfl hk0 d_Te_makeConstant_58 (fun H locs hP hD hS => ?_)
    have hP : va_P D classes (Wc ty h (sA σ 12 x6 x1) px) H := hP
    have hD : va_D A (Wc ty h (sA σ 12 x6 x1) px) := hD
    exact B59 _ _ _ x1 x2 x6 (sA σ 12 x6 x1) hv hk (lv_sub hl [0, 1, 2, 3] rfl) hP hD hS
  have B43 : ∀ (H : Heap) (locs : List Loc) (ls : Array Slot) (x1 : Int32) (x2 : Int32) (x6 : Int32) (σ : St), v = f_Te_makeConstant_43 x1 x2 x6 σ → k_Te_makeConstant_43 x1 x2 x6 σ → lv_has ls 7 [(0, .ref (h 6)), (1, .int x1), (2, .int x2), (6, .int x6)] → va_P D classes (Wc ty h σ px) H → va_D A (Wc ty h σ px) → va_S A s.heap H locs → W p l e (headSpec w_Te_makeConstant rm_Te_makeConstant).room s m args below meth c H locs 0 0 (MQ below (va_Qi (fun r (u : St) => (r, u) = v) (fun u t => va_P D classes (Wc ty h u px) t.heap) A) args s 0 0 A) (F0 m 43 ls []) := by
    intro H locs ls x1 x2 x6 σ hv hk hl hP hD hS
    unfold f_Te_makeConstant_43 at hv
    unfold k_Te_makeConstant_43 at hk
    refine lv_aload_n hx hb d_Te_makeConstant_43 rfl (lv_at hl 0 rfl) ?_
    refine va_get (v := .ref (h 11)) (C := R_Te) (T := T_Te) (N := 14) hx hb hg in_Te hown hK hP 6 rfl rfl 4 (by decide) (hg _ m_73) (fun _ h9 => h9) rfl d_Te_makeConstant_44 ?_
    refine lv_iload hx hb d_Te_makeConstant_47 (lv_at hl 3 rfl) ?_
    refine lv_iconst (v := -1) hx hb d_Te_makeConstant_49 (by decide) ?_
    obtain ⟨hk0, hk⟩ := hk
    refine va_iast hx hb hK hP hD hS 11 0 rfl rfl hk0 d_Te_makeConstant_50 (fun H locs hP hD hS => ?_)
    have hP : va_P D classes (Wc ty h (sA σ 11 x6 (-1)) px) H := hP
    have hD : va_D A (Wc ty h (sA σ 11 x6 (-1)) px) := hD
    exact B51 _ _ _ x1 x2 x6 (sA σ 11 x6 (-1)) hv hk (lv_sub hl [0, 1, 2, 3] rfl) hP hD hS
  have B35 : ∀ (H : Heap) (locs : List Loc) (ls : Array Slot) (x1 : Int32) (x2 : Int32) (x6 : Int32) (σ : St), v = f_Te_makeConstant_35 x1 x2 x6 σ → k_Te_makeConstant_35 x1 x2 x6 σ → lv_has ls 7 [(0, .ref (h 6)), (1, .int x1), (2, .int x2), (6, .int x6)] → va_P D classes (Wc ty h σ px) H → va_D A (Wc ty h σ px) → va_S A s.heap H locs → W p l e (headSpec w_Te_makeConstant rm_Te_makeConstant).room s m args below meth c H locs 0 0 (MQ below (va_Qi (fun r (u : St) => (r, u) = v) (fun u t => va_P D classes (Wc ty h u px) t.heap) A) args s 0 0 A) (F0 m 35 ls []) := by
    intro H locs ls x1 x2 x6 σ hv hk hl hP hD hS
    unfold f_Te_makeConstant_35 at hv
    unfold k_Te_makeConstant_35 at hk
    refine lv_aload_n hx hb d_Te_makeConstant_35 rfl (lv_at hl 0 rfl) ?_
    refine va_get (v := .ref (h 10)) (C := R_Te) (T := T_Te) (N := 14) hx hb hg in_Te hown hK hP 6 rfl rfl 3 (by decide) (hg _ m_72) (fun _ h9 => h9) rfl d_Te_makeConstant_36 ?_
    refine lv_iload hx hb d_Te_makeConstant_39 (lv_at hl 3 rfl) ?_
    refine lv_iconst (v := -1) hx hb d_Te_makeConstant_41 (by decide) ?_
    obtain ⟨hk0, hk⟩ := hk
    refine va_iast hx hb hK hP hD hS 10 0 rfl rfl hk0 d_Te_makeConstant_42 (fun H locs hP hD hS => ?_)
    have hP : va_P D classes (Wc ty h (sA σ 10 x6 (-1)) px) H := hP
    have hD : va_D A (Wc ty h (sA σ 10 x6 (-1)) px) := hD
    exact B43 _ _ _ x1 x2 x6 (sA σ 10 x6 (-1)) hv hk (lv_sub hl [0, 1, 2, 3] rfl) hP hD hS
  have B33 : ∀ (H : Heap) (locs : List Loc) (ls : Array Slot) (x1 : Int32) (x2 : Int32) (s0 : Int32) (σ : St), v = f_Te_makeConstant_33 x1 x2 s0 σ → k_Te_makeConstant_33 x1 x2 s0 σ → lv_has ls 7 [(0, .ref (h 6)), (1, .int x1), (2, .int x2)] → va_P D classes (Wc ty h σ px) H → va_D A (Wc ty h σ px) → va_S A s.heap H locs → W p l e (headSpec w_Te_makeConstant rm_Te_makeConstant).room s m args below meth c H locs 0 0 (MQ below (va_Qi (fun r (u : St) => (r, u) = v) (fun u t => va_P D classes (Wc ty h u px) t.heap) A) args s 0 0 A) (F0 m 33 ls [.int s0]) := by
    intro H locs ls x1 x2 s0 σ hv hk hl hP hD hS
    unfold f_Te_makeConstant_33 at hv
    unfold k_Te_makeConstant_33 at hk
    refine lv_istore (lv' := [(6, .int s0), (0, .ref (h 6)), (1, .int x1), (2, .int x2)]) hx hb d_Te_makeConstant_33 hl (by decide) rfl (fun ls hl => ?_)
    exact B35 _ _ _ x1 x2 s0 σ hv hk (lv_sub hl [1, 2, 3, 0] rfl) hP hD hS
  have B16 : ∀ (H : Heap) (locs : List Loc) (ls : Array Slot) (x1 : Int32) (x2 : Int32) (x3 : Int64) (x5 : Int32) (σ : St), v = f_Te_makeConstant_16 x1 x2 x3 x5 σ → k_Te_makeConstant_16 x1 x2 x3 x5 σ → lv_has ls 7 [(0, .ref (h 6)), (1, .int x1), (2, .int x2), (3, .long x3), (5, .int x5)] → va_P D classes (Wc ty h σ px) H → va_D A (Wc ty h σ px) → va_S A s.heap H locs → W p l e (headSpec w_Te_makeConstant rm_Te_makeConstant).room s m args below meth c H locs 0 0 (MQ below (va_Qi (fun r (u : St) => (r, u) = v) (fun u t => va_P D classes (Wc ty h u px) t.heap) A) args s 0 0 A) (F0 m 16 ls []) := by
    intro H locs ls x1 x2 x3 x5 σ hv hk hl hP hD hS
    unfold f_Te_makeConstant_16 at hv
    unfold k_Te_makeConstant_16 at hk
    refine lv_iload hx hb d_Te_makeConstant_16 (lv_at hl 4 rfl) ?_
    refine lv_iconst (v := -1) hx hb d_Te_makeConstant_18 (by decide) ?_
    refine lv_icmp_eq (tgt := 25) hx hb d_Te_makeConstant_19 (by decide) (fun hc => ?_) (fun hc => ?_)
    · have hv := hv.trans (if_pos hc)
      have hk := hk.1 hc
      refine lv_aload_n hx hb d_Te_makeConstant_25 rfl (lv_at hl 0 rfl) ?_
      refine lv_lload_n hx hb d_Te_makeConstant_26 rfl (lv_at hl 3 rfl) ?_
      refine lv_iconst (v := 2) hx hb d_Te_makeConstant_27 (by decide) ?_
      refine lv_iconst (v := 1) hx hb d_Te_makeConstant_28 (by decide) ?_
      refine lv_iconst (v := -1) hx hb d_Te_makeConstant_29 (by decide) ?_
      obtain ⟨hk0, hk⟩ := hk
      refine va_calli (va_runV (As := [.long x3, .int 2, .int 1, .int (-1)]) (rest := []) ⟨hx, hb, hml, hown, hg⟩ (c_Te_append l D ty h px sa σ H.size x3 2 1 (-1) hk0) ⟨callB_of 4 hg (gw_C m_638) rfl rfl rfl (hg _ m_3) (hg _ m_635) hd_Te_append ⟨Nat.le_of_ble_eq_true rfl, Nat.le_of_ble_eq_true rfl⟩, hg _ m_637, hg _ ms_15⟩ (zz_preVW hM hS hA hN hK hP hD 6 rfl rfl) rfl rfl hl.1 rfl (lv_room (Nat.le_of_ble_eq_true rfl)) d_Te_makeConstant_30 ⟨Nat.le_of_ble_eq_true rfl, Nat.le_of_ble_eq_true rfl⟩) hS (fun q _ h => zz_free hD hS hA q h) (zz_free hD hS hA) (fun r30 u30 t H locs ht hvm hp hP1 hz hk1 hS => ?_)
      rw [ht] at hP1
      rw [← hp] at hv hk
      have hD : va_D A (Wc ty h u30 px) := zz_D hD rfl
      have hP := hP1
      exact B33 _ _ _ x1 x2 r30 u30 hv hk (lv_sub hl [0, 1, 2] rfl) hP hD hS
    · have hv := hv.trans (if_neg hc)
      have hk := hk.2 hc
      refine lv_iload hx hb d_Te_makeConstant_22 (lv_at hl 4 rfl) ?_
      exact W.iret hx hb hr (fun t ht hW => ⟨⟨_, _, rfl, hv.symm, by dsimp only; rw [ht]; exact hP⟩, hS.F ht⟩) hS.2.2 d_Te_makeConstant_24
  have B8 : ∀ (H : Heap) (locs : List Loc) (ls : Array Slot) (x1 : Int32) (x2 : Int32) (x3 : Int64) (σ : St), v = f_Te_makeConstant_8 x1 x2 x3 σ → k_Te_makeConstant_8 x1 x2 x3 σ → lv_has ls 7 [(0, .ref (h 6)), (1, .int x1), (2, .int x2), (3, .long x3)] → va_P D classes (Wc ty h σ px) H → va_D A (Wc ty h σ px) → va_S A s.heap H locs → W p l e (headSpec w_Te_makeConstant rm_Te_makeConstant).room s m args below meth c H locs 0 0 (MQ below (va_Qi (fun r (u : St) => (r, u) = v) (fun u t => va_P D classes (Wc ty h u px) t.heap) A) args s 0 0 A) (F0 m 8 ls []) := by
    intro H locs ls x1 x2 x3 σ hv hk hl hP hD hS
    unfold f_Te_makeConstant_8 at hv
    unfold k_Te_makeConstant_8 at hk
    refine lv_aload_n hx hb d_Te_makeConstant_8 rfl (lv_at hl 0 rfl) ?_
    refine lv_lload_n hx hb d_Te_makeConstant_9 rfl (lv_at hl 3 rfl) ?_
    refine lv_iconst (v := 0) hx hb d_Te_makeConstant_10 (by decide) ?_
    obtain ⟨hk0, hk⟩ := hk
    refine zz_callV (va_runV (As := [.long x3, .int 0]) (rest := []) ⟨hx, hb, hml, hown, hg⟩ (c_Te_find l D ty h px sa σ x3 0 hk0) ⟨callB_of 2 hg (gw_C m_634) rfl rfl rfl (hg _ m_3) (hg _ m_631) hd_Te_find ⟨Nat.le_of_ble_eq_true rfl, Nat.le_of_ble_eq_true rfl⟩, hg _ m_633, hg _ ms_14⟩ (zz_preV (hM.at hS) hN hK hP 6 rfl rfl) rfl rfl hl.1 rfl (lv_room (Nat.le_of_ble_eq_true rfl)) d_Te_makeConstant_11 ⟨Nat.le_of_ble_eq_true rfl, Nat.le_of_ble_eq_true rfl⟩) ?_
    refine lv_istore (lv' := [(5, .int (f_Te_find x3 0 σ)), (0, .ref (h 6)), (1, .int x1), (2, .int x2), (3, .long x3)]) hx hb d_Te_makeConstant_14 hl (by decide) rfl (fun ls hl => ?_)
    exact B16 _ _ _ x1 x2 x3 (f_Te_find x3 0 σ) σ hv hk (lv_sub hl [1, 2, 3, 4, 0] rfl) hP hD hS
  unfold f_Te_makeConstant at hv
  unfold k_Te_makeConstant at hk
  refine lv_iconst (v := 2) hx hb d_Te_makeConstant_0 (by decide) ?_
  refine lv_iconst (v := -1) hx hb d_Te_makeConstant_1 (by decide) ?_
  refine lv_iload_n hx hb d_Te_makeConstant_2 rfl (lv_at hl 1 rfl) ?_
  refine lv_iload_n hx hb d_Te_makeConstant_3 rfl (lv_at hl 2 rfl) ?_
  obtain ⟨hk0, hk⟩ := hk
  refine zz_callV (va_runS (As := [.int 2, .int (-1), .int a1, .int a2]) (rest := []) ⟨hx, hb, hml, hown, hg⟩ (c_Te_keyOf l D ty h px sa σ 2 (-1) a1 a2 hk0) ⟨callB_of 4 hg (gw_C m_623) rfl rfl rfl (hg _ m_3) (hg _ m_621) hd_Te_keyOf ⟨Nat.le_of_ble_eq_true rfl, Nat.le_of_ble_eq_true rfl⟩, hg _ m_622⟩ (zz_preS (hM.at hS) hN hK hP) rfl rfl hl.1 rfl (lv_room (Nat.le_of_ble_eq_true rfl)) d_Te_makeConstant_4 ⟨Nat.le_of_ble_eq_true rfl, Nat.le_of_ble_eq_true rfl⟩) ?_
  refine lv_lstore_n (lv' := [(3, .long (f_Te_keyOf 2 (-1) a1 a2 σ)), (0, .ref (h 6)), (1, .int a1), (2, .int a2)]) hx hb d_Te_makeConstant_7 rfl hl (by decide) rfl (fun ls hl => ?_)
  exact B8 _ _ _ a1 a2 (f_Te_keyOf 2 (-1) a1 a2 σ) σ hv hk (lv_sub hl [1, 2, 3, 0] rfl) hP hD hS

-- ClauseLedger$Reader.readConstant()I
abbrev b_Rd_readConstant : ByteArray := prog_5_method_12_code
def y_Rd_readConstant : MethodName := ⟨"ClauseLedger$Reader", "readConstant", "()I"⟩
theorem hd_Rd_readConstant : y_Rd_readConstant.cls ≠ "java/lang/invoke/MethodHandle" ∧ y_Rd_readConstant.cls ≠ "java/lang/invoke/VarHandle" ∧ (parseMethodDescriptor y_Rd_readConstant.desc).map (fun d => d.parameters.length) = some 0 := by decide +kernel
theorem d_Rd_readConstant_0 : decode b_Rd_readConstant 0 = .ok (.aload_n 0, 1) := by decide +kernel
theorem d_Rd_readConstant_1 : decode b_Rd_readConstant 1 = .ok (.bipush 45, 2) := by decide +kernel
theorem d_Rd_readConstant_3 : decode b_Rd_readConstant 3 = .ok (.invokevirtual 85, 3) := by decide +kernel
theorem d_Rd_readConstant_6 : decode b_Rd_readConstant 6 = .ok (.istore_n 1, 1) := by decide +kernel
theorem d_Rd_readConstant_7 : decode b_Rd_readConstant 7 = .ok (.aload_n 0, 1) := by decide +kernel
theorem d_Rd_readConstant_8 : decode b_Rd_readConstant 8 = .ok (.invokevirtual 118, 3) := by decide +kernel
theorem d_Rd_readConstant_11 : decode b_Rd_readConstant 11 = .ok (.istore_n 2, 1) := by decide +kernel
theorem d_Rd_readConstant_12 : decode b_Rd_readConstant 12 = .ok (.aload_n 0, 1) := by decide +kernel
theorem d_Rd_readConstant_13 : decode b_Rd_readConstant 13 = .ok (.bipush 47, 2) := by decide +kernel
theorem d_Rd_readConstant_15 : decode b_Rd_readConstant 15 = .ok (.invokevirtual 85, 3) := by decide +kernel
theorem d_Rd_readConstant_18 : decode b_Rd_readConstant 18 = .ok (.ifCond .eq 10, 3) := by decide +kernel
theorem d_Rd_readConstant_21 : decode b_Rd_readConstant 21 = .ok (.aload_n 0, 1) := by decide +kernel
theorem d_Rd_readConstant_22 : decode b_Rd_readConstant 22 = .ok (.invokevirtual 118, 3) := by decide +kernel
theorem d_Rd_readConstant_25 : decode b_Rd_readConstant 25 = .ok (.goto 4, 3) := by decide +kernel
theorem d_Rd_readConstant_28 : decode b_Rd_readConstant 28 = .ok (.iconst 1, 1) := by decide +kernel
theorem d_Rd_readConstant_29 : decode b_Rd_readConstant 29 = .ok (.istore_n 3, 1) := by decide +kernel
theorem d_Rd_readConstant_30 : decode b_Rd_readConstant 30 = .ok (.iload_n 2, 1) := by decide +kernel
theorem d_Rd_readConstant_31 : decode b_Rd_readConstant 31 = .ok (.iconst (-1), 1) := by decide +kernel
theorem d_Rd_readConstant_32 : decode b_Rd_readConstant 32 = .ok (.if_icmp .eq 12, 3) := by decide +kernel
theorem d_Rd_readConstant_35 : decode b_Rd_readConstant 35 = .ok (.iload_n 3, 1) := by decide +kernel
theorem d_Rd_readConstant_36 : decode b_Rd_readConstant 36 = .ok (.iconst (-1), 1) := by decide +kernel
theorem d_Rd_readConstant_37 : decode b_Rd_readConstant 37 = .ok (.if_icmp .eq 7, 3) := by decide +kernel
theorem d_Rd_readConstant_40 : decode b_Rd_readConstant 40 = .ok (.iload_n 3, 1) := by decide +kernel
theorem d_Rd_readConstant_41 : decode b_Rd_readConstant 41 = .ok (.ifCond .ne 5, 3) := by decide +kernel
theorem d_Rd_readConstant_44 : decode b_Rd_readConstant 44 = .ok (.iconst (-1), 1) := by decide +kernel
theorem d_Rd_readConstant_45 : decode b_Rd_readConstant 45 = .ok (.ireturn, 1) := by decide +kernel
theorem d_Rd_readConstant_46 : decode b_Rd_readConstant 46 = .ok (.iload_n 2, 1) := by decide +kernel
theorem d_Rd_readConstant_47 : decode b_Rd_readConstant 47 = .ok (.i2l, 1) := by decide +kernel
theorem d_Rd_readConstant_48 : decode b_Rd_readConstant 48 = .ok (.iload_n 3, 1) := by decide +kernel
theorem d_Rd_readConstant_49 : decode b_Rd_readConstant 49 = .ok (.i2l, 1) := by decide +kernel
theorem d_Rd_readConstant_50 : decode b_Rd_readConstant 50 = .ok (.invokestatic 121, 3) := by decide +kernel
theorem d_Rd_readConstant_53 : decode b_Rd_readConstant 53 = .ok (.l2i, 1) := by decide +kernel
theorem d_Rd_readConstant_54 : decode b_Rd_readConstant 54 = .ok (.istore 4, 2) := by decide +kernel
theorem d_Rd_readConstant_56 : decode b_Rd_readConstant 56 = .ok (.iload 4, 2) := by decide +kernel
theorem d_Rd_readConstant_58 : decode b_Rd_readConstant 58 = .ok (.ifCond .ne 5, 3) := by decide +kernel
theorem d_Rd_readConstant_61 : decode b_Rd_readConstant 61 = .ok (.iconst (-1), 1) := by decide +kernel
theorem d_Rd_readConstant_62 : decode b_Rd_readConstant 62 = .ok (.ireturn, 1) := by decide +kernel
theorem d_Rd_readConstant_63 : decode b_Rd_readConstant 63 = .ok (.aload_n 0, 1) := by decide +kernel
theorem d_Rd_readConstant_64 : decode b_Rd_readConstant 64 = .ok (.getfield 23, 3) := by decide +kernel
theorem d_Rd_readConstant_67 : decode b_Rd_readConstant 67 = .ok (.iload_n 1, 1) := by decide +kernel
theorem d_Rd_readConstant_68 : decode b_Rd_readConstant 68 = .ok (.ifCond .eq 8, 3) := by decide +kernel
theorem d_Rd_readConstant_71 : decode b_Rd_readConstant 71 = .ok (.iload_n 2, 1) := by decide +kernel
theorem d_Rd_readConstant_72 : decode b_Rd_readConstant 72 = .ok (.ineg, 1) := by decide +kernel
theorem d_Rd_readConstant_73 : decode b_Rd_readConstant 73 = .ok (.goto 4, 3) := by decide +kernel
theorem d_Rd_readConstant_76 : decode b_Rd_readConstant 76 = .ok (.iload_n 2, 1) := by decide +kernel
theorem d_Rd_readConstant_77 : decode b_Rd_readConstant 77 = .ok (.iload 4, 2) := by decide +kernel
theorem d_Rd_readConstant_79 : decode b_Rd_readConstant 79 = .ok (.idiv, 1) := by decide +kernel
theorem d_Rd_readConstant_80 : decode b_Rd_readConstant 80 = .ok (.iload_n 3, 1) := by decide +kernel
theorem d_Rd_readConstant_81 : decode b_Rd_readConstant 81 = .ok (.iload 4, 2) := by decide +kernel
theorem d_Rd_readConstant_83 : decode b_Rd_readConstant 83 = .ok (.idiv, 1) := by decide +kernel
theorem d_Rd_readConstant_84 : decode b_Rd_readConstant 84 = .ok (.invokevirtual 125, 3) := by decide +kernel
theorem d_Rd_readConstant_87 : decode b_Rd_readConstant 87 = .ok (.ireturn, 1) := by decide +kernel
def f_Rd_readConstant_44 (σ : St) : Int32 × St := ((-1), σ)
def k_Rd_readConstant_44 (σ : St) : Prop := True
def f_Rd_readConstant_87 (s0 : Int32) (σ : St) : Int32 × St := (s0, σ)
def k_Rd_readConstant_87 (s0 : Int32) (σ : St) : Prop := True
def f_Rd_readConstant_77 (x3 : Int32) (x4 : Int32) (s0 : Int32) (σ : St) : Int32 × St := f_Rd_readConstant_87 ((f_Te_makeConstant (s0 / x4) (x3 / x4) σ).1) ((f_Te_makeConstant (s0 / x4) (x3 / x4) σ).2)
def k_Rd_readConstant_77 (x3 : Int32) (x4 : Int32) (s0 : Int32) (σ : St) : Prop := (¬ (x4 : Int32) = 0) ∧ ((¬ (x4 : Int32) = 0) ∧ ((k_Te_makeConstant (s0 / x4) (x3 / x4) σ) ∧ (k_Rd_readConstant_87 ((f_Te_makeConstant (s0 / x4) (x3 / x4) σ).1) ((f_Te_makeConstant (s0 / x4) (x3 / x4) σ).2))))
def f_Rd_readConstant_56 (x1 : Int32) (x2 : Int32) (x3 : Int32) (x4 : Int32) (σ : St) : Int32 × St := if x4 = 0 then ((-1), σ) else (if x1 = 0 then (f_Rd_readConstant_77 x3 x4 x2 σ) else (f_Rd_readConstant_77 x3 x4 (-x2) σ))
def k_Rd_readConstant_56 (x1 : Int32) (x2 : Int32) (x3 : Int32) (x4 : Int32) (σ : St) : Prop := (x4 = 0 → True) ∧ (¬ x4 = 0 → ((x1 = 0 → (k_Rd_readConstant_77 x3 x4 x2 σ)) ∧ (¬ x1 = 0 → (k_Rd_readConstant_77 x3 x4 (-x2) σ))))
def f_Rd_readConstant_29 (x1 : Int32) (x2 : Int32) (s0 : Int32) (σ : St) : Int32 × St := if x2 = (-1) then (f_Rd_readConstant_44 σ) else (if s0 = (-1) then (f_Rd_readConstant_44 σ) else (if s0 = 0 then (f_Rd_readConstant_44 σ) else (f_Rd_readConstant_56 x1 x2 s0 ((f_CL_gcd x2.toInt64 s0.toInt64 σ).toInt32) σ)))
def k_Rd_readConstant_29 (x1 : Int32) (x2 : Int32) (s0 : Int32) (σ : St) : Prop := (x2 = (-1) → (k_Rd_readConstant_44 σ)) ∧ (¬ x2 = (-1) → ((s0 = (-1) → (k_Rd_readConstant_44 σ)) ∧ (¬ s0 = (-1) → ((s0 = 0 → (k_Rd_readConstant_44 σ)) ∧ (¬ s0 = 0 → ((k_CL_gcd x2.toInt64 s0.toInt64 σ) ∧ (k_Rd_readConstant_56 x1 x2 s0 ((f_CL_gcd x2.toInt64 s0.toInt64 σ).toInt32) σ)))))))
def f_Rd_readConstant_25 (x1 : Int32) (x2 : Int32) (s0 : Int32) (σ : St) : Int32 × St := f_Rd_readConstant_29 x1 x2 s0 σ
def k_Rd_readConstant_25 (x1 : Int32) (x2 : Int32) (s0 : Int32) (σ : St) : Prop := k_Rd_readConstant_29 x1 x2 s0 σ
def f_Rd_readConstant_18 (x1 : Int32) (x2 : Int32) (s0 : Int32) (σ : St) : Int32 × St := if s0 = 0 then (f_Rd_readConstant_29 x1 x2 1 σ) else (f_Rd_readConstant_25 x1 x2 ((f_Rd_readDigits σ).1) ((f_Rd_readDigits σ).2))
def k_Rd_readConstant_18 (x1 : Int32) (x2 : Int32) (s0 : Int32) (σ : St) : Prop := (s0 = 0 → (k_Rd_readConstant_29 x1 x2 1 σ)) ∧ (¬ s0 = 0 → ((k_Rd_readDigits σ) ∧ (k_Rd_readConstant_25 x1 x2 ((f_Rd_readDigits σ).1) ((f_Rd_readDigits σ).2))))
def f_Rd_readConstant_12 (x1 : Int32) (x2 : Int32) (σ : St) : Int32 × St := f_Rd_readConstant_18 x1 x2 ((f_Rd_take 47 σ).1) ((f_Rd_take 47 σ).2)
def k_Rd_readConstant_12 (x1 : Int32) (x2 : Int32) (σ : St) : Prop := (k_Rd_take 47 σ) ∧ (k_Rd_readConstant_18 x1 x2 ((f_Rd_take 47 σ).1) ((f_Rd_take 47 σ).2))
def f_Rd_readConstant_11 (x1 : Int32) (s0 : Int32) (σ : St) : Int32 × St := f_Rd_readConstant_12 x1 s0 σ
def k_Rd_readConstant_11 (x1 : Int32) (s0 : Int32) (σ : St) : Prop := k_Rd_readConstant_12 x1 s0 σ
def f_Rd_readConstant_6 (s0 : Int32) (σ : St) : Int32 × St := f_Rd_readConstant_11 s0 ((f_Rd_readDigits σ).1) ((f_Rd_readDigits σ).2)
def k_Rd_readConstant_6 (s0 : Int32) (σ : St) : Prop := (k_Rd_readDigits σ) ∧ (k_Rd_readConstant_11 s0 ((f_Rd_readDigits σ).1) ((f_Rd_readDigits σ).2))
def f_Rd_readConstant (σ : St) : Int32 × St := f_Rd_readConstant_6 ((f_Rd_take 45 σ).1) ((f_Rd_take 45 σ).2)
def k_Rd_readConstant (σ : St) : Prop := (k_Rd_take 45 σ) ∧ (k_Rd_readConstant_6 ((f_Rd_take 45 σ).1) ((f_Rd_take 45 σ).2))
abbrev w_Rd_readConstant : List Cond := Cond.code y_Rd_readConstant b_Rd_readConstant 5 (some .int) :: gw
abbrev rm_Rd_readConstant : Room := { frames := 3, cells := 0, slots := 0, locals := 73 }
set_option maxHeartbeats 4000000 in
set_option maxRecDepth 100000 in
theorem c_Rd_readConstant (l : Launch) (D : va_G) (ty : Nat → ClassId) (h : Nat → Nat) (px : va_W) (sa : Nat → Nat) (σ : St) (sz : Nat) (hk : k_Rd_readConstant σ) : Met l y_Rd_readConstant w_Rd_readConstant rm_Rd_readConstant (va_Pc [.ref (h 20)] (fun U => U.heap.size = sz ∧ va_P D classes (Wc ty h σ px) U.heap ∧ va_K D classes (Ta ty) U ∧ NW U ∧ MK sa (va_A (Wc ty h σ px) sz) U U.heap ∧ va_D (fun _ => True) (Wc ty h σ px))) (va_Qi (fun r (u : St) => (r, u) = f_Rd_readConstant σ) (fun u t => va_P D classes (Wc ty h u px) t.heap) (va_A (Wc ty h σ px) sz)) 0 0 (va_A (Wc ty h σ px) sz) := by
  refine Met.ofW (cc := b_Rd_readConstant) (maxL := 5) (ret := (some .int)) (by decide) rfl ?_
  intro p e s m args below meth c s₁ B hml hv
  obtain ⟨ha, hsz, hP, hK, hN, hM, hD0⟩ := hv
  have hx := B.exec
  have hb := B.bytes
  have hr := B.returns
  have hg : ∀ w ∈ gw, w.before args s = true := fun w h9 => atoms_spec (ws := w_Rd_readConstant) B.pre w (List.mem_cons_of_mem _ h9)
  have hown : s.vm.findClass "ClauseLedger$Reader" = some m.cls := findClass_of_methodNamed B.named
  have hlocks := B.notSynchronized
  subst hsz
  have hD := hD0.self (sz := s.heap.size)
  generalize hAe : va_A (Wc ty h σ px) s.heap.size = A at hD hM ⊢
  have hA : ∀ q : Nat, s.heap.size ≤ q → A q := fun q h9 => by rw [← hAe]; exact Or.inr h9
  have hS : va_S A s.heap s.heap [] := va_S.rf
  have he : entryFrame m args 5 = entryFrame m ([.ref (h 20)] : List Value).toArray 5 := by rw [ha]
  rw [he, lg_entry_eq]
  have hl := lv_entry ([.ref (h 20)]) (n := 5) (Nat.le_of_ble_eq_true rfl)
  generalize (lg_sl ([.ref (h 20)]) ++ List.replicate (5 - (lg_sl ([.ref (h 20)])).length) Slot.unset).toArray = ls at hl ⊢
  have hl : lv_has ls 5 [(0, .ref (h 20))] := hl
  generalize hv : f_Rd_readConstant σ = v
  replace hv := hv.symm
  have B44 : ∀ (H : Heap) (locs : List Loc) (ls : Array Slot) (σ : St), v = f_Rd_readConstant_44 σ → k_Rd_readConstant_44 σ → lv_has ls 5 [] → va_P D classes (Wc ty h σ px) H → va_D A (Wc ty h σ px) → va_S A s.heap H locs → W p l e (headSpec w_Rd_readConstant rm_Rd_readConstant).room s m args below meth c H locs 0 0 (MQ below (va_Qi (fun r (u : St) => (r, u) = v) (fun u t => va_P D classes (Wc ty h u px) t.heap) A) args s 0 0 A) (F0 m 44 ls []) := by
    intro H locs ls σ hv hk hl hP hD hS
    unfold f_Rd_readConstant_44 at hv
    unfold k_Rd_readConstant_44 at hk
    refine lv_iconst (v := -1) hx hb d_Rd_readConstant_44 (by decide) ?_
    exact W.iret hx hb hr (fun t ht hW => ⟨⟨_, _, rfl, hv.symm, by dsimp only; rw [ht]; exact hP⟩, hS.F ht⟩) hS.2.2 d_Rd_readConstant_45
  have B87 : ∀ (H : Heap) (locs : List Loc) (ls : Array Slot) (s0 : Int32) (σ : St), v = f_Rd_readConstant_87 s0 σ → k_Rd_readConstant_87 s0 σ → lv_has ls 5 [] → va_P D classes (Wc ty h σ px) H → va_D A (Wc ty h σ px) → va_S A s.heap H locs → W p l e (headSpec w_Rd_readConstant rm_Rd_readConstant).room s m args below meth c H locs 0 0 (MQ below (va_Qi (fun r (u : St) => (r, u) = v) (fun u t => va_P D classes (Wc ty h u px) t.heap) A) args s 0 0 A) (F0 m 87 ls [.int s0]) := by
    intro H locs ls s0 σ hv hk hl hP hD hS
    unfold f_Rd_readConstant_87 at hv
    unfold k_Rd_readConstant_87 at hk
    exact W.iret hx hb hr (fun t ht hW => ⟨⟨_, _, rfl, hv.symm, by dsimp only; rw [ht]; exact hP⟩, hS.F ht⟩) hS.2.2 d_Rd_readConstant_87
  have B77 : ∀ (H : Heap) (locs : List Loc) (ls : Array Slot) (x3 : Int32) (x4 : Int32) (s0 : Int32) (σ : St), v = f_Rd_readConstant_77 x3 x4 s0 σ → k_Rd_readConstant_77 x3 x4 s0 σ → lv_has ls 5 [(3, .int x3), (4, .int x4)] → va_P D classes (Wc ty h σ px) H → va_D A (Wc ty h σ px) → va_S A s.heap H locs → W p l e (headSpec w_Rd_readConstant rm_Rd_readConstant).room s m args below meth c H locs 0 0 (MQ below (va_Qi (fun r (u : St) => (r, u) = v) (fun u t => va_P D classes (Wc ty h u px) t.heap) A) args s 0 0 A) (F0 m 77 ls [.int s0, .ref (h 6)]) := by
    intro H locs ls x3 x4 s0 σ hv hk hl hP hD hS
    unfold f_Rd_readConstant_77 at hv
    unfold k_Rd_readConstant_77 at hk
    refine lv_iload hx hb d_Rd_readConstant_77 (lv_at hl 1 rfl) ?_
    obtain ⟨hk0, hk⟩ := hk
    refine lv_idiv hx hb d_Rd_readConstant_79 hk0 ?_
    refine lv_iload_n hx hb d_Rd_readConstant_80 rfl (lv_at hl 0 rfl) ?_
    refine lv_iload hx hb d_Rd_readConstant_81 (lv_at hl 1 rfl) ?_
    obtain ⟨hk0, hk⟩ := hk
    refine lv_idiv hx hb d_Rd_readConstant_83 hk0 ?_
    obtain ⟨hk0, hk⟩ := hk
    refine va_calli (va_runV (As := [.int (s0 / x4), .int (x3 / x4)]) (rest := []) ⟨hx, hb, hml, hown, hg⟩ (c_Te_makeConstant l D ty h px sa σ H.size (s0 / x4) (x3 / x4) hk0) ⟨callB_of 2 hg (gw_C m_759) rfl rfl rfl (hg _ m_3) (hg _ m_756) hd_Te_makeConstant ⟨Nat.le_of_ble_eq_true rfl, Nat.le_of_ble_eq_true rfl⟩, hg _ m_757, hg _ m_758⟩ (zz_preVW hM hS hA hN hK hP hD 6 rfl rfl) rfl rfl hl.1 rfl (lv_room (Nat.le_of_ble_eq_true rfl)) d_Rd_readConstant_84 ⟨Nat.le_of_ble_eq_true rfl, Nat.le_of_ble_eq_true rfl⟩) hS (fun q _ h => zz_free hD hS hA q h) (zz_free hD hS hA) (fun r84 u84 t H locs ht hvm hp hP1 hz hk1 hS => ?_)
    rw [ht] at hP1
    rw [← hp] at hv hk
    have hD : va_D A (Wc ty h u84 px) := zz_D hD rfl
    have hP := hP1
    exact B87 _ _ _ r84 u84 hv hk (lv_sub hl [] rfl) hP hD hS
  have B56 : ∀ (H : Heap) (locs : List Loc) (ls : Array Slot) (x1 : Int32) (x2 : Int32) (x3 : Int32) (x4 : Int32) (σ : St), v = f_Rd_readConstant_56 x1 x2 x3 x4 σ → k_Rd_readConstant_56 x1 x2 x3 x4 σ → lv_has ls 5 [(0, .ref (h 20)), (1, .int x1), (2, .int x2), (3, .int x3), (4, .int x4)] → va_P D classes (Wc ty h σ px) H → va_D A (Wc ty h σ px) → va_S A s.heap H locs → W p l e (headSpec w_Rd_readConstant rm_Rd_readConstant).room s m args below meth c H locs 0 0 (MQ below (va_Qi (fun r (u : St) => (r, u) = v) (fun u t => va_P D classes (Wc ty h u px) t.heap) A) args s 0 0 A) (F0 m 56 ls []) := by
    intro H locs ls x1 x2 x3 x4 σ hv hk hl hP hD hS
    unfold f_Rd_readConstant_56 at hv
    unfold k_Rd_readConstant_56 at hk
    refine lv_iload hx hb d_Rd_readConstant_56 (lv_at hl 4 rfl) ?_
    refine lv_if_ne (tgt := 63) hx hb d_Rd_readConstant_58 (by decide) (fun hc => ?_) (fun hc => ?_)
    · have hv := hv.trans (if_neg hc)
      have hk := hk.2 hc
      refine lv_aload_n hx hb d_Rd_readConstant_63 rfl (lv_at hl 0 rfl) ?_
      refine va_get (v := .ref (h 6)) (C := R_Rd) (T := T_Rd) (N := 4) hx hb hg in_Rd hown hK hP 20 rfl rfl 2 (by decide) (hg _ m_135) (fun _ h9 => h9) rfl d_Rd_readConstant_64 ?_
      refine lv_iload_n hx hb d_Rd_readConstant_67 rfl (lv_at hl 1 rfl) ?_
      refine lv_if_eq (tgt := 76) hx hb d_Rd_readConstant_68 (by decide) (fun hc => ?_) (fun hc => ?_)
      · have hv := hv.trans (if_pos hc)
        have hk := hk.1 hc
        refine lv_iload_n hx hb d_Rd_readConstant_76 rfl (lv_at hl 2 rfl) ?_
        exact B77 _ _ _ x3 x4 x2 σ hv hk (lv_sub hl [3, 4] rfl) hP hD hS
      · have hv := hv.trans (if_neg hc)
        have hk := hk.2 hc
        refine lv_iload_n hx hb d_Rd_readConstant_71 rfl (lv_at hl 2 rfl) ?_
        refine lv_ineg hx hb d_Rd_readConstant_72 ?_
        refine lv_goto (tgt := 77) hx hb d_Rd_readConstant_73 (by decide) ?_
        exact B77 _ _ _ x3 x4 (-x2) σ hv hk (lv_sub hl [3, 4] rfl) hP hD hS
    · have hv := hv.trans (if_pos hc)
      have hk := hk.1 hc
      refine lv_iconst (v := -1) hx hb d_Rd_readConstant_61 (by decide) ?_
      exact W.iret hx hb hr (fun t ht hW => ⟨⟨_, _, rfl, hv.symm, by dsimp only; rw [ht]; exact hP⟩, hS.F ht⟩) hS.2.2 d_Rd_readConstant_62
  have B29 : ∀ (H : Heap) (locs : List Loc) (ls : Array Slot) (x1 : Int32) (x2 : Int32) (s0 : Int32) (σ : St), v = f_Rd_readConstant_29 x1 x2 s0 σ → k_Rd_readConstant_29 x1 x2 s0 σ → lv_has ls 5 [(0, .ref (h 20)), (1, .int x1), (2, .int x2)] → va_P D classes (Wc ty h σ px) H → va_D A (Wc ty h σ px) → va_S A s.heap H locs → W p l e (headSpec w_Rd_readConstant rm_Rd_readConstant).room s m args below meth c H locs 0 0 (MQ below (va_Qi (fun r (u : St) => (r, u) = v) (fun u t => va_P D classes (Wc ty h u px) t.heap) A) args s 0 0 A) (F0 m 29 ls [.int s0]) := by
    intro H locs ls x1 x2 s0 σ hv hk hl hP hD hS
    unfold f_Rd_readConstant_29 at hv
    unfold k_Rd_readConstant_29 at hk
    refine lv_istore_n (lv' := [(3, .int s0), (0, .ref (h 20)), (1, .int x1), (2, .int x2)]) hx hb d_Rd_readConstant_29 rfl hl (by decide) rfl (fun ls hl => ?_)
    refine lv_iload_n hx hb d_Rd_readConstant_30 rfl (lv_at hl 3 rfl) ?_
    refine lv_iconst (v := -1) hx hb d_Rd_readConstant_31 (by decide) ?_
    refine lv_icmp_eq (tgt := 44) hx hb d_Rd_readConstant_32 (by decide) (fun hc => ?_) (fun hc => ?_)
    · have hv := hv.trans (if_pos hc)
      have hk := hk.1 hc
      exact B44 _ _ _  σ hv hk (lv_sub hl [] rfl) hP hD hS
    · have hv := hv.trans (if_neg hc)
      have hk := hk.2 hc
      refine lv_iload_n hx hb d_Rd_readConstant_35 rfl (lv_at hl 0 rfl) ?_
      refine lv_iconst (v := -1) hx hb d_Rd_readConstant_36 (by decide) ?_
      refine lv_icmp_eq (tgt := 44) hx hb d_Rd_readConstant_37 (by decide) (fun hc => ?_) (fun hc => ?_)
      · have hv := hv.trans (if_pos hc)
        have hk := hk.1 hc
        exact B44 _ _ _  σ hv hk (lv_sub hl [] rfl) hP hD hS
      · have hv := hv.trans (if_neg hc)
        have hk := hk.2 hc
        refine lv_iload_n hx hb d_Rd_readConstant_40 rfl (lv_at hl 0 rfl) ?_
        refine lv_if_ne (tgt := 46) hx hb d_Rd_readConstant_41 (by decide) (fun hc => ?_) (fun hc => ?_)
        · have hv := hv.trans (if_neg hc)
          have hk := hk.2 hc
          refine lv_iload_n hx hb d_Rd_readConstant_46 rfl (lv_at hl 3 rfl) ?_
          refine lv_i2l hx hb d_Rd_readConstant_47 rfl ?_
          refine lv_iload_n hx hb d_Rd_readConstant_48 rfl (lv_at hl 0 rfl) ?_
          refine lv_i2l hx hb d_Rd_readConstant_49 rfl ?_
          obtain ⟨hk0, hk⟩ := hk
          refine zz_callV (va_runSN (As := [.long x2.toInt64, .long s0.toInt64]) (rest := []) ⟨hx, hb, hml, hown, hg⟩ (c_CL_gcd l D ty h px sa σ x2.toInt64 s0.toInt64 hk0) ⟨va_cnB 2 hg (gw_C m_755) rfl rfl rfl (hN _ nw_753) (hg _ m_1) hd_CL_gcd ⟨Nat.le_of_ble_eq_true rfl, Nat.le_of_ble_eq_true rfl⟩, hg _ m_754, trivial⟩ (zz_preS (hM.at hS) hN hK hP) rfl rfl hl.1 rfl (lv_room (Nat.le_of_ble_eq_true rfl)) d_Rd_readConstant_50 ⟨Nat.le_of_ble_eq_true rfl, Nat.le_of_ble_eq_true rfl⟩) ?_
          refine lv_l2i hx hb d_Rd_readConstant_53 rfl ?_
          refine lv_istore (lv' := [(4, .int ((f_CL_gcd x2.toInt64 s0.toInt64 σ).toInt32)), (3, .int s0), (0, .ref (h 20)), (1, .int x1), (2, .int x2)]) hx hb d_Rd_readConstant_54 hl (by decide) rfl (fun ls hl => ?_)
          exact B56 _ _ _ x1 x2 s0 ((f_CL_gcd x2.toInt64 s0.toInt64 σ).toInt32) σ hv hk (lv_sub hl [2, 3, 4, 1, 0] rfl) hP hD hS
        · have hv := hv.trans (if_pos hc)
          have hk := hk.1 hc
          exact B44 _ _ _  σ hv hk (lv_sub hl [] rfl) hP hD hS
  have B25 : ∀ (H : Heap) (locs : List Loc) (ls : Array Slot) (x1 : Int32) (x2 : Int32) (s0 : Int32) (σ : St), v = f_Rd_readConstant_25 x1 x2 s0 σ → k_Rd_readConstant_25 x1 x2 s0 σ → lv_has ls 5 [(0, .ref (h 20)), (1, .int x1), (2, .int x2)] → va_P D classes (Wc ty h σ px) H → va_D A (Wc ty h σ px) → va_S A s.heap H locs → W p l e (headSpec w_Rd_readConstant rm_Rd_readConstant).room s m args below meth c H locs 0 0 (MQ below (va_Qi (fun r (u : St) => (r, u) = v) (fun u t => va_P D classes (Wc ty h u px) t.heap) A) args s 0 0 A) (F0 m 25 ls [.int s0]) := by
    intro H locs ls x1 x2 s0 σ hv hk hl hP hD hS
    unfold f_Rd_readConstant_25 at hv
    unfold k_Rd_readConstant_25 at hk
    refine lv_goto (tgt := 29) hx hb d_Rd_readConstant_25 (by decide) ?_
    exact B29 _ _ _ x1 x2 s0 σ hv hk (lv_sub hl [0, 1, 2] rfl) hP hD hS
  have B18 : ∀ (H : Heap) (locs : List Loc) (ls : Array Slot) (x1 : Int32) (x2 : Int32) (s0 : Int32) (σ : St), v = f_Rd_readConstant_18 x1 x2 s0 σ → k_Rd_readConstant_18 x1 x2 s0 σ → lv_has ls 5 [(0, .ref (h 20)), (1, .int x1), (2, .int x2)] → va_P D classes (Wc ty h σ px) H → va_D A (Wc ty h σ px) → va_S A s.heap H locs → W p l e (headSpec w_Rd_readConstant rm_Rd_readConstant).room s m args below meth c H locs 0 0 (MQ below (va_Qi (fun r (u : St) => (r, u) = v) (fun u t => va_P D classes (Wc ty h u px) t.heap) A) args s 0 0 A) (F0 m 18 ls [.int s0]) := by
    intro H locs ls x1 x2 s0 σ hv hk hl hP hD hS
    unfold f_Rd_readConstant_18 at hv
    unfold k_Rd_readConstant_18 at hk
    refine lv_if_eq (tgt := 28) hx hb d_Rd_readConstant_18 (by decide) (fun hc => ?_) (fun hc => ?_)
    · have hv := hv.trans (if_pos hc)
      have hk := hk.1 hc
      refine lv_iconst (v := 1) hx hb d_Rd_readConstant_28 (by decide) ?_
      exact B29 _ _ _ x1 x2 1 σ hv hk (lv_sub hl [0, 1, 2] rfl) hP hD hS
    · have hv := hv.trans (if_neg hc)
      have hk := hk.2 hc
      refine lv_aload_n hx hb d_Rd_readConstant_21 rfl (lv_at hl 0 rfl) ?_
      obtain ⟨hk0, hk⟩ := hk
      refine va_calli (va_runV (As := []) (rest := []) ⟨hx, hb, hml, hown, hg⟩ (c_Rd_readDigits l D ty h px sa σ H.size  hk0) ⟨callB_of 0 hg (gw_C m_749) rfl rfl rfl (hg _ m_5) (hg _ m_746) hd_Rd_readDigits ⟨Nat.le_of_ble_eq_true rfl, Nat.le_of_ble_eq_true rfl⟩, hg _ m_748, hg _ ms_23⟩ (zz_preVW hM hS hA hN hK hP hD 20 rfl rfl) rfl rfl hl.1 rfl (lv_room (Nat.le_of_ble_eq_true rfl)) d_Rd_readConstant_22 ⟨Nat.le_of_ble_eq_true rfl, Nat.le_of_ble_eq_true rfl⟩) hS (fun q _ h => zz_free hD hS hA q h) (zz_free hD hS hA) (fun r22 u22 t H locs ht hvm hp hP1 hz hk1 hS => ?_)
      rw [ht] at hP1
      rw [← hp] at hv hk
      have hD : va_D A (Wc ty h u22 px) := zz_D hD rfl
      have hP := hP1
      exact B25 _ _ _ x1 x2 r22 u22 hv hk (lv_sub hl [0, 1, 2] rfl) hP hD hS
  have B12 : ∀ (H : Heap) (locs : List Loc) (ls : Array Slot) (x1 : Int32) (x2 : Int32) (σ : St), v = f_Rd_readConstant_12 x1 x2 σ → k_Rd_readConstant_12 x1 x2 σ → lv_has ls 5 [(0, .ref (h 20)), (1, .int x1), (2, .int x2)] → va_P D classes (Wc ty h σ px) H → va_D A (Wc ty h σ px) → va_S A s.heap H locs → W p l e (headSpec w_Rd_readConstant rm_Rd_readConstant).room s m args below meth c H locs 0 0 (MQ below (va_Qi (fun r (u : St) => (r, u) = v) (fun u t => va_P D classes (Wc ty h u px) t.heap) A) args s 0 0 A) (F0 m 12 ls []) := by
    intro H locs ls x1 x2 σ hv hk hl hP hD hS
    unfold f_Rd_readConstant_12 at hv
    unfold k_Rd_readConstant_12 at hk
    refine lv_aload_n hx hb d_Rd_readConstant_12 rfl (lv_at hl 0 rfl) ?_
    refine lv_bipush (v := 47) hx hb d_Rd_readConstant_13 (by decide) ?_
    obtain ⟨hk0, hk⟩ := hk
    refine va_calli (va_runV (As := [.int 47]) (rest := []) ⟨hx, hb, hml, hown, hg⟩ (c_Rd_take l D ty h px sa σ H.size 47 hk0) ⟨callB_of 1 hg (gw_C m_611) rfl rfl rfl (hg _ m_5) (hg _ m_608) hd_Rd_take ⟨Nat.le_of_ble_eq_true rfl, Nat.le_of_ble_eq_true rfl⟩, hg _ m_610, hg _ ms_13⟩ (zz_preVW hM hS hA hN hK hP hD 20 rfl rfl) rfl rfl hl.1 rfl (lv_room (Nat.le_of_ble_eq_true rfl)) d_Rd_readConstant_15 ⟨Nat.le_of_ble_eq_true rfl, Nat.le_of_ble_eq_true rfl⟩) hS (fun q _ h => zz_free hD hS hA q h) (zz_free hD hS hA) (fun r15 u15 t H locs ht hvm hp hP1 hz hk1 hS => ?_)
    rw [ht] at hP1
    rw [← hp] at hv hk
    have hD : va_D A (Wc ty h u15 px) := zz_D hD rfl
    have hP := hP1
    exact B18 _ _ _ x1 x2 r15 u15 hv hk (lv_sub hl [0, 1, 2] rfl) hP hD hS
  have B11 : ∀ (H : Heap) (locs : List Loc) (ls : Array Slot) (x1 : Int32) (s0 : Int32) (σ : St), v = f_Rd_readConstant_11 x1 s0 σ → k_Rd_readConstant_11 x1 s0 σ → lv_has ls 5 [(0, .ref (h 20)), (1, .int x1)] → va_P D classes (Wc ty h σ px) H → va_D A (Wc ty h σ px) → va_S A s.heap H locs → W p l e (headSpec w_Rd_readConstant rm_Rd_readConstant).room s m args below meth c H locs 0 0 (MQ below (va_Qi (fun r (u : St) => (r, u) = v) (fun u t => va_P D classes (Wc ty h u px) t.heap) A) args s 0 0 A) (F0 m 11 ls [.int s0]) := by
    intro H locs ls x1 s0 σ hv hk hl hP hD hS
    unfold f_Rd_readConstant_11 at hv
    unfold k_Rd_readConstant_11 at hk
    refine lv_istore_n (lv' := [(2, .int s0), (0, .ref (h 20)), (1, .int x1)]) hx hb d_Rd_readConstant_11 rfl hl (by decide) rfl (fun ls hl => ?_)
    exact B12 _ _ _ x1 s0 σ hv hk (lv_sub hl [1, 2, 0] rfl) hP hD hS
  have B6 : ∀ (H : Heap) (locs : List Loc) (ls : Array Slot) (s0 : Int32) (σ : St), v = f_Rd_readConstant_6 s0 σ → k_Rd_readConstant_6 s0 σ → lv_has ls 5 [(0, .ref (h 20))] → va_P D classes (Wc ty h σ px) H → va_D A (Wc ty h σ px) → va_S A s.heap H locs → W p l e (headSpec w_Rd_readConstant rm_Rd_readConstant).room s m args below meth c H locs 0 0 (MQ below (va_Qi (fun r (u : St) => (r, u) = v) (fun u t => va_P D classes (Wc ty h u px) t.heap) A) args s 0 0 A) (F0 m 6 ls [.int s0]) := by
    intro H locs ls s0 σ hv hk hl hP hD hS
    unfold f_Rd_readConstant_6 at hv
    unfold k_Rd_readConstant_6 at hk
    refine lv_istore_n (lv' := [(1, .int s0), (0, .ref (h 20))]) hx hb d_Rd_readConstant_6 rfl hl (by decide) rfl (fun ls hl => ?_)
    refine lv_aload_n hx hb d_Rd_readConstant_7 rfl (lv_at hl 1 rfl) ?_
    obtain ⟨hk0, hk⟩ := hk
    refine va_calli (va_runV (As := []) (rest := []) ⟨hx, hb, hml, hown, hg⟩ (c_Rd_readDigits l D ty h px sa σ H.size  hk0) ⟨callB_of 0 hg (gw_C m_749) rfl rfl rfl (hg _ m_5) (hg _ m_746) hd_Rd_readDigits ⟨Nat.le_of_ble_eq_true rfl, Nat.le_of_ble_eq_true rfl⟩, hg _ m_748, hg _ ms_23⟩ (zz_preVW hM hS hA hN hK hP hD 20 rfl rfl) rfl rfl hl.1 rfl (lv_room (Nat.le_of_ble_eq_true rfl)) d_Rd_readConstant_8 ⟨Nat.le_of_ble_eq_true rfl, Nat.le_of_ble_eq_true rfl⟩) hS (fun q _ h => zz_free hD hS hA q h) (zz_free hD hS hA) (fun r8 u8 t H locs ht hvm hp hP1 hz hk1 hS => ?_)
    rw [ht] at hP1
    rw [← hp] at hv hk
    have hD : va_D A (Wc ty h u8 px) := zz_D hD rfl
    have hP := hP1
    exact B11 _ _ _ s0 r8 u8 hv hk (lv_sub hl [1, 0] rfl) hP hD hS
  unfold f_Rd_readConstant at hv
  unfold k_Rd_readConstant at hk
  refine lv_aload_n hx hb d_Rd_readConstant_0 rfl (lv_at hl 0 rfl) ?_
  refine lv_bipush (v := 45) hx hb d_Rd_readConstant_1 (by decide) ?_
  obtain ⟨hk0, hk⟩ := hk
  refine va_calli (va_runV (As := [.int 45]) (rest := []) ⟨hx, hb, hml, hown, hg⟩ (c_Rd_take l D ty h px sa σ s.heap.size 45 hk0) ⟨callB_of 1 hg (gw_C m_611) rfl rfl rfl (hg _ m_5) (hg _ m_608) hd_Rd_take ⟨Nat.le_of_ble_eq_true rfl, Nat.le_of_ble_eq_true rfl⟩, hg _ m_610, hg _ ms_13⟩ (zz_preVW hM hS hA hN hK hP hD 20 rfl rfl) rfl rfl hl.1 rfl (lv_room (Nat.le_of_ble_eq_true rfl)) d_Rd_readConstant_3 ⟨Nat.le_of_ble_eq_true rfl, Nat.le_of_ble_eq_true rfl⟩) hS (fun q _ h => zz_free hD hS hA q h) (zz_free hD hS hA) (fun r3 u3 t H locs ht hvm hp hP1 hz hk1 hS => ?_)
  rw [ht] at hP1
  rw [← hp] at hv hk
  have hD : va_D A (Wc ty h u3 px) := zz_D hD rfl
  have hP := hP1
  exact B6 _ _ _ r3 u3 hv hk (lv_sub hl [0] rfl) hP hD hS

-- ClauseLedger$Reader.readPart(I)I
abbrev b_Rd_readPart : ByteArray := prog_5_method_11_code
def y_Rd_readPart : MethodName := ⟨"ClauseLedger$Reader", "readPart", "(I)I"⟩
theorem hd_Rd_readPart : y_Rd_readPart.cls ≠ "java/lang/invoke/MethodHandle" ∧ y_Rd_readPart.cls ≠ "java/lang/invoke/VarHandle" ∧ (parseMethodDescriptor y_Rd_readPart.desc).map (fun d => d.parameters.length) = some 1 := by decide +kernel
abbrev w_Rd_readPart : List Cond := Cond.code y_Rd_readPart b_Rd_readPart 2 (some .int) :: gw
abbrev rm_Rd_readPart (d : Nat) : Room := { frames := 6 + 4 * d + 1, cells := 0, slots := 0, locals := 157 + 93 * d + 23 }
-- ClauseLedger$Reader.readApplied(II)I
abbrev b_Rd_readApplied : ByteArray := prog_5_method_7_code
def y_Rd_readApplied : MethodName := ⟨"ClauseLedger$Reader", "readApplied", "(II)I"⟩
theorem hd_Rd_readApplied : y_Rd_readApplied.cls ≠ "java/lang/invoke/MethodHandle" ∧ y_Rd_readApplied.cls ≠ "java/lang/invoke/VarHandle" ∧ (parseMethodDescriptor y_Rd_readApplied.desc).map (fun d => d.parameters.length) = some 2 := by decide +kernel
abbrev w_Rd_readApplied : List Cond := Cond.code y_Rd_readApplied b_Rd_readApplied 7 (some .int) :: gw
abbrev rm_Rd_readApplied (d : Nat) : Room := { frames := 6 + 4 * d + 2, cells := 0, slots := 0, locals := 157 + 93 * d + 44 }
-- ClauseLedger$Reader.readOverTruth(III)I
abbrev b_Rd_readOverTruth : ByteArray := prog_5_method_8_code
def y_Rd_readOverTruth : MethodName := ⟨"ClauseLedger$Reader", "readOverTruth", "(III)I"⟩
theorem hd_Rd_readOverTruth : y_Rd_readOverTruth.cls ≠ "java/lang/invoke/MethodHandle" ∧ y_Rd_readOverTruth.cls ≠ "java/lang/invoke/VarHandle" ∧ (parseMethodDescriptor y_Rd_readOverTruth.desc).map (fun d => d.parameters.length) = some 3 := by decide +kernel
abbrev w_Rd_readOverTruth : List Cond := Cond.code y_Rd_readOverTruth b_Rd_readOverTruth 5 (some .int) :: gw
abbrev rm_Rd_readOverTruth (d : Nat) : Room := { frames := 6 + 4 * d + 2, cells := 0, slots := 0, locals := 157 + 93 * d + 44 }
-- ClauseLedger$Reader.readOverTwo(II)I
abbrev b_Rd_readOverTwo : ByteArray := prog_5_method_9_code
def y_Rd_readOverTwo : MethodName := ⟨"ClauseLedger$Reader", "readOverTwo", "(II)I"⟩
theorem hd_Rd_readOverTwo : y_Rd_readOverTwo.cls ≠ "java/lang/invoke/MethodHandle" ∧ y_Rd_readOverTwo.cls ≠ "java/lang/invoke/VarHandle" ∧ (parseMethodDescriptor y_Rd_readOverTwo.desc).map (fun d => d.parameters.length) = some 2 := by decide +kernel
abbrev w_Rd_readOverTwo : List Cond := Cond.code y_Rd_readOverTwo b_Rd_readOverTwo 5 (some .int) :: gw
abbrev rm_Rd_readOverTwo (d : Nat) : Room := { frames := 6 + 4 * d + 2, cells := 0, slots := 0, locals := 157 + 93 * d + 44 }
-- ClauseLedger$Reader.readBracket(I)I
abbrev b_Rd_readBracket : ByteArray := prog_5_method_6_code
def y_Rd_readBracket : MethodName := ⟨"ClauseLedger$Reader", "readBracket", "(I)I"⟩
theorem hd_Rd_readBracket : y_Rd_readBracket.cls ≠ "java/lang/invoke/MethodHandle" ∧ y_Rd_readBracket.cls ≠ "java/lang/invoke/VarHandle" ∧ (parseMethodDescriptor y_Rd_readBracket.desc).map (fun d => d.parameters.length) = some 1 := by decide +kernel
abbrev w_Rd_readBracket : List Cond := Cond.code y_Rd_readBracket b_Rd_readBracket 4 (some .int) :: gw
abbrev rm_Rd_readBracket (d : Nat) : Room := { frames := 6 + 4 * d + 3, cells := 0, slots := 0, locals := 157 + 93 * d + 70 }
-- ClauseLedger$Reader.readAny(I)I
abbrev b_Rd_readAny : ByteArray := prog_5_method_3_code
def y_Rd_readAny : MethodName := ⟨"ClauseLedger$Reader", "readAny", "(I)I"⟩
theorem hd_Rd_readAny : y_Rd_readAny.cls ≠ "java/lang/invoke/MethodHandle" ∧ y_Rd_readAny.cls ≠ "java/lang/invoke/VarHandle" ∧ (parseMethodDescriptor y_Rd_readAny.desc).map (fun d => d.parameters.length) = some 1 := by decide +kernel
abbrev w_Rd_readAny : List Cond := Cond.code y_Rd_readAny b_Rd_readAny 4 (some .int) :: gw
abbrev rm_Rd_readAny (d : Nat) : Room := { frames := 6 + 4 * d + 4, cells := 0, slots := 0, locals := 157 + 93 * d + 93 }
abbrev rk_Rd_readAny (d : Nat) : Room := { frames := 6 + 4 * d, cells := 0, slots := 0, locals := 157 + 93 * d }
theorem d_Rd_readPart_0 : decode b_Rd_readPart 0 = .ok (.aload_n 0, 1) := by decide +kernel
theorem d_Rd_readPart_1 : decode b_Rd_readPart 1 = .ok (.bipush 32, 2) := by decide +kernel
theorem d_Rd_readPart_3 : decode b_Rd_readPart 3 = .ok (.invokevirtual 85, 3) := by decide +kernel
theorem d_Rd_readPart_6 : decode b_Rd_readPart 6 = .ok (.ifCond .eq 11, 3) := by decide +kernel
theorem d_Rd_readPart_9 : decode b_Rd_readPart 9 = .ok (.aload_n 0, 1) := by decide +kernel
theorem d_Rd_readPart_10 : decode b_Rd_readPart 10 = .ok (.iload_n 1, 1) := by decide +kernel
theorem d_Rd_readPart_11 : decode b_Rd_readPart 11 = .ok (.invokevirtual 27, 3) := by decide +kernel
theorem d_Rd_readPart_14 : decode b_Rd_readPart 14 = .ok (.goto 4, 3) := by decide +kernel
theorem d_Rd_readPart_17 : decode b_Rd_readPart 17 = .ok (.iconst (-1), 1) := by decide +kernel
theorem d_Rd_readPart_18 : decode b_Rd_readPart 18 = .ok (.ireturn, 1) := by decide +kernel
def f_Rd_readPart_18 (RF : Int32 → St → Int32 × St) (s0 : Int32) (σ : St) : Int32 × St := (s0, σ)
def k_Rd_readPart_18 (RF : Int32 → St → Int32 × St) (RK : Int32 → St → Prop) (s0 : Int32) (σ : St) : Prop := True
def f_Rd_readPart_14 (RF : Int32 → St → Int32 × St) (s0 : Int32) (σ : St) : Int32 × St := f_Rd_readPart_18 RF s0 σ
def k_Rd_readPart_14 (RF : Int32 → St → Int32 × St) (RK : Int32 → St → Prop) (s0 : Int32) (σ : St) : Prop := k_Rd_readPart_18 RF RK s0 σ
def f_Rd_readPart_6 (RF : Int32 → St → Int32 × St) (x1 : Int32) (s0 : Int32) (σ : St) : Int32 × St := if s0 = 0 then (f_Rd_readPart_18 RF (-1) σ) else (f_Rd_readPart_14 RF ((RF x1 σ).1) ((RF x1 σ).2))
def k_Rd_readPart_6 (RF : Int32 → St → Int32 × St) (RK : Int32 → St → Prop) (x1 : Int32) (s0 : Int32) (σ : St) : Prop := (s0 = 0 → (k_Rd_readPart_18 RF RK (-1) σ)) ∧ (¬ s0 = 0 → ((RK x1 σ) ∧ (k_Rd_readPart_14 RF RK ((RF x1 σ).1) ((RF x1 σ).2))))
def f_Rd_readPart (RF : Int32 → St → Int32 × St) (a1 : Int32) (σ : St) : Int32 × St := f_Rd_readPart_6 RF a1 ((f_Rd_take 32 σ).1) ((f_Rd_take 32 σ).2)
def k_Rd_readPart (RF : Int32 → St → Int32 × St) (RK : Int32 → St → Prop) (a1 : Int32) (σ : St) : Prop := (k_Rd_take 32 σ) ∧ (k_Rd_readPart_6 RF RK a1 ((f_Rd_take 32 σ).1) ((f_Rd_take 32 σ).2))
set_option maxHeartbeats 4000000 in
set_option maxRecDepth 100000 in
theorem c_Rd_readPart (l : Launch) (D : va_G) (ty : Nat → ClassId) (h : Nat → Nat) (px : va_W) (sa : Nat → Nat) (d : Nat) (RF : Int32 → St → Int32 × St) (RK : Int32 → St → Prop) (hR : ∀ (σ : St) (sz : Nat) (b0 : Int32), RK b0 σ → Met l y_Rd_readAny w_Rd_readAny (rk_Rd_readAny d) (va_Pc [.ref (h 20), .int b0] (fun U => U.heap.size = sz ∧ va_P D classes (Wc ty h σ px) U.heap ∧ va_K D classes (Ta ty) U ∧ NW U ∧ MK sa (va_A (Wc ty h σ px) sz) U U.heap ∧ va_D (fun _ => True) (Wc ty h σ px))) (va_Qi (fun r (u : St) => (r, u) = RF b0 σ) (fun u t => va_P D classes (Wc ty h u px) t.heap) (va_A (Wc ty h σ px) sz)) 0 0 (va_A (Wc ty h σ px) sz)) (σ : St) (sz : Nat) (a1 : Int32) (hk : k_Rd_readPart RF RK a1 σ) : Met l y_Rd_readPart w_Rd_readPart (rm_Rd_readPart d) (va_Pc [.ref (h 20), .int a1] (fun U => U.heap.size = sz ∧ va_P D classes (Wc ty h σ px) U.heap ∧ va_K D classes (Ta ty) U ∧ NW U ∧ MK sa (va_A (Wc ty h σ px) sz) U U.heap ∧ va_D (fun _ => True) (Wc ty h σ px))) (va_Qi (fun r (u : St) => (r, u) = f_Rd_readPart RF a1 σ) (fun u t => va_P D classes (Wc ty h u px) t.heap) (va_A (Wc ty h σ px) sz)) 0 0 (va_A (Wc ty h σ px) sz) := by
  refine Met.ofW (cc := b_Rd_readPart) (maxL := 2) (ret := (some .int)) (by decide) rfl ?_
  intro p e s m args below meth c s₁ B hml hv
  obtain ⟨ha, hsz, hP, hK, hN, hM, hD0⟩ := hv
  have hx := B.exec
  have hb := B.bytes
  have hr := B.returns
  have hg : ∀ w ∈ gw, w.before args s = true := fun w h9 => atoms_spec (ws := w_Rd_readPart) B.pre w (List.mem_cons_of_mem _ h9)
  have hown : s.vm.findClass "ClauseLedger$Reader" = some m.cls := findClass_of_methodNamed B.named
  have hlocks := B.notSynchronized
  subst hsz
  have hD := hD0.self (sz := s.heap.size)
  generalize hAe : va_A (Wc ty h σ px) s.heap.size = A at hD hM ⊢
  have hA : ∀ q : Nat, s.heap.size ≤ q → A q := fun q h9 => by rw [← hAe]; exact Or.inr h9
  have hS : va_S A s.heap s.heap [] := va_S.rf
  have he : entryFrame m args 2 = entryFrame m ([.ref (h 20), .int a1] : List Value).toArray 2 := by rw [ha]
  rw [he, lg_entry_eq]
  have hl := lv_entry ([.ref (h 20), .int a1]) (n := 2) (Nat.le_of_ble_eq_true rfl)
  generalize (lg_sl ([.ref (h 20), .int a1]) ++ List.replicate (2 - (lg_sl ([.ref (h 20), .int a1])).length) Slot.unset).toArray = ls at hl ⊢
  have hl : lv_has ls 2 [(0, .ref (h 20)), (1, .int a1)] := hl
  generalize hv : f_Rd_readPart RF a1 σ = v
  replace hv := hv.symm
  have B18 : ∀ (H : Heap) (locs : List Loc) (ls : Array Slot) (s0 : Int32) (σ : St), v = f_Rd_readPart_18 RF s0 σ → k_Rd_readPart_18 RF RK s0 σ → lv_has ls 2 [] → va_P D classes (Wc ty h σ px) H → va_D A (Wc ty h σ px) → va_S A s.heap H locs → W p l e (headSpec w_Rd_readPart (rm_Rd_readPart d)).room s m args below meth c H locs 0 0 (MQ below (va_Qi (fun r (u : St) => (r, u) = v) (fun u t => va_P D classes (Wc ty h u px) t.heap) A) args s 0 0 A) (F0 m 18 ls [.int s0]) := by
    intro H locs ls s0 σ hv hk hl hP hD hS
    unfold f_Rd_readPart_18 at hv
    unfold k_Rd_readPart_18 at hk
    exact W.iret hx hb hr (fun t ht hW => ⟨⟨_, _, rfl, hv.symm, by dsimp only; rw [ht]; exact hP⟩, hS.F ht⟩) hS.2.2 d_Rd_readPart_18
  have B14 : ∀ (H : Heap) (locs : List Loc) (ls : Array Slot) (s0 : Int32) (σ : St), v = f_Rd_readPart_14 RF s0 σ → k_Rd_readPart_14 RF RK s0 σ → lv_has ls 2 [] → va_P D classes (Wc ty h σ px) H → va_D A (Wc ty h σ px) → va_S A s.heap H locs → W p l e (headSpec w_Rd_readPart (rm_Rd_readPart d)).room s m args below meth c H locs 0 0 (MQ below (va_Qi (fun r (u : St) => (r, u) = v) (fun u t => va_P D classes (Wc ty h u px) t.heap) A) args s 0 0 A) (F0 m 14 ls [.int s0]) := by
    intro H locs ls s0 σ hv hk hl hP hD hS
    unfold f_Rd_readPart_14 at hv
    unfold k_Rd_readPart_14 at hk
    refine lv_goto (tgt := 18) hx hb d_Rd_readPart_14 (by decide) ?_
    exact B18 _ _ _ s0 σ hv hk (lv_sub hl [] rfl) hP hD hS
  have B6 : ∀ (H : Heap) (locs : List Loc) (ls : Array Slot) (x1 : Int32) (s0 : Int32) (σ : St), v = f_Rd_readPart_6 RF x1 s0 σ → k_Rd_readPart_6 RF RK x1 s0 σ → lv_has ls 2 [(0, .ref (h 20)), (1, .int x1)] → va_P D classes (Wc ty h σ px) H → va_D A (Wc ty h σ px) → va_S A s.heap H locs → W p l e (headSpec w_Rd_readPart (rm_Rd_readPart d)).room s m args below meth c H locs 0 0 (MQ below (va_Qi (fun r (u : St) => (r, u) = v) (fun u t => va_P D classes (Wc ty h u px) t.heap) A) args s 0 0 A) (F0 m 6 ls [.int s0]) := by
    intro H locs ls x1 s0 σ hv hk hl hP hD hS
    unfold f_Rd_readPart_6 at hv
    unfold k_Rd_readPart_6 at hk
    refine lv_if_eq (tgt := 17) hx hb d_Rd_readPart_6 (by decide) (fun hc => ?_) (fun hc => ?_)
    · have hv := hv.trans (if_pos hc)
      have hk := hk.1 hc
      refine lv_iconst (v := -1) hx hb d_Rd_readPart_17 (by decide) ?_
      exact B18 _ _ _ (-1) σ hv hk (lv_sub hl [] rfl) hP hD hS
    · have hv := hv.trans (if_neg hc)
      have hk := hk.2 hc
      refine lv_aload_n hx hb d_Rd_readPart_9 rfl (lv_at hl 0 rfl) ?_
      refine lv_iload_n hx hb d_Rd_readPart_10 rfl (lv_at hl 1 rfl) ?_
      obtain ⟨hk0, hk⟩ := hk
      refine va_calli (va_runV (As := [.int x1]) (rest := []) ⟨hx, hb, hml, hown, hg⟩ (hR σ H.size x1 hk0) ⟨callB_of 1 hg (gw_C m_579) rfl rfl rfl (hg _ m_5) (hg _ m_576) hd_Rd_readAny ⟨(by simp only [headSpec, rm_Rd_readPart, rk_Rd_readAny]; omega), (by simp only [headSpec, rm_Rd_readPart, rk_Rd_readAny]; omega)⟩, hg _ m_578, hg _ ms_9⟩ (zz_preVW hM hS hA hN hK hP hD 20 rfl rfl) rfl rfl hl.1 rfl (lv_room (Nat.le_of_ble_eq_true rfl)) d_Rd_readPart_11 ⟨Nat.le_of_ble_eq_true rfl, Nat.le_of_ble_eq_true rfl⟩) hS (fun q _ h => zz_free hD hS hA q h) (zz_free hD hS hA) (fun r11 u11 t H locs ht hvm hp hP1 hz hk1 hS => ?_)
      rw [ht] at hP1
      rw [← hp] at hv hk
      have hD : va_D A (Wc ty h u11 px) := zz_D hD rfl
      have hP := hP1
      exact B14 _ _ _ r11 u11 hv hk (lv_sub hl [] rfl) hP hD hS
  unfold f_Rd_readPart at hv
  unfold k_Rd_readPart at hk
  refine lv_aload_n hx hb d_Rd_readPart_0 rfl (lv_at hl 0 rfl) ?_
  refine lv_bipush (v := 32) hx hb d_Rd_readPart_1 (by decide) ?_
  obtain ⟨hk0, hk⟩ := hk
  refine va_calli (va_runV (As := [.int 32]) (rest := []) ⟨hx, hb, hml, hown, hg⟩ (c_Rd_take l D ty h px sa σ s.heap.size 32 hk0) ⟨callB_of 1 hg (gw_C m_611) rfl rfl rfl (hg _ m_5) (hg _ m_608) hd_Rd_take ⟨(by simp only [headSpec, rm_Rd_readPart, rm_Rd_take]; omega), (by simp only [headSpec, rm_Rd_readPart, rm_Rd_take]; omega)⟩, hg _ m_610, hg _ ms_13⟩ (zz_preVW hM hS hA hN hK hP hD 20 rfl rfl) rfl rfl hl.1 rfl (lv_room (Nat.le_of_ble_eq_true rfl)) d_Rd_readPart_3 ⟨Nat.le_of_ble_eq_true rfl, Nat.le_of_ble_eq_true rfl⟩) hS (fun q _ h => zz_free hD hS hA q h) (zz_free hD hS hA) (fun r3 u3 t H locs ht hvm hp hP1 hz hk1 hS => ?_)
  rw [ht] at hP1
  rw [← hp] at hv hk
  have hD : va_D A (Wc ty h u3 px) := zz_D hD rfl
  have hP := hP1
  exact B6 _ _ _ a1 r3 u3 hv hk (lv_sub hl [0, 1] rfl) hP hD hS

theorem d_Rd_readApplied_0 : decode b_Rd_readApplied 0 = .ok (.aload_n 0, 1) := by decide +kernel
theorem d_Rd_readApplied_1 : decode b_Rd_readApplied 1 = .ok (.getfield 19, 3) := by decide +kernel
theorem d_Rd_readApplied_4 : decode b_Rd_readApplied 4 = .ok (.iload_n 1, 1) := by decide +kernel
theorem d_Rd_readApplied_5 : decode b_Rd_readApplied 5 = .ok (.invokevirtual 68, 3) := by decide +kernel
theorem d_Rd_readApplied_8 : decode b_Rd_readApplied 8 = .ok (.istore_n 3, 1) := by decide +kernel
theorem d_Rd_readApplied_9 : decode b_Rd_readApplied 9 = .ok (.aload_n 0, 1) := by decide +kernel
theorem d_Rd_readApplied_10 : decode b_Rd_readApplied 10 = .ok (.getfield 19, 3) := by decide +kernel
theorem d_Rd_readApplied_13 : decode b_Rd_readApplied 13 = .ok (.iload_n 1, 1) := by decide +kernel
theorem d_Rd_readApplied_14 : decode b_Rd_readApplied 14 = .ok (.invokevirtual 99, 3) := by decide +kernel
theorem d_Rd_readApplied_17 : decode b_Rd_readApplied 17 = .ok (.istore 4, 2) := by decide +kernel
theorem d_Rd_readApplied_19 : decode b_Rd_readApplied 19 = .ok (.iload_n 3, 1) := by decide +kernel
theorem d_Rd_readApplied_20 : decode b_Rd_readApplied 20 = .ok (.iconst (-1), 1) := by decide +kernel
theorem d_Rd_readApplied_21 : decode b_Rd_readApplied 21 = .ok (.if_icmp .ne 5, 3) := by decide +kernel
theorem d_Rd_readApplied_24 : decode b_Rd_readApplied 24 = .ok (.iconst (-1), 1) := by decide +kernel
theorem d_Rd_readApplied_25 : decode b_Rd_readApplied 25 = .ok (.ireturn, 1) := by decide +kernel
theorem d_Rd_readApplied_26 : decode b_Rd_readApplied 26 = .ok (.aload_n 0, 1) := by decide +kernel
theorem d_Rd_readApplied_27 : decode b_Rd_readApplied 27 = .ok (.iload_n 2, 1) := by decide +kernel
theorem d_Rd_readApplied_28 : decode b_Rd_readApplied 28 = .ok (.invokevirtual 102, 3) := by decide +kernel
theorem d_Rd_readApplied_31 : decode b_Rd_readApplied 31 = .ok (.istore 5, 2) := by decide +kernel
theorem d_Rd_readApplied_33 : decode b_Rd_readApplied 33 = .ok (.aload_n 0, 1) := by decide +kernel
theorem d_Rd_readApplied_34 : decode b_Rd_readApplied 34 = .ok (.getfield 23, 3) := by decide +kernel
theorem d_Rd_readApplied_37 : decode b_Rd_readApplied 37 = .ok (.iload 5, 2) := by decide +kernel
theorem d_Rd_readApplied_39 : decode b_Rd_readApplied 39 = .ok (.invokevirtual 105, 3) := by decide +kernel
theorem d_Rd_readApplied_42 : decode b_Rd_readApplied 42 = .ok (.iload_n 3, 1) := by decide +kernel
theorem d_Rd_readApplied_43 : decode b_Rd_readApplied 43 = .ok (.if_icmp .eq 5, 3) := by decide +kernel
theorem d_Rd_readApplied_46 : decode b_Rd_readApplied 46 = .ok (.iconst (-1), 1) := by decide +kernel
theorem d_Rd_readApplied_47 : decode b_Rd_readApplied 47 = .ok (.ireturn, 1) := by decide +kernel
theorem d_Rd_readApplied_48 : decode b_Rd_readApplied 48 = .ok (.iload 4, 2) := by decide +kernel
theorem d_Rd_readApplied_50 : decode b_Rd_readApplied 50 = .ok (.iconst (-1), 1) := by decide +kernel
theorem d_Rd_readApplied_51 : decode b_Rd_readApplied 51 = .ok (.if_icmp .ne 7, 3) := by decide +kernel
theorem d_Rd_readApplied_54 : decode b_Rd_readApplied 54 = .ok (.iconst (-1), 1) := by decide +kernel
theorem d_Rd_readApplied_55 : decode b_Rd_readApplied 55 = .ok (.goto 8, 3) := by decide +kernel
theorem d_Rd_readApplied_58 : decode b_Rd_readApplied 58 = .ok (.aload_n 0, 1) := by decide +kernel
theorem d_Rd_readApplied_59 : decode b_Rd_readApplied 59 = .ok (.iload_n 2, 1) := by decide +kernel
theorem d_Rd_readApplied_60 : decode b_Rd_readApplied 60 = .ok (.invokevirtual 102, 3) := by decide +kernel
theorem d_Rd_readApplied_63 : decode b_Rd_readApplied 63 = .ok (.istore 6, 2) := by decide +kernel
theorem d_Rd_readApplied_65 : decode b_Rd_readApplied 65 = .ok (.aload_n 0, 1) := by decide +kernel
theorem d_Rd_readApplied_66 : decode b_Rd_readApplied 66 = .ok (.getfield 23, 3) := by decide +kernel
theorem d_Rd_readApplied_69 : decode b_Rd_readApplied 69 = .ok (.iload 6, 2) := by decide +kernel
theorem d_Rd_readApplied_71 : decode b_Rd_readApplied 71 = .ok (.invokevirtual 105, 3) := by decide +kernel
theorem d_Rd_readApplied_74 : decode b_Rd_readApplied 74 = .ok (.iload 4, 2) := by decide +kernel
theorem d_Rd_readApplied_76 : decode b_Rd_readApplied 76 = .ok (.if_icmp .ne 12, 3) := by decide +kernel
theorem d_Rd_readApplied_79 : decode b_Rd_readApplied 79 = .ok (.aload_n 0, 1) := by decide +kernel
theorem d_Rd_readApplied_80 : decode b_Rd_readApplied 80 = .ok (.bipush 41, 2) := by decide +kernel
theorem d_Rd_readApplied_82 : decode b_Rd_readApplied 82 = .ok (.invokevirtual 85, 3) := by decide +kernel
theorem d_Rd_readApplied_85 : decode b_Rd_readApplied 85 = .ok (.ifCond .ne 5, 3) := by decide +kernel
theorem d_Rd_readApplied_88 : decode b_Rd_readApplied 88 = .ok (.iconst (-1), 1) := by decide +kernel
theorem d_Rd_readApplied_89 : decode b_Rd_readApplied 89 = .ok (.ireturn, 1) := by decide +kernel
theorem d_Rd_readApplied_90 : decode b_Rd_readApplied 90 = .ok (.aload_n 0, 1) := by decide +kernel
theorem d_Rd_readApplied_91 : decode b_Rd_readApplied 91 = .ok (.getfield 23, 3) := by decide +kernel
theorem d_Rd_readApplied_94 : decode b_Rd_readApplied 94 = .ok (.iconst 0, 1) := by decide +kernel
theorem d_Rd_readApplied_95 : decode b_Rd_readApplied 95 = .ok (.aload_n 0, 1) := by decide +kernel
theorem d_Rd_readApplied_96 : decode b_Rd_readApplied 96 = .ok (.getfield 19, 3) := by decide +kernel
theorem d_Rd_readApplied_99 : decode b_Rd_readApplied 99 = .ok (.iload_n 1, 1) := by decide +kernel
theorem d_Rd_readApplied_100 : decode b_Rd_readApplied 100 = .ok (.invokevirtual 71, 3) := by decide +kernel
theorem d_Rd_readApplied_103 : decode b_Rd_readApplied 103 = .ok (.iload_n 1, 1) := by decide +kernel
theorem d_Rd_readApplied_104 : decode b_Rd_readApplied 104 = .ok (.iload 5, 2) := by decide +kernel
theorem d_Rd_readApplied_106 : decode b_Rd_readApplied 106 = .ok (.iload 6, 2) := by decide +kernel
theorem d_Rd_readApplied_108 : decode b_Rd_readApplied 108 = .ok (.invokevirtual 55, 3) := by decide +kernel
theorem d_Rd_readApplied_111 : decode b_Rd_readApplied 111 = .ok (.ireturn, 1) := by decide +kernel
def f_Rd_readApplied_88 (RF : Int32 → St → Int32 × St) (σ : St) : Int32 × St := ((-1), σ)
def k_Rd_readApplied_88 (RF : Int32 → St → Int32 × St) (RK : Int32 → St → Prop) (σ : St) : Prop := True
def f_Rd_readApplied_111 (RF : Int32 → St → Int32 × St) (s0 : Int32) (σ : St) : Int32 × St := (s0, σ)
def k_Rd_readApplied_111 (RF : Int32 → St → Int32 × St) (RK : Int32 → St → Prop) (s0 : Int32) (σ : St) : Prop := True
def f_Rd_readApplied_85 (RF : Int32 → St → Int32 × St) (x1 : Int32) (x5 : Int32) (x6 : Int32) (s0 : Int32) (σ : St) : Int32 × St := if s0 = 0 then (f_Rd_readApplied_88 RF σ) else (f_Rd_readApplied_111 RF ((f_Te_make 0 (f_Sg_sortOfSymbol x1 σ) x1 x5 x6 σ).1) ((f_Te_make 0 (f_Sg_sortOfSymbol x1 σ) x1 x5 x6 σ).2))
def k_Rd_readApplied_85 (RF : Int32 → St → Int32 × St) (RK : Int32 → St → Prop) (x1 : Int32) (x5 : Int32) (x6 : Int32) (s0 : Int32) (σ : St) : Prop := (s0 = 0 → (k_Rd_readApplied_88 RF RK σ)) ∧ (¬ s0 = 0 → ((k_Sg_sortOfSymbol x1 σ) ∧ ((k_Te_make 0 (f_Sg_sortOfSymbol x1 σ) x1 x5 x6 σ) ∧ (k_Rd_readApplied_111 RF RK ((f_Te_make 0 (f_Sg_sortOfSymbol x1 σ) x1 x5 x6 σ).1) ((f_Te_make 0 (f_Sg_sortOfSymbol x1 σ) x1 x5 x6 σ).2)))))
def f_Rd_readApplied_65 (RF : Int32 → St → Int32 × St) (x1 : Int32) (x4 : Int32) (x5 : Int32) (x6 : Int32) (σ : St) : Int32 × St := if (f_Te_sortOf x6 σ) = x4 then (f_Rd_readApplied_85 RF x1 x5 x6 ((f_Rd_take 41 σ).1) ((f_Rd_take 41 σ).2)) else (f_Rd_readApplied_88 RF σ)
def k_Rd_readApplied_65 (RF : Int32 → St → Int32 × St) (RK : Int32 → St → Prop) (x1 : Int32) (x4 : Int32) (x5 : Int32) (x6 : Int32) (σ : St) : Prop := (k_Te_sortOf x6 σ) ∧ (((f_Te_sortOf x6 σ) = x4 → ((k_Rd_take 41 σ) ∧ (k_Rd_readApplied_85 RF RK x1 x5 x6 ((f_Rd_take 41 σ).1) ((f_Rd_take 41 σ).2)))) ∧ (¬ (f_Te_sortOf x6 σ) = x4 → (k_Rd_readApplied_88 RF RK σ)))
def f_Rd_readApplied_63 (RF : Int32 → St → Int32 × St) (x1 : Int32) (x4 : Int32) (x5 : Int32) (s0 : Int32) (σ : St) : Int32 × St := f_Rd_readApplied_65 RF x1 x4 x5 s0 σ
def k_Rd_readApplied_63 (RF : Int32 → St → Int32 × St) (RK : Int32 → St → Prop) (x1 : Int32) (x4 : Int32) (x5 : Int32) (s0 : Int32) (σ : St) : Prop := k_Rd_readApplied_65 RF RK x1 x4 x5 s0 σ
def f_Rd_readApplied_33 (RF : Int32 → St → Int32 × St) (x1 : Int32) (x2 : Int32) (x3 : Int32) (x4 : Int32) (x5 : Int32) (σ : St) : Int32 × St := if (f_Te_sortOf x5 σ) = x3 then (if x4 = (-1) then (f_Rd_readApplied_63 RF x1 x4 x5 (-1) σ) else (f_Rd_readApplied_63 RF x1 x4 x5 ((f_Rd_readPart RF x2 σ).1) ((f_Rd_readPart RF x2 σ).2))) else ((-1), σ)
def k_Rd_readApplied_33 (RF : Int32 → St → Int32 × St) (RK : Int32 → St → Prop) (x1 : Int32) (x2 : Int32) (x3 : Int32) (x4 : Int32) (x5 : Int32) (σ : St) : Prop := (k_Te_sortOf x5 σ) ∧ (((f_Te_sortOf x5 σ) = x3 → ((x4 = (-1) → (k_Rd_readApplied_63 RF RK x1 x4 x5 (-1) σ)) ∧ (¬ x4 = (-1) → ((k_Rd_readPart RF RK x2 σ) ∧ (k_Rd_readApplied_63 RF RK x1 x4 x5 ((f_Rd_readPart RF x2 σ).1) ((f_Rd_readPart RF x2 σ).2)))))) ∧ (¬ (f_Te_sortOf x5 σ) = x3 → True))
def f_Rd_readApplied_31 (RF : Int32 → St → Int32 × St) (x1 : Int32) (x2 : Int32) (x3 : Int32) (x4 : Int32) (s0 : Int32) (σ : St) : Int32 × St := f_Rd_readApplied_33 RF x1 x2 x3 x4 s0 σ
def k_Rd_readApplied_31 (RF : Int32 → St → Int32 × St) (RK : Int32 → St → Prop) (x1 : Int32) (x2 : Int32) (x3 : Int32) (x4 : Int32) (s0 : Int32) (σ : St) : Prop := k_Rd_readApplied_33 RF RK x1 x2 x3 x4 s0 σ
def f_Rd_readApplied_19 (RF : Int32 → St → Int32 × St) (x1 : Int32) (x2 : Int32) (x3 : Int32) (x4 : Int32) (σ : St) : Int32 × St := if x3 = (-1) then ((-1), σ) else (f_Rd_readApplied_31 RF x1 x2 x3 x4 ((f_Rd_readPart RF x2 σ).1) ((f_Rd_readPart RF x2 σ).2))
def k_Rd_readApplied_19 (RF : Int32 → St → Int32 × St) (RK : Int32 → St → Prop) (x1 : Int32) (x2 : Int32) (x3 : Int32) (x4 : Int32) (σ : St) : Prop := (x3 = (-1) → True) ∧ (¬ x3 = (-1) → ((k_Rd_readPart RF RK x2 σ) ∧ (k_Rd_readApplied_31 RF RK x1 x2 x3 x4 ((f_Rd_readPart RF x2 σ).1) ((f_Rd_readPart RF x2 σ).2))))
def f_Rd_readApplied_9 (RF : Int32 → St → Int32 × St) (x1 : Int32) (x2 : Int32) (x3 : Int32) (σ : St) : Int32 × St := f_Rd_readApplied_19 RF x1 x2 x3 (f_Sg_secondOfSymbol x1 σ) σ
def k_Rd_readApplied_9 (RF : Int32 → St → Int32 × St) (RK : Int32 → St → Prop) (x1 : Int32) (x2 : Int32) (x3 : Int32) (σ : St) : Prop := (k_Sg_secondOfSymbol x1 σ) ∧ (k_Rd_readApplied_19 RF RK x1 x2 x3 (f_Sg_secondOfSymbol x1 σ) σ)
def f_Rd_readApplied (RF : Int32 → St → Int32 × St) (a1 : Int32) (a2 : Int32) (σ : St) : Int32 × St := f_Rd_readApplied_9 RF a1 a2 (f_Sg_firstOfSymbol a1 σ) σ
def k_Rd_readApplied (RF : Int32 → St → Int32 × St) (RK : Int32 → St → Prop) (a1 : Int32) (a2 : Int32) (σ : St) : Prop := (k_Sg_firstOfSymbol a1 σ) ∧ (k_Rd_readApplied_9 RF RK a1 a2 (f_Sg_firstOfSymbol a1 σ) σ)
set_option maxHeartbeats 4000000 in
set_option maxRecDepth 100000 in
theorem c_Rd_readApplied (l : Launch) (D : va_G) (ty : Nat → ClassId) (h : Nat → Nat) (px : va_W) (sa : Nat → Nat) (d : Nat) (RF : Int32 → St → Int32 × St) (RK : Int32 → St → Prop) (hR : ∀ (σ : St) (sz : Nat) (b0 : Int32), RK b0 σ → Met l y_Rd_readAny w_Rd_readAny (rk_Rd_readAny d) (va_Pc [.ref (h 20), .int b0] (fun U => U.heap.size = sz ∧ va_P D classes (Wc ty h σ px) U.heap ∧ va_K D classes (Ta ty) U ∧ NW U ∧ MK sa (va_A (Wc ty h σ px) sz) U U.heap ∧ va_D (fun _ => True) (Wc ty h σ px))) (va_Qi (fun r (u : St) => (r, u) = RF b0 σ) (fun u t => va_P D classes (Wc ty h u px) t.heap) (va_A (Wc ty h σ px) sz)) 0 0 (va_A (Wc ty h σ px) sz)) (σ : St) (sz : Nat) (a1 : Int32) (a2 : Int32) (hk : k_Rd_readApplied RF RK a1 a2 σ) : Met l y_Rd_readApplied w_Rd_readApplied (rm_Rd_readApplied d) (va_Pc [.ref (h 20), .int a1, .int a2] (fun U => U.heap.size = sz ∧ va_P D classes (Wc ty h σ px) U.heap ∧ va_K D classes (Ta ty) U ∧ NW U ∧ MK sa (va_A (Wc ty h σ px) sz) U U.heap ∧ va_D (fun _ => True) (Wc ty h σ px))) (va_Qi (fun r (u : St) => (r, u) = f_Rd_readApplied RF a1 a2 σ) (fun u t => va_P D classes (Wc ty h u px) t.heap) (va_A (Wc ty h σ px) sz)) 0 0 (va_A (Wc ty h σ px) sz) := by
  refine Met.ofW (cc := b_Rd_readApplied) (maxL := 7) (ret := (some .int)) (by decide) rfl ?_
  intro p e s m args below meth c s₁ B hml hv
  obtain ⟨ha, hsz, hP, hK, hN, hM, hD0⟩ := hv
  have hx := B.exec
  have hb := B.bytes
  have hr := B.returns
  have hg : ∀ w ∈ gw, w.before args s = true := fun w h9 => atoms_spec (ws := w_Rd_readApplied) B.pre w (List.mem_cons_of_mem _ h9)
  have hown : s.vm.findClass "ClauseLedger$Reader" = some m.cls := findClass_of_methodNamed B.named
  have hlocks := B.notSynchronized
  subst hsz
  have hD := hD0.self (sz := s.heap.size)
  generalize hAe : va_A (Wc ty h σ px) s.heap.size = A at hD hM ⊢
  have hA : ∀ q : Nat, s.heap.size ≤ q → A q := fun q h9 => by rw [← hAe]; exact Or.inr h9
  have hS : va_S A s.heap s.heap [] := va_S.rf
  have he : entryFrame m args 7 = entryFrame m ([.ref (h 20), .int a1, .int a2] : List Value).toArray 7 := by rw [ha]
  rw [he, lg_entry_eq]
  have hl := lv_entry ([.ref (h 20), .int a1, .int a2]) (n := 7) (Nat.le_of_ble_eq_true rfl)
  generalize (lg_sl ([.ref (h 20), .int a1, .int a2]) ++ List.replicate (7 - (lg_sl ([.ref (h 20), .int a1, .int a2])).length) Slot.unset).toArray = ls at hl ⊢
  have hl : lv_has ls 7 [(0, .ref (h 20)), (1, .int a1), (2, .int a2)] := hl
  generalize hv : f_Rd_readApplied RF a1 a2 σ = v
  replace hv := hv.symm
  have B88 : ∀ (H : Heap) (locs : List Loc) (ls : Array Slot) (σ : St), v = f_Rd_readApplied_88 RF σ → k_Rd_readApplied_88 RF RK σ → lv_has ls 7 [] → va_P D classes (Wc ty h σ px) H → va_D A (Wc ty h σ px) → va_S A s.heap H locs → W p l e (headSpec w_Rd_readApplied (rm_Rd_readApplied d)).room s m args below meth c H locs 0 0 (MQ below (va_Qi (fun r (u : St) => (r, u) = v) (fun u t => va_P D classes (Wc ty h u px) t.heap) A) args s 0 0 A) (F0 m 88 ls []) := by
    intro H locs ls σ hv hk hl hP hD hS
    unfold f_Rd_readApplied_88 at hv
    unfold k_Rd_readApplied_88 at hk
    refine lv_iconst (v := -1) hx hb d_Rd_readApplied_88 (by decide) ?_
    exact W.iret hx hb hr (fun t ht hW => ⟨⟨_, _, rfl, hv.symm, by dsimp only; rw [ht]; exact hP⟩, hS.F ht⟩) hS.2.2 d_Rd_readApplied_89
  have B111 : ∀ (H : Heap) (locs : List Loc) (ls : Array Slot) (s0 : Int32) (σ : St), v = f_Rd_readApplied_111 RF s0 σ → k_Rd_readApplied_111 RF RK s0 σ → lv_has ls 7 [] → va_P D classes (Wc ty h σ px) H → va_D A (Wc ty h σ px) → va_S A s.heap H locs → W p l e (headSpec w_Rd_readApplied (rm_Rd_readApplied d)).room s m args below meth c H locs 0 0 (MQ below (va_Qi (fun r (u : St) => (r, u) = v) (fun u t => va_P D classes (Wc ty h u px) t.heap) A) args s 0 0 A) (F0 m 111 ls [.int s0]) := by
    intro H locs ls s0 σ hv hk hl hP hD hS
    unfold f_Rd_readApplied_111 at hv
    unfold k_Rd_readApplied_111 at hk
    exact W.iret hx hb hr (fun t ht hW => ⟨⟨_, _, rfl, hv.symm, by dsimp only; rw [ht]; exact hP⟩, hS.F ht⟩) hS.2.2 d_Rd_readApplied_111
  have B85 : ∀ (H : Heap) (locs : List Loc) (ls : Array Slot) (x1 : Int32) (x5 : Int32) (x6 : Int32) (s0 : Int32) (σ : St), v = f_Rd_readApplied_85 RF x1 x5 x6 s0 σ → k_Rd_readApplied_85 RF RK x1 x5 x6 s0 σ → lv_has ls 7 [(0, .ref (h 20)), (1, .int x1), (5, .int x5), (6, .int x6)] → va_P D classes (Wc ty h σ px) H → va_D A (Wc ty h σ px) → va_S A s.heap H locs → W p l e (headSpec w_Rd_readApplied (rm_Rd_readApplied d)).room s m args below meth c H locs 0 0 (MQ below (va_Qi (fun r (u : St) => (r, u) = v) (fun u t => va_P D classes (Wc ty h u px) t.heap) A) args s 0 0 A) (F0 m 85 ls [.int s0]) := by
    intro H locs ls x1 x5 x6 s0 σ hv hk hl hP hD hS
    unfold f_Rd_readApplied_85 at hv
    unfold k_Rd_readApplied_85 at hk
    refine lv_if_ne (tgt := 90) hx hb d_Rd_readApplied_85 (by decide) (fun hc => ?_) (fun hc => ?_)
    · have hv := hv.trans (if_neg hc)
      have hk := hk.2 hc
      refine lv_aload_n hx hb d_Rd_readApplied_90 rfl (lv_at hl 0 rfl) ?_
      refine va_get (v := .ref (h 6)) (C := R_Rd) (T := T_Rd) (N := 4) hx hb hg in_Rd hown hK hP 20 rfl rfl 2 (by decide) (hg _ m_135) (fun _ h9 => h9) rfl d_Rd_readApplied_91 ?_
      refine lv_iconst (v := 0) hx hb d_Rd_readApplied_94 (by decide) ?_
      refine lv_aload_n hx hb d_Rd_readApplied_95 rfl (lv_at hl 0 rfl) ?_
      refine va_get (v := .ref (h 1)) (C := R_Rd) (T := T_Rd) (N := 4) hx hb hg in_Rd hown hK hP 20 rfl rfl 1 (by decide) (hg _ m_134) (fun _ h9 => h9) rfl d_Rd_readApplied_96 ?_
      refine lv_iload_n hx hb d_Rd_readApplied_99 rfl (lv_at hl 1 rfl) ?_
      obtain ⟨hk0, hk⟩ := hk
      refine zz_callV (va_runV (As := [.int x1]) (rest := [.int 0, .ref (h 6)]) ⟨hx, hb, hml, hown, hg⟩ (c_Sg_sortOfSymbol l D ty h px sa σ x1 hk0) ⟨callB_of 1 hg (gw_C m_616) rfl rfl rfl (hg _ m_2) (hg _ m_613) hd_Sg_sortOfSymbol ⟨(by simp only [headSpec, rm_Rd_readApplied, rm_Sg_sortOfSymbol]; omega), (by simp only [headSpec, rm_Rd_readApplied, rm_Sg_sortOfSymbol]; omega)⟩, hg _ m_614, hg _ m_615⟩ (zz_preV (hM.at hS) hN hK hP 1 rfl rfl) rfl rfl hl.1 rfl (lv_room (Nat.le_of_ble_eq_true rfl)) d_Rd_readApplied_100 ⟨Nat.le_of_ble_eq_true rfl, Nat.le_of_ble_eq_true rfl⟩) ?_
      refine lv_iload_n hx hb d_Rd_readApplied_103 rfl (lv_at hl 1 rfl) ?_
      refine lv_iload hx hb d_Rd_readApplied_104 (lv_at hl 2 rfl) ?_
      refine lv_iload hx hb d_Rd_readApplied_106 (lv_at hl 3 rfl) ?_
      obtain ⟨hk0, hk⟩ := hk
      refine va_calli (va_runV (As := [.int 0, .int (f_Sg_sortOfSymbol x1 σ), .int x1, .int x5, .int x6]) (rest := []) ⟨hx, hb, hml, hown, hg⟩ (c_Te_make l D ty h px sa σ H.size 0 (f_Sg_sortOfSymbol x1 σ) x1 x5 x6 hk0) ⟨callB_of 5 hg (gw_C m_620) rfl rfl rfl (hg _ m_3) (hg _ m_617) hd_Te_make ⟨(by simp only [headSpec, rm_Rd_readApplied, rm_Te_make]; omega), (by simp only [headSpec, rm_Rd_readApplied, rm_Te_make]; omega)⟩, hg _ m_618, hg _ m_619⟩ (zz_preVW hM hS hA hN hK hP hD 6 rfl rfl) rfl rfl hl.1 rfl (lv_room (Nat.le_of_ble_eq_true rfl)) d_Rd_readApplied_108 ⟨Nat.le_of_ble_eq_true rfl, Nat.le_of_ble_eq_true rfl⟩) hS (fun q _ h => zz_free hD hS hA q h) (zz_free hD hS hA) (fun r108 u108 t H locs ht hvm hp hP1 hz hk1 hS => ?_)
      rw [ht] at hP1
      rw [← hp] at hv hk
      have hD : va_D A (Wc ty h u108 px) := zz_D hD rfl
      have hP := hP1
      exact B111 _ _ _ r108 u108 hv hk (lv_sub hl [] rfl) hP hD hS
    · have hv := hv.trans (if_pos hc)
      have hk := hk.1 hc
      exact B88 _ _ _  σ hv hk (lv_sub hl [] rfl) hP hD hS
  have B65 : ∀ (H : Heap) (locs : List Loc) (ls : Array Slot) (x1 : Int32) (x4 : Int32) (x5 : Int32) (x6 : Int32) (σ : St), v = f_Rd_readApplied_65 RF x1 x4 x5 x6 σ → k_Rd_readApplied_65 RF RK x1 x4 x5 x6 σ → lv_has ls 7 [(0, .ref (h 20)), (1, .int x1), (4, .int x4), (5, .int x5), (6, .int x6)] → va_P D classes (Wc ty h σ px) H → va_D A (Wc ty h σ px) → va_S A s.heap H locs → W p l e (headSpec w_Rd_readApplied (rm_Rd_readApplied d)).room s m args below meth c H locs 0 0 (MQ below (va_Qi (fun r (u : St) => (r, u) = v) (fun u t => va_P D classes (Wc ty h u px) t.heap) A) args s 0 0 A) (F0 m 65 ls []) := by
    intro H locs ls x1 x4 x5 x6 σ hv hk hl hP hD hS
    unfold f_Rd_readApplied_65 at hv
    unfold k_Rd_readApplied_65 at hk
    refine lv_aload_n hx hb d_Rd_readApplied_65 rfl (lv_at hl 0 rfl) ?_
    refine va_get (v := .ref (h 6)) (C := R_Rd) (T := T_Rd) (N := 4) hx hb hg in_Rd hown hK hP 20 rfl rfl 2 (by decide) (hg _ m_135) (fun _ h9 => h9) rfl d_Rd_readApplied_66 ?_
    refine lv_iload hx hb d_Rd_readApplied_69 (lv_at hl 4 rfl) ?_
    obtain ⟨hk0, hk⟩ := hk
    refine zz_callV (va_runV (As := [.int x6]) (rest := []) ⟨hx, hb, hml, hown, hg⟩ (c_Te_sortOf l D ty h px sa σ x6 hk0) ⟨callB_of 1 hg (gw_C m_439) rfl rfl rfl (hg _ m_3) (hg _ m_612) hd_Te_sortOf ⟨(by simp only [headSpec, rm_Rd_readApplied, rm_Te_sortOf]; omega), (by simp only [headSpec, rm_Rd_readApplied, rm_Te_sortOf]; omega)⟩, hg _ m_437, hg _ m_438⟩ (zz_preV (hM.at hS) hN hK hP 6 rfl rfl) rfl rfl hl.1 rfl (lv_room (Nat.le_of_ble_eq_true rfl)) d_Rd_readApplied_71 ⟨Nat.le_of_ble_eq_true rfl, Nat.le_of_ble_eq_true rfl⟩) ?_
    refine lv_iload hx hb d_Rd_readApplied_74 (lv_at hl 2 rfl) ?_
    refine lv_icmp_ne (tgt := 88) hx hb d_Rd_readApplied_76 (by decide) (fun hc => ?_) (fun hc => ?_)
    · have hv := hv.trans (if_neg hc)
      have hk := hk.2 hc
      exact B88 _ _ _  σ hv hk (lv_sub hl [] rfl) hP hD hS
    · have hv := hv.trans (if_pos hc)
      have hk := hk.1 hc
      refine lv_aload_n hx hb d_Rd_readApplied_79 rfl (lv_at hl 0 rfl) ?_
      refine lv_bipush (v := 41) hx hb d_Rd_readApplied_80 (by decide) ?_
      obtain ⟨hk0, hk⟩ := hk
      refine va_calli (va_runV (As := [.int 41]) (rest := []) ⟨hx, hb, hml, hown, hg⟩ (c_Rd_take l D ty h px sa σ H.size 41 hk0) ⟨callB_of 1 hg (gw_C m_611) rfl rfl rfl (hg _ m_5) (hg _ m_608) hd_Rd_take ⟨(by simp only [headSpec, rm_Rd_readApplied, rm_Rd_take]; omega), (by simp only [headSpec, rm_Rd_readApplied, rm_Rd_take]; omega)⟩, hg _ m_610, hg _ ms_13⟩ (zz_preVW hM hS hA hN hK hP hD 20 rfl rfl) rfl rfl hl.1 rfl (lv_room (Nat.le_of_ble_eq_true rfl)) d_Rd_readApplied_82 ⟨Nat.le_of_ble_eq_true rfl, Nat.le_of_ble_eq_true rfl⟩) hS (fun q _ h => zz_free hD hS hA q h) (zz_free hD hS hA) (fun r82 u82 t H locs ht hvm hp hP1 hz hk1 hS => ?_)
      rw [ht] at hP1
      rw [← hp] at hv hk
      have hD : va_D A (Wc ty h u82 px) := zz_D hD rfl
      have hP := hP1
      exact B85 _ _ _ x1 x5 x6 r82 u82 hv hk (lv_sub hl [0, 1, 3, 4] rfl) hP hD hS
  have B63 : ∀ (H : Heap) (locs : List Loc) (ls : Array Slot) (x1 : Int32) (x4 : Int32) (x5 : Int32) (s0 : Int32) (σ : St), v = f_Rd_readApplied_63 RF x1 x4 x5 s0 σ → k_Rd_readApplied_63 RF RK x1 x4 x5 s0 σ → lv_has ls 7 [(0, .ref (h 20)), (1, .int x1), (4, .int x4), (5, .int x5)] → va_P D classes (Wc ty h σ px) H → va_D A (Wc ty h σ px) → va_S A s.heap H locs → W p l e (headSpec w_Rd_readApplied (rm_Rd_readApplied d)).room s m args below meth c H locs 0 0 (MQ below (va_Qi (fun r (u : St) => (r, u) = v) (fun u t => va_P D classes (Wc ty h u px) t.heap) A) args s 0 0 A) (F0 m 63 ls [.int s0]) := by
    intro H locs ls x1 x4 x5 s0 σ hv hk hl hP hD hS
    unfold f_Rd_readApplied_63 at hv
    unfold k_Rd_readApplied_63 at hk
    refine lv_istore (lv' := [(6, .int s0), (0, .ref (h 20)), (1, .int x1), (4, .int x4), (5, .int x5)]) hx hb d_Rd_readApplied_63 hl (by decide) rfl (fun ls hl => ?_)
    exact B65 _ _ _ x1 x4 x5 s0 σ hv hk (lv_sub hl [1, 2, 3, 4, 0] rfl) hP hD hS
  have B33 : ∀ (H : Heap) (locs : List Loc) (ls : Array Slot) (x1 : Int32) (x2 : Int32) (x3 : Int32) (x4 : Int32) (x5 : Int32) (σ : St), v = f_Rd_readApplied_33 RF x1 x2 x3 x4 x5 σ → k_Rd_readApplied_33 RF RK x1 x2 x3 x4 x5 σ → lv_has ls 7 [(0, .ref (h 20)), (1, .int x1), (2, .int x2), (3, .int x3), (4, .int x4), (5, .int x5)] → va_P D classes (Wc ty h σ px) H → va_D A (Wc ty h σ px) → va_S A s.heap H locs → W p l e (headSpec w_Rd_readApplied (rm_Rd_readApplied d)).room s m args below meth c H locs 0 0 (MQ below (va_Qi (fun r (u : St) => (r, u) = v) (fun u t => va_P D classes (Wc ty h u px) t.heap) A) args s 0 0 A) (F0 m 33 ls []) := by
    intro H locs ls x1 x2 x3 x4 x5 σ hv hk hl hP hD hS
    unfold f_Rd_readApplied_33 at hv
    unfold k_Rd_readApplied_33 at hk
    refine lv_aload_n hx hb d_Rd_readApplied_33 rfl (lv_at hl 0 rfl) ?_
    refine va_get (v := .ref (h 6)) (C := R_Rd) (T := T_Rd) (N := 4) hx hb hg in_Rd hown hK hP 20 rfl rfl 2 (by decide) (hg _ m_135) (fun _ h9 => h9) rfl d_Rd_readApplied_34 ?_
    refine lv_iload hx hb d_Rd_readApplied_37 (lv_at hl 5 rfl) ?_
    obtain ⟨hk0, hk⟩ := hk
    refine zz_callV (va_runV (As := [.int x5]) (rest := []) ⟨hx, hb, hml, hown, hg⟩ (c_Te_sortOf l D ty h px sa σ x5 hk0) ⟨callB_of 1 hg (gw_C m_439) rfl rfl rfl (hg _ m_3) (hg _ m_612) hd_Te_sortOf ⟨(by simp only [headSpec, rm_Rd_readApplied, rm_Te_sortOf]; omega), (by simp only [headSpec, rm_Rd_readApplied, rm_Te_sortOf]; omega)⟩, hg _ m_437, hg _ m_438⟩ (zz_preV (hM.at hS) hN hK hP 6 rfl rfl) rfl rfl hl.1 rfl (lv_room (Nat.le_of_ble_eq_true rfl)) d_Rd_readApplied_39 ⟨Nat.le_of_ble_eq_true rfl, Nat.le_of_ble_eq_true rfl⟩) ?_
    refine lv_iload_n hx hb d_Rd_readApplied_42 rfl (lv_at hl 3 rfl) ?_
    refine lv_icmp_eq (tgt := 48) hx hb d_Rd_readApplied_43 (by decide) (fun hc => ?_) (fun hc => ?_)
    · have hv := hv.trans (if_pos hc)
      have hk := hk.1 hc
      refine lv_iload hx hb d_Rd_readApplied_48 (lv_at hl 4 rfl) ?_
      refine lv_iconst (v := -1) hx hb d_Rd_readApplied_50 (by decide) ?_
      refine lv_icmp_ne (tgt := 58) hx hb d_Rd_readApplied_51 (by decide) (fun hc => ?_) (fun hc => ?_)
      · have hv := hv.trans (if_neg hc)
        have hk := hk.2 hc
        refine lv_aload_n hx hb d_Rd_readApplied_58 rfl (lv_at hl 0 rfl) ?_
        refine lv_iload_n hx hb d_Rd_readApplied_59 rfl (lv_at hl 2 rfl) ?_
        obtain ⟨hk0, hk⟩ := hk
        refine va_calli (va_runV (As := [.int x2]) (rest := []) ⟨hx, hb, hml, hown, hg⟩ (c_Rd_readPart l D ty h px sa d RF RK hR σ H.size x2 hk0) ⟨callB_of 1 hg (gw_C m_607) rfl rfl rfl (hg _ m_5) (hg _ m_604) hd_Rd_readPart ⟨(by simp only [headSpec, rm_Rd_readApplied, rm_Rd_readPart]; omega), (by simp only [headSpec, rm_Rd_readApplied, rm_Rd_readPart]; omega)⟩, hg _ m_606, hg _ ms_12⟩ (zz_preVW hM hS hA hN hK hP hD 20 rfl rfl) rfl rfl hl.1 rfl (lv_room (Nat.le_of_ble_eq_true rfl)) d_Rd_readApplied_60 ⟨Nat.le_of_ble_eq_true rfl, Nat.le_of_ble_eq_true rfl⟩) hS (fun q _ h => zz_free hD hS hA q h) (zz_free hD hS hA) (fun r60 u60 t H locs ht hvm hp hP1 hz hk1 hS => ?_)
        rw [ht] at hP1
        rw [← hp] at hv hk
        have hD : va_D A (Wc ty h u60 px) := zz_D hD rfl
        have hP := hP1
        exact B63 _ _ _ x1 x4 x5 r60 u60 hv hk (lv_sub hl [0, 1, 4, 5] rfl) hP hD hS
      · have hv := hv.trans (if_pos hc)
        have hk := hk.1 hc
        refine lv_iconst (v := -1) hx hb d_Rd_readApplied_54 (by decide) ?_
        refine lv_goto (tgt := 63) hx hb d_Rd_readApplied_55 (by decide) ?_
        exact B63 _ _ _ x1 x4 x5 (-1) σ hv hk (lv_sub hl [0, 1, 4, 5] rfl) hP hD hS
    · have hv := hv.trans (if_neg hc)
      have hk := hk.2 hc
      refine lv_iconst (v := -1) hx hb d_Rd_readApplied_46 (by decide) ?_
      exact W.iret hx hb hr (fun t ht hW => ⟨⟨_, _, rfl, hv.symm, by dsimp only; rw [ht]; exact hP⟩, hS.F ht⟩) hS.2.2 d_Rd_readApplied_47
  have B31 : ∀ (H : Heap) (locs : List Loc) (ls : Array Slot) (x1 : Int32) (x2 : Int32) (x3 : Int32) (x4 : Int32) (s0 : Int32) (σ : St), v = f_Rd_readApplied_31 RF x1 x2 x3 x4 s0 σ → k_Rd_readApplied_31 RF RK x1 x2 x3 x4 s0 σ → lv_has ls 7 [(0, .ref (h 20)), (1, .int x1), (2, .int x2), (3, .int x3), (4, .int x4)] → va_P D classes (Wc ty h σ px) H → va_D A (Wc ty h σ px) → va_S A s.heap H locs → W p l e (headSpec w_Rd_readApplied (rm_Rd_readApplied d)).room s m args below meth c H locs 0 0 (MQ below (va_Qi (fun r (u : St) => (r, u) = v) (fun u t => va_P D classes (Wc ty h u px) t.heap) A) args s 0 0 A) (F0 m 31 ls [.int s0]) := by
    intro H locs ls x1 x2 x3 x4 s0 σ hv hk hl hP hD hS
    unfold f_Rd_readApplied_31 at hv
    unfold k_Rd_readApplied_31 at hk
    refine lv_istore (lv' := [(5, .int s0), (0, .ref (h 20)), (1, .int x1), (2, .int x2), (3, .int x3), (4, .int x4)]) hx hb d_Rd_readApplied_31 hl (by decide) rfl (fun ls hl => ?_)
    exact B33 _ _ _ x1 x2 x3 x4 s0 σ hv hk (lv_sub hl [1, 2, 3, 4, 5, 0] rfl) hP hD hS
  have B19 : ∀ (H : Heap) (locs : List Loc) (ls : Array Slot) (x1 : Int32) (x2 : Int32) (x3 : Int32) (x4 : Int32) (σ : St), v = f_Rd_readApplied_19 RF x1 x2 x3 x4 σ → k_Rd_readApplied_19 RF RK x1 x2 x3 x4 σ → lv_has ls 7 [(0, .ref (h 20)), (1, .int x1), (2, .int x2), (3, .int x3), (4, .int x4)] → va_P D classes (Wc ty h σ px) H → va_D A (Wc ty h σ px) → va_S A s.heap H locs → W p l e (headSpec w_Rd_readApplied (rm_Rd_readApplied d)).room s m args below meth c H locs 0 0 (MQ below (va_Qi (fun r (u : St) => (r, u) = v) (fun u t => va_P D classes (Wc ty h u px) t.heap) A) args s 0 0 A) (F0 m 19 ls []) := by
    intro H locs ls x1 x2 x3 x4 σ hv hk hl hP hD hS
    unfold f_Rd_readApplied_19 at hv
    unfold k_Rd_readApplied_19 at hk
    refine lv_iload_n hx hb d_Rd_readApplied_19 rfl (lv_at hl 3 rfl) ?_
    refine lv_iconst (v := -1) hx hb d_Rd_readApplied_20 (by decide) ?_
    refine lv_icmp_ne (tgt := 26) hx hb d_Rd_readApplied_21 (by decide) (fun hc => ?_) (fun hc => ?_)
    · have hv := hv.trans (if_neg hc)
      have hk := hk.2 hc
      refine lv_aload_n hx hb d_Rd_readApplied_26 rfl (lv_at hl 0 rfl) ?_
      refine lv_iload_n hx hb d_Rd_readApplied_27 rfl (lv_at hl 2 rfl) ?_
      obtain ⟨hk0, hk⟩ := hk
      refine va_calli (va_runV (As := [.int x2]) (rest := []) ⟨hx, hb, hml, hown, hg⟩ (c_Rd_readPart l D ty h px sa d RF RK hR σ H.size x2 hk0) ⟨callB_of 1 hg (gw_C m_607) rfl rfl rfl (hg _ m_5) (hg _ m_604) hd_Rd_readPart ⟨(by simp only [headSpec, rm_Rd_readApplied, rm_Rd_readPart]; omega), (by simp only [headSpec, rm_Rd_readApplied, rm_Rd_readPart]; omega)⟩, hg _ m_606, hg _ ms_12⟩ (zz_preVW hM hS hA hN hK hP hD 20 rfl rfl) rfl rfl hl.1 rfl (lv_room (Nat.le_of_ble_eq_true rfl)) d_Rd_readApplied_28 ⟨Nat.le_of_ble_eq_true rfl, Nat.le_of_ble_eq_true rfl⟩) hS (fun q _ h => zz_free hD hS hA q h) (zz_free hD hS hA) (fun r28 u28 t H locs ht hvm hp hP1 hz hk1 hS => ?_)
      rw [ht] at hP1
      rw [← hp] at hv hk
      have hD : va_D A (Wc ty h u28 px) := zz_D hD rfl
      have hP := hP1
      exact B31 _ _ _ x1 x2 x3 x4 r28 u28 hv hk (lv_sub hl [0, 1, 2, 3, 4] rfl) hP hD hS
    · have hv := hv.trans (if_pos hc)
      have hk := hk.1 hc
      refine lv_iconst (v := -1) hx hb d_Rd_readApplied_24 (by decide) ?_
      exact W.iret hx hb hr (fun t ht hW => ⟨⟨_, _, rfl, hv.symm, by dsimp only; rw [ht]; exact hP⟩, hS.F ht⟩) hS.2.2 d_Rd_readApplied_25
  have B9 : ∀ (H : Heap) (locs : List Loc) (ls : Array Slot) (x1 : Int32) (x2 : Int32) (x3 : Int32) (σ : St), v = f_Rd_readApplied_9 RF x1 x2 x3 σ → k_Rd_readApplied_9 RF RK x1 x2 x3 σ → lv_has ls 7 [(0, .ref (h 20)), (1, .int x1), (2, .int x2), (3, .int x3)] → va_P D classes (Wc ty h σ px) H → va_D A (Wc ty h σ px) → va_S A s.heap H locs → W p l e (headSpec w_Rd_readApplied (rm_Rd_readApplied d)).room s m args below meth c H locs 0 0 (MQ below (va_Qi (fun r (u : St) => (r, u) = v) (fun u t => va_P D classes (Wc ty h u px) t.heap) A) args s 0 0 A) (F0 m 9 ls []) := by
    intro H locs ls x1 x2 x3 σ hv hk hl hP hD hS
    unfold f_Rd_readApplied_9 at hv
    unfold k_Rd_readApplied_9 at hk
    refine lv_aload_n hx hb d_Rd_readApplied_9 rfl (lv_at hl 0 rfl) ?_
    refine va_get (v := .ref (h 1)) (C := R_Rd) (T := T_Rd) (N := 4) hx hb hg in_Rd hown hK hP 20 rfl rfl 1 (by decide) (hg _ m_134) (fun _ h9 => h9) rfl d_Rd_readApplied_10 ?_
    refine lv_iload_n hx hb d_Rd_readApplied_13 rfl (lv_at hl 1 rfl) ?_
    obtain ⟨hk0, hk⟩ := hk
    refine zz_callV (va_runV (As := [.int x1]) (rest := []) ⟨hx, hb, hml, hown, hg⟩ (c_Sg_secondOfSymbol l D ty h px sa σ x1 hk0) ⟨callB_of 1 hg (gw_C m_603) rfl rfl rfl (hg _ m_2) (hg _ m_600) hd_Sg_secondOfSymbol ⟨(by simp only [headSpec, rm_Rd_readApplied, rm_Sg_secondOfSymbol]; omega), (by simp only [headSpec, rm_Rd_readApplied, rm_Sg_secondOfSymbol]; omega)⟩, hg _ m_601, hg _ m_602⟩ (zz_preV (hM.at hS) hN hK hP 1 rfl rfl) rfl rfl hl.1 rfl (lv_room (Nat.le_of_ble_eq_true rfl)) d_Rd_readApplied_14 ⟨Nat.le_of_ble_eq_true rfl, Nat.le_of_ble_eq_true rfl⟩) ?_
    refine lv_istore (lv' := [(4, .int (f_Sg_secondOfSymbol x1 σ)), (0, .ref (h 20)), (1, .int x1), (2, .int x2), (3, .int x3)]) hx hb d_Rd_readApplied_17 hl (by decide) rfl (fun ls hl => ?_)
    exact B19 _ _ _ x1 x2 x3 (f_Sg_secondOfSymbol x1 σ) σ hv hk (lv_sub hl [1, 2, 3, 4, 0] rfl) hP hD hS
  unfold f_Rd_readApplied at hv
  unfold k_Rd_readApplied at hk
  refine lv_aload_n hx hb d_Rd_readApplied_0 rfl (lv_at hl 0 rfl) ?_
  refine va_get (v := .ref (h 1)) (C := R_Rd) (T := T_Rd) (N := 4) hx hb hg in_Rd hown hK hP 20 rfl rfl 1 (by decide) (hg _ m_134) (fun _ h9 => h9) rfl d_Rd_readApplied_1 ?_
  refine lv_iload_n hx hb d_Rd_readApplied_4 rfl (lv_at hl 1 rfl) ?_
  obtain ⟨hk0, hk⟩ := hk
  refine zz_callV (va_runV (As := [.int a1]) (rest := []) ⟨hx, hb, hml, hown, hg⟩ (c_Sg_firstOfSymbol l D ty h px sa σ a1 hk0) ⟨callB_of 1 hg (gw_C m_595) rfl rfl rfl (hg _ m_2) (hg _ m_592) hd_Sg_firstOfSymbol ⟨(by simp only [headSpec, rm_Rd_readApplied, rm_Sg_firstOfSymbol]; omega), (by simp only [headSpec, rm_Rd_readApplied, rm_Sg_firstOfSymbol]; omega)⟩, hg _ m_593, hg _ m_594⟩ (zz_preV (hM.at hS) hN hK hP 1 rfl rfl) rfl rfl hl.1 rfl (lv_room (Nat.le_of_ble_eq_true rfl)) d_Rd_readApplied_5 ⟨Nat.le_of_ble_eq_true rfl, Nat.le_of_ble_eq_true rfl⟩) ?_
  refine lv_istore_n (lv' := [(3, .int (f_Sg_firstOfSymbol a1 σ)), (0, .ref (h 20)), (1, .int a1), (2, .int a2)]) hx hb d_Rd_readApplied_8 rfl hl (by decide) rfl (fun ls hl => ?_)
  exact B9 _ _ _ a1 a2 (f_Sg_firstOfSymbol a1 σ) σ hv hk (lv_sub hl [1, 2, 3, 0] rfl) hP hD hS

theorem d_Rd_readOverTruth_0 : decode b_Rd_readOverTruth 0 = .ok (.aload_n 0, 1) := by decide +kernel
theorem d_Rd_readOverTruth_1 : decode b_Rd_readOverTruth 1 = .ok (.iload_n 3, 1) := by decide +kernel
theorem d_Rd_readOverTruth_2 : decode b_Rd_readOverTruth 2 = .ok (.invokevirtual 102, 3) := by decide +kernel
theorem d_Rd_readOverTruth_5 : decode b_Rd_readOverTruth 5 = .ok (.istore 4, 2) := by decide +kernel
theorem d_Rd_readOverTruth_7 : decode b_Rd_readOverTruth 7 = .ok (.aload_n 0, 1) := by decide +kernel
theorem d_Rd_readOverTruth_8 : decode b_Rd_readOverTruth 8 = .ok (.getfield 23, 3) := by decide +kernel
theorem d_Rd_readOverTruth_11 : decode b_Rd_readOverTruth 11 = .ok (.iload 4, 2) := by decide +kernel
theorem d_Rd_readOverTruth_13 : decode b_Rd_readOverTruth 13 = .ok (.invokevirtual 108, 3) := by decide +kernel
theorem d_Rd_readOverTruth_16 : decode b_Rd_readOverTruth 16 = .ok (.ifCond .eq 12, 3) := by decide +kernel
theorem d_Rd_readOverTruth_19 : decode b_Rd_readOverTruth 19 = .ok (.aload_n 0, 1) := by decide +kernel
theorem d_Rd_readOverTruth_20 : decode b_Rd_readOverTruth 20 = .ok (.bipush 41, 2) := by decide +kernel
theorem d_Rd_readOverTruth_22 : decode b_Rd_readOverTruth 22 = .ok (.invokevirtual 85, 3) := by decide +kernel
theorem d_Rd_readOverTruth_25 : decode b_Rd_readOverTruth 25 = .ok (.ifCond .ne 5, 3) := by decide +kernel
theorem d_Rd_readOverTruth_28 : decode b_Rd_readOverTruth 28 = .ok (.iconst (-1), 1) := by decide +kernel
theorem d_Rd_readOverTruth_29 : decode b_Rd_readOverTruth 29 = .ok (.ireturn, 1) := by decide +kernel
theorem d_Rd_readOverTruth_30 : decode b_Rd_readOverTruth 30 = .ok (.aload_n 0, 1) := by decide +kernel
theorem d_Rd_readOverTruth_31 : decode b_Rd_readOverTruth 31 = .ok (.getfield 23, 3) := by decide +kernel
theorem d_Rd_readOverTruth_34 : decode b_Rd_readOverTruth 34 = .ok (.iload_n 1, 1) := by decide +kernel
theorem d_Rd_readOverTruth_35 : decode b_Rd_readOverTruth 35 = .ok (.iconst 0, 1) := by decide +kernel
theorem d_Rd_readOverTruth_36 : decode b_Rd_readOverTruth 36 = .ok (.iload_n 2, 1) := by decide +kernel
theorem d_Rd_readOverTruth_37 : decode b_Rd_readOverTruth 37 = .ok (.iload 4, 2) := by decide +kernel
theorem d_Rd_readOverTruth_39 : decode b_Rd_readOverTruth 39 = .ok (.iconst (-1), 1) := by decide +kernel
theorem d_Rd_readOverTruth_40 : decode b_Rd_readOverTruth 40 = .ok (.invokevirtual 55, 3) := by decide +kernel
theorem d_Rd_readOverTruth_43 : decode b_Rd_readOverTruth 43 = .ok (.ireturn, 1) := by decide +kernel
def f_Rd_readOverTruth_28 (RF : Int32 → St → Int32 × St) (σ : St) : Int32 × St := ((-1), σ)
def k_Rd_readOverTruth_28 (RF : Int32 → St → Int32 × St) (RK : Int32 → St → Prop) (σ : St) : Prop := True
def f_Rd_readOverTruth_43 (RF : Int32 → St → Int32 × St) (s0 : Int32) (σ : St) : Int32 × St := (s0, σ)
def k_Rd_readOverTruth_43 (RF : Int32 → St → Int32 × St) (RK : Int32 → St → Prop) (s0 : Int32) (σ : St) : Prop := True
def f_Rd_readOverTruth_25 (RF : Int32 → St → Int32 × St) (x1 : Int32) (x2 : Int32) (x4 : Int32) (s0 : Int32) (σ : St) : Int32 × St := if s0 = 0 then (f_Rd_readOverTruth_28 RF σ) else (f_Rd_readOverTruth_43 RF ((f_Te_make x1 0 x2 x4 (-1) σ).1) ((f_Te_make x1 0 x2 x4 (-1) σ).2))
def k_Rd_readOverTruth_25 (RF : Int32 → St → Int32 × St) (RK : Int32 → St → Prop) (x1 : Int32) (x2 : Int32) (x4 : Int32) (s0 : Int32) (σ : St) : Prop := (s0 = 0 → (k_Rd_readOverTruth_28 RF RK σ)) ∧ (¬ s0 = 0 → ((k_Te_make x1 0 x2 x4 (-1) σ) ∧ (k_Rd_readOverTruth_43 RF RK ((f_Te_make x1 0 x2 x4 (-1) σ).1) ((f_Te_make x1 0 x2 x4 (-1) σ).2))))
def f_Rd_readOverTruth_7 (RF : Int32 → St → Int32 × St) (x1 : Int32) (x2 : Int32) (x4 : Int32) (σ : St) : Int32 × St := if (f_Te_isTruth x4 σ) = 0 then (f_Rd_readOverTruth_28 RF σ) else (f_Rd_readOverTruth_25 RF x1 x2 x4 ((f_Rd_take 41 σ).1) ((f_Rd_take 41 σ).2))
def k_Rd_readOverTruth_7 (RF : Int32 → St → Int32 × St) (RK : Int32 → St → Prop) (x1 : Int32) (x2 : Int32) (x4 : Int32) (σ : St) : Prop := (k_Te_isTruth x4 σ) ∧ (((f_Te_isTruth x4 σ) = 0 → (k_Rd_readOverTruth_28 RF RK σ)) ∧ (¬ (f_Te_isTruth x4 σ) = 0 → ((k_Rd_take 41 σ) ∧ (k_Rd_readOverTruth_25 RF RK x1 x2 x4 ((f_Rd_take 41 σ).1) ((f_Rd_take 41 σ).2)))))
def f_Rd_readOverTruth_5 (RF : Int32 → St → Int32 × St) (x1 : Int32) (x2 : Int32) (s0 : Int32) (σ : St) : Int32 × St := f_Rd_readOverTruth_7 RF x1 x2 s0 σ
def k_Rd_readOverTruth_5 (RF : Int32 → St → Int32 × St) (RK : Int32 → St → Prop) (x1 : Int32) (x2 : Int32) (s0 : Int32) (σ : St) : Prop := k_Rd_readOverTruth_7 RF RK x1 x2 s0 σ
def f_Rd_readOverTruth (RF : Int32 → St → Int32 × St) (a1 : Int32) (a2 : Int32) (a3 : Int32) (σ : St) : Int32 × St := f_Rd_readOverTruth_5 RF a1 a2 ((f_Rd_readPart RF a3 σ).1) ((f_Rd_readPart RF a3 σ).2)
def k_Rd_readOverTruth (RF : Int32 → St → Int32 × St) (RK : Int32 → St → Prop) (a1 : Int32) (a2 : Int32) (a3 : Int32) (σ : St) : Prop := (k_Rd_readPart RF RK a3 σ) ∧ (k_Rd_readOverTruth_5 RF RK a1 a2 ((f_Rd_readPart RF a3 σ).1) ((f_Rd_readPart RF a3 σ).2))
set_option maxHeartbeats 4000000 in
set_option maxRecDepth 100000 in
theorem c_Rd_readOverTruth (l : Launch) (D : va_G) (ty : Nat → ClassId) (h : Nat → Nat) (px : va_W) (sa : Nat → Nat) (d : Nat) (RF : Int32 → St → Int32 × St) (RK : Int32 → St → Prop) (hR : ∀ (σ : St) (sz : Nat) (b0 : Int32), RK b0 σ → Met l y_Rd_readAny w_Rd_readAny (rk_Rd_readAny d) (va_Pc [.ref (h 20), .int b0] (fun U => U.heap.size = sz ∧ va_P D classes (Wc ty h σ px) U.heap ∧ va_K D classes (Ta ty) U ∧ NW U ∧ MK sa (va_A (Wc ty h σ px) sz) U U.heap ∧ va_D (fun _ => True) (Wc ty h σ px))) (va_Qi (fun r (u : St) => (r, u) = RF b0 σ) (fun u t => va_P D classes (Wc ty h u px) t.heap) (va_A (Wc ty h σ px) sz)) 0 0 (va_A (Wc ty h σ px) sz)) (σ : St) (sz : Nat) (a1 : Int32) (a2 : Int32) (a3 : Int32) (hk : k_Rd_readOverTruth RF RK a1 a2 a3 σ) : Met l y_Rd_readOverTruth w_Rd_readOverTruth (rm_Rd_readOverTruth d) (va_Pc [.ref (h 20), .int a1, .int a2, .int a3] (fun U => U.heap.size = sz ∧ va_P D classes (Wc ty h σ px) U.heap ∧ va_K D classes (Ta ty) U ∧ NW U ∧ MK sa (va_A (Wc ty h σ px) sz) U U.heap ∧ va_D (fun _ => True) (Wc ty h σ px))) (va_Qi (fun r (u : St) => (r, u) = f_Rd_readOverTruth RF a1 a2 a3 σ) (fun u t => va_P D classes (Wc ty h u px) t.heap) (va_A (Wc ty h σ px) sz)) 0 0 (va_A (Wc ty h σ px) sz) := by
  refine Met.ofW (cc := b_Rd_readOverTruth) (maxL := 5) (ret := (some .int)) (by decide) rfl ?_
  intro p e s m args below meth c s₁ B hml hv
  obtain ⟨ha, hsz, hP, hK, hN, hM, hD0⟩ := hv
  have hx := B.exec
  have hb := B.bytes
  have hr := B.returns
  have hg : ∀ w ∈ gw, w.before args s = true := fun w h9 => atoms_spec (ws := w_Rd_readOverTruth) B.pre w (List.mem_cons_of_mem _ h9)
  have hown : s.vm.findClass "ClauseLedger$Reader" = some m.cls := findClass_of_methodNamed B.named
  have hlocks := B.notSynchronized
  subst hsz
  have hD := hD0.self (sz := s.heap.size)
  generalize hAe : va_A (Wc ty h σ px) s.heap.size = A at hD hM ⊢
  have hA : ∀ q : Nat, s.heap.size ≤ q → A q := fun q h9 => by rw [← hAe]; exact Or.inr h9
  have hS : va_S A s.heap s.heap [] := va_S.rf
  have he : entryFrame m args 5 = entryFrame m ([.ref (h 20), .int a1, .int a2, .int a3] : List Value).toArray 5 := by rw [ha]
  rw [he, lg_entry_eq]
  have hl := lv_entry ([.ref (h 20), .int a1, .int a2, .int a3]) (n := 5) (Nat.le_of_ble_eq_true rfl)
  generalize (lg_sl ([.ref (h 20), .int a1, .int a2, .int a3]) ++ List.replicate (5 - (lg_sl ([.ref (h 20), .int a1, .int a2, .int a3])).length) Slot.unset).toArray = ls at hl ⊢
  have hl : lv_has ls 5 [(0, .ref (h 20)), (1, .int a1), (2, .int a2), (3, .int a3)] := hl
  generalize hv : f_Rd_readOverTruth RF a1 a2 a3 σ = v
  replace hv := hv.symm
  have B28 : ∀ (H : Heap) (locs : List Loc) (ls : Array Slot) (σ : St), v = f_Rd_readOverTruth_28 RF σ → k_Rd_readOverTruth_28 RF RK σ → lv_has ls 5 [] → va_P D classes (Wc ty h σ px) H → va_D A (Wc ty h σ px) → va_S A s.heap H locs → W p l e (headSpec w_Rd_readOverTruth (rm_Rd_readOverTruth d)).room s m args below meth c H locs 0 0 (MQ below (va_Qi (fun r (u : St) => (r, u) = v) (fun u t => va_P D classes (Wc ty h u px) t.heap) A) args s 0 0 A) (F0 m 28 ls []) := by
    intro H locs ls σ hv hk hl hP hD hS
    unfold f_Rd_readOverTruth_28 at hv
    unfold k_Rd_readOverTruth_28 at hk
    refine lv_iconst (v := -1) hx hb d_Rd_readOverTruth_28 (by decide) ?_
    exact W.iret hx hb hr (fun t ht hW => ⟨⟨_, _, rfl, hv.symm, by dsimp only; rw [ht]; exact hP⟩, hS.F ht⟩) hS.2.2 d_Rd_readOverTruth_29
  have B43 : ∀ (H : Heap) (locs : List Loc) (ls : Array Slot) (s0 : Int32) (σ : St), v = f_Rd_readOverTruth_43 RF s0 σ → k_Rd_readOverTruth_43 RF RK s0 σ → lv_has ls 5 [] → va_P D classes (Wc ty h σ px) H → va_D A (Wc ty h σ px) → va_S A s.heap H locs → W p l e (headSpec w_Rd_readOverTruth (rm_Rd_readOverTruth d)).room s m args below meth c H locs 0 0 (MQ below (va_Qi (fun r (u : St) => (r, u) = v) (fun u t => va_P D classes (Wc ty h u px) t.heap) A) args s 0 0 A) (F0 m 43 ls [.int s0]) := by
    intro H locs ls s0 σ hv hk hl hP hD hS
    unfold f_Rd_readOverTruth_43 at hv
    unfold k_Rd_readOverTruth_43 at hk
    exact W.iret hx hb hr (fun t ht hW => ⟨⟨_, _, rfl, hv.symm, by dsimp only; rw [ht]; exact hP⟩, hS.F ht⟩) hS.2.2 d_Rd_readOverTruth_43
  have B25 : ∀ (H : Heap) (locs : List Loc) (ls : Array Slot) (x1 : Int32) (x2 : Int32) (x4 : Int32) (s0 : Int32) (σ : St), v = f_Rd_readOverTruth_25 RF x1 x2 x4 s0 σ → k_Rd_readOverTruth_25 RF RK x1 x2 x4 s0 σ → lv_has ls 5 [(0, .ref (h 20)), (1, .int x1), (2, .int x2), (4, .int x4)] → va_P D classes (Wc ty h σ px) H → va_D A (Wc ty h σ px) → va_S A s.heap H locs → W p l e (headSpec w_Rd_readOverTruth (rm_Rd_readOverTruth d)).room s m args below meth c H locs 0 0 (MQ below (va_Qi (fun r (u : St) => (r, u) = v) (fun u t => va_P D classes (Wc ty h u px) t.heap) A) args s 0 0 A) (F0 m 25 ls [.int s0]) := by
    intro H locs ls x1 x2 x4 s0 σ hv hk hl hP hD hS
    unfold f_Rd_readOverTruth_25 at hv
    unfold k_Rd_readOverTruth_25 at hk
    refine lv_if_ne (tgt := 30) hx hb d_Rd_readOverTruth_25 (by decide) (fun hc => ?_) (fun hc => ?_)
    · have hv := hv.trans (if_neg hc)
      have hk := hk.2 hc
      refine lv_aload_n hx hb d_Rd_readOverTruth_30 rfl (lv_at hl 0 rfl) ?_
      refine va_get (v := .ref (h 6)) (C := R_Rd) (T := T_Rd) (N := 4) hx hb hg in_Rd hown hK hP 20 rfl rfl 2 (by decide) (hg _ m_135) (fun _ h9 => h9) rfl d_Rd_readOverTruth_31 ?_
      refine lv_iload_n hx hb d_Rd_readOverTruth_34 rfl (lv_at hl 1 rfl) ?_
      refine lv_iconst (v := 0) hx hb d_Rd_readOverTruth_35 (by decide) ?_
      refine lv_iload_n hx hb d_Rd_readOverTruth_36 rfl (lv_at hl 2 rfl) ?_
      refine lv_iload hx hb d_Rd_readOverTruth_37 (lv_at hl 3 rfl) ?_
      refine lv_iconst (v := -1) hx hb d_Rd_readOverTruth_39 (by decide) ?_
      obtain ⟨hk0, hk⟩ := hk
      refine va_calli (va_runV (As := [.int x1, .int 0, .int x2, .int x4, .int (-1)]) (rest := []) ⟨hx, hb, hml, hown, hg⟩ (c_Te_make l D ty h px sa σ H.size x1 0 x2 x4 (-1) hk0) ⟨callB_of 5 hg (gw_C m_620) rfl rfl rfl (hg _ m_3) (hg _ m_617) hd_Te_make ⟨(by simp only [headSpec, rm_Rd_readOverTruth, rm_Te_make]; omega), (by simp only [headSpec, rm_Rd_readOverTruth, rm_Te_make]; omega)⟩, hg _ m_618, hg _ m_619⟩ (zz_preVW hM hS hA hN hK hP hD 6 rfl rfl) rfl rfl hl.1 rfl (lv_room (Nat.le_of_ble_eq_true rfl)) d_Rd_readOverTruth_40 ⟨Nat.le_of_ble_eq_true rfl, Nat.le_of_ble_eq_true rfl⟩) hS (fun q _ h => zz_free hD hS hA q h) (zz_free hD hS hA) (fun r40 u40 t H locs ht hvm hp hP1 hz hk1 hS => ?_)
      rw [ht] at hP1
      rw [← hp] at hv hk
      have hD : va_D A (Wc ty h u40 px) := zz_D hD rfl
      have hP := hP1
      exact B43 _ _ _ r40 u40 hv hk (lv_sub hl [] rfl) hP hD hS
    · have hv := hv.trans (if_pos hc)
      have hk := hk.1 hc
      exact B28 _ _ _  σ hv hk (lv_sub hl [] rfl) hP hD hS
  have B7 : ∀ (H : Heap) (locs : List Loc) (ls : Array Slot) (x1 : Int32) (x2 : Int32) (x4 : Int32) (σ : St), v = f_Rd_readOverTruth_7 RF x1 x2 x4 σ → k_Rd_readOverTruth_7 RF RK x1 x2 x4 σ → lv_has ls 5 [(0, .ref (h 20)), (1, .int x1), (2, .int x2), (4, .int x4)] → va_P D classes (Wc ty h σ px) H → va_D A (Wc ty h σ px) → va_S A s.heap H locs → W p l e (headSpec w_Rd_readOverTruth (rm_Rd_readOverTruth d)).room s m args below meth c H locs 0 0 (MQ below (va_Qi (fun r (u : St) => (r, u) = v) (fun u t => va_P D classes (Wc ty h u px) t.heap) A) args s 0 0 A) (F0 m 7 ls []) := by
    intro H locs ls x1 x2 x4 σ hv hk hl hP hD hS
    unfold f_Rd_readOverTruth_7 at hv
    unfold k_Rd_readOverTruth_7 at hk
    refine lv_aload_n hx hb d_Rd_readOverTruth_7 rfl (lv_at hl 0 rfl) ?_
    refine va_get (v := .ref (h 6)) (C := R_Rd) (T := T_Rd) (N := 4) hx hb hg in_Rd hown hK hP 20 rfl rfl 2 (by decide) (hg _ m_135) (fun _ h9 => h9) rfl d_Rd_readOverTruth_8 ?_
    refine lv_iload hx hb d_Rd_readOverTruth_11 (lv_at hl 3 rfl) ?_
    obtain ⟨hk0, hk⟩ := hk
    refine zz_callV (va_runV (As := [.int x4]) (rest := []) ⟨hx, hb, hml, hown, hg⟩ (c_Te_isTruth l D ty h px sa σ x4 hk0) ⟨callB_of 1 hg (gw_C m_661) rfl rfl rfl (hg _ m_3) (hg _ m_658) hd_Te_isTruth ⟨(by simp only [headSpec, rm_Rd_readOverTruth, rm_Te_isTruth]; omega), (by simp only [headSpec, rm_Rd_readOverTruth, rm_Te_isTruth]; omega)⟩, hg _ m_659, hg _ m_660⟩ (zz_preV (hM.at hS) hN hK hP 6 rfl rfl) rfl rfl hl.1 rfl (lv_room (Nat.le_of_ble_eq_true rfl)) d_Rd_readOverTruth_13 ⟨Nat.le_of_ble_eq_true rfl, Nat.le_of_ble_eq_true rfl⟩) ?_
    refine lv_if_eq (tgt := 28) hx hb d_Rd_readOverTruth_16 (by decide) (fun hc => ?_) (fun hc => ?_)
    · have hv := hv.trans (if_pos hc)
      have hk := hk.1 hc
      exact B28 _ _ _  σ hv hk (lv_sub hl [] rfl) hP hD hS
    · have hv := hv.trans (if_neg hc)
      have hk := hk.2 hc
      refine lv_aload_n hx hb d_Rd_readOverTruth_19 rfl (lv_at hl 0 rfl) ?_
      refine lv_bipush (v := 41) hx hb d_Rd_readOverTruth_20 (by decide) ?_
      obtain ⟨hk0, hk⟩ := hk
      refine va_calli (va_runV (As := [.int 41]) (rest := []) ⟨hx, hb, hml, hown, hg⟩ (c_Rd_take l D ty h px sa σ H.size 41 hk0) ⟨callB_of 1 hg (gw_C m_611) rfl rfl rfl (hg _ m_5) (hg _ m_608) hd_Rd_take ⟨(by simp only [headSpec, rm_Rd_readOverTruth, rm_Rd_take]; omega), (by simp only [headSpec, rm_Rd_readOverTruth, rm_Rd_take]; omega)⟩, hg _ m_610, hg _ ms_13⟩ (zz_preVW hM hS hA hN hK hP hD 20 rfl rfl) rfl rfl hl.1 rfl (lv_room (Nat.le_of_ble_eq_true rfl)) d_Rd_readOverTruth_22 ⟨Nat.le_of_ble_eq_true rfl, Nat.le_of_ble_eq_true rfl⟩) hS (fun q _ h => zz_free hD hS hA q h) (zz_free hD hS hA) (fun r22 u22 t H locs ht hvm hp hP1 hz hk1 hS => ?_)
      rw [ht] at hP1
      rw [← hp] at hv hk
      have hD : va_D A (Wc ty h u22 px) := zz_D hD rfl
      have hP := hP1
      exact B25 _ _ _ x1 x2 x4 r22 u22 hv hk (lv_sub hl [0, 1, 2, 3] rfl) hP hD hS
  have B5 : ∀ (H : Heap) (locs : List Loc) (ls : Array Slot) (x1 : Int32) (x2 : Int32) (s0 : Int32) (σ : St), v = f_Rd_readOverTruth_5 RF x1 x2 s0 σ → k_Rd_readOverTruth_5 RF RK x1 x2 s0 σ → lv_has ls 5 [(0, .ref (h 20)), (1, .int x1), (2, .int x2)] → va_P D classes (Wc ty h σ px) H → va_D A (Wc ty h σ px) → va_S A s.heap H locs → W p l e (headSpec w_Rd_readOverTruth (rm_Rd_readOverTruth d)).room s m args below meth c H locs 0 0 (MQ below (va_Qi (fun r (u : St) => (r, u) = v) (fun u t => va_P D classes (Wc ty h u px) t.heap) A) args s 0 0 A) (F0 m 5 ls [.int s0]) := by
    intro H locs ls x1 x2 s0 σ hv hk hl hP hD hS
    unfold f_Rd_readOverTruth_5 at hv
    unfold k_Rd_readOverTruth_5 at hk
    refine lv_istore (lv' := [(4, .int s0), (0, .ref (h 20)), (1, .int x1), (2, .int x2)]) hx hb d_Rd_readOverTruth_5 hl (by decide) rfl (fun ls hl => ?_)
    exact B7 _ _ _ x1 x2 s0 σ hv hk (lv_sub hl [1, 2, 3, 0] rfl) hP hD hS
  unfold f_Rd_readOverTruth at hv
  unfold k_Rd_readOverTruth at hk
  refine lv_aload_n hx hb d_Rd_readOverTruth_0 rfl (lv_at hl 0 rfl) ?_
  refine lv_iload_n hx hb d_Rd_readOverTruth_1 rfl (lv_at hl 3 rfl) ?_
  obtain ⟨hk0, hk⟩ := hk
  refine va_calli (va_runV (As := [.int a3]) (rest := []) ⟨hx, hb, hml, hown, hg⟩ (c_Rd_readPart l D ty h px sa d RF RK hR σ s.heap.size a3 hk0) ⟨callB_of 1 hg (gw_C m_607) rfl rfl rfl (hg _ m_5) (hg _ m_604) hd_Rd_readPart ⟨(by simp only [headSpec, rm_Rd_readOverTruth, rm_Rd_readPart]; omega), (by simp only [headSpec, rm_Rd_readOverTruth, rm_Rd_readPart]; omega)⟩, hg _ m_606, hg _ ms_12⟩ (zz_preVW hM hS hA hN hK hP hD 20 rfl rfl) rfl rfl hl.1 rfl (lv_room (Nat.le_of_ble_eq_true rfl)) d_Rd_readOverTruth_2 ⟨Nat.le_of_ble_eq_true rfl, Nat.le_of_ble_eq_true rfl⟩) hS (fun q _ h => zz_free hD hS hA q h) (zz_free hD hS hA) (fun r2 u2 t H locs ht hvm hp hP1 hz hk1 hS => ?_)
  rw [ht] at hP1
  rw [← hp] at hv hk
  have hD : va_D A (Wc ty h u2 px) := zz_D hD rfl
  have hP := hP1
  exact B5 _ _ _ a1 a2 r2 u2 hv hk (lv_sub hl [0, 1, 2] rfl) hP hD hS

theorem d_Rd_readOverTwo_0 : decode b_Rd_readOverTwo 0 = .ok (.aload_n 0, 1) := by decide +kernel
theorem d_Rd_readOverTwo_1 : decode b_Rd_readOverTwo 1 = .ok (.iload_n 2, 1) := by decide +kernel
theorem d_Rd_readOverTwo_2 : decode b_Rd_readOverTwo 2 = .ok (.invokevirtual 102, 3) := by decide +kernel
theorem d_Rd_readOverTwo_5 : decode b_Rd_readOverTwo 5 = .ok (.istore_n 3, 1) := by decide +kernel
theorem d_Rd_readOverTwo_6 : decode b_Rd_readOverTwo 6 = .ok (.iload_n 3, 1) := by decide +kernel
theorem d_Rd_readOverTwo_7 : decode b_Rd_readOverTwo 7 = .ok (.iconst (-1), 1) := by decide +kernel
theorem d_Rd_readOverTwo_8 : decode b_Rd_readOverTwo 8 = .ok (.if_icmp .ne 5, 3) := by decide +kernel
theorem d_Rd_readOverTwo_11 : decode b_Rd_readOverTwo 11 = .ok (.iconst (-1), 1) := by decide +kernel
theorem d_Rd_readOverTwo_12 : decode b_Rd_readOverTwo 12 = .ok (.ireturn, 1) := by decide +kernel
theorem d_Rd_readOverTwo_13 : decode b_Rd_readOverTwo 13 = .ok (.aload_n 0, 1) := by decide +kernel
theorem d_Rd_readOverTwo_14 : decode b_Rd_readOverTwo 14 = .ok (.iload_n 2, 1) := by decide +kernel
theorem d_Rd_readOverTwo_15 : decode b_Rd_readOverTwo 15 = .ok (.invokevirtual 102, 3) := by decide +kernel
theorem d_Rd_readOverTwo_18 : decode b_Rd_readOverTwo 18 = .ok (.istore 4, 2) := by decide +kernel
theorem d_Rd_readOverTwo_20 : decode b_Rd_readOverTwo 20 = .ok (.iload 4, 2) := by decide +kernel
theorem d_Rd_readOverTwo_22 : decode b_Rd_readOverTwo 22 = .ok (.iconst (-1), 1) := by decide +kernel
theorem d_Rd_readOverTwo_23 : decode b_Rd_readOverTwo 23 = .ok (.if_icmp .eq 23, 3) := by decide +kernel
theorem d_Rd_readOverTwo_26 : decode b_Rd_readOverTwo 26 = .ok (.aload_n 0, 1) := by decide +kernel
theorem d_Rd_readOverTwo_27 : decode b_Rd_readOverTwo 27 = .ok (.bipush 41, 2) := by decide +kernel
theorem d_Rd_readOverTwo_29 : decode b_Rd_readOverTwo 29 = .ok (.invokevirtual 85, 3) := by decide +kernel
theorem d_Rd_readOverTwo_32 : decode b_Rd_readOverTwo 32 = .ok (.ifCond .eq 14, 3) := by decide +kernel
theorem d_Rd_readOverTwo_35 : decode b_Rd_readOverTwo 35 = .ok (.aload_n 0, 1) := by decide +kernel
theorem d_Rd_readOverTwo_36 : decode b_Rd_readOverTwo 36 = .ok (.iload_n 1, 1) := by decide +kernel
theorem d_Rd_readOverTwo_37 : decode b_Rd_readOverTwo 37 = .ok (.iload_n 3, 1) := by decide +kernel
theorem d_Rd_readOverTwo_38 : decode b_Rd_readOverTwo 38 = .ok (.iload 4, 2) := by decide +kernel
theorem d_Rd_readOverTwo_40 : decode b_Rd_readOverTwo 40 = .ok (.invokevirtual 111, 3) := by decide +kernel
theorem d_Rd_readOverTwo_43 : decode b_Rd_readOverTwo 43 = .ok (.ifCond .ne 5, 3) := by decide +kernel
theorem d_Rd_readOverTwo_46 : decode b_Rd_readOverTwo 46 = .ok (.iconst (-1), 1) := by decide +kernel
theorem d_Rd_readOverTwo_47 : decode b_Rd_readOverTwo 47 = .ok (.ireturn, 1) := by decide +kernel
theorem d_Rd_readOverTwo_48 : decode b_Rd_readOverTwo 48 = .ok (.aload_n 0, 1) := by decide +kernel
theorem d_Rd_readOverTwo_49 : decode b_Rd_readOverTwo 49 = .ok (.getfield 23, 3) := by decide +kernel
theorem d_Rd_readOverTwo_52 : decode b_Rd_readOverTwo 52 = .ok (.iload_n 1, 1) := by decide +kernel
theorem d_Rd_readOverTwo_53 : decode b_Rd_readOverTwo 53 = .ok (.iload_n 1, 1) := by decide +kernel
theorem d_Rd_readOverTwo_54 : decode b_Rd_readOverTwo 54 = .ok (.iconst 4, 1) := by decide +kernel
theorem d_Rd_readOverTwo_55 : decode b_Rd_readOverTwo 55 = .ok (.if_icmp .gt 7, 3) := by decide +kernel
theorem d_Rd_readOverTwo_58 : decode b_Rd_readOverTwo 58 = .ok (.iconst 1, 1) := by decide +kernel
theorem d_Rd_readOverTwo_59 : decode b_Rd_readOverTwo 59 = .ok (.goto 4, 3) := by decide +kernel
theorem d_Rd_readOverTwo_62 : decode b_Rd_readOverTwo 62 = .ok (.iconst 0, 1) := by decide +kernel
theorem d_Rd_readOverTwo_63 : decode b_Rd_readOverTwo 63 = .ok (.iconst (-1), 1) := by decide +kernel
theorem d_Rd_readOverTwo_64 : decode b_Rd_readOverTwo 64 = .ok (.iload_n 3, 1) := by decide +kernel
theorem d_Rd_readOverTwo_65 : decode b_Rd_readOverTwo 65 = .ok (.iload 4, 2) := by decide +kernel
theorem d_Rd_readOverTwo_67 : decode b_Rd_readOverTwo 67 = .ok (.invokevirtual 55, 3) := by decide +kernel
theorem d_Rd_readOverTwo_70 : decode b_Rd_readOverTwo 70 = .ok (.ireturn, 1) := by decide +kernel
def f_Rd_readOverTwo_46 (RF : Int32 → St → Int32 × St) (σ : St) : Int32 × St := ((-1), σ)
def k_Rd_readOverTwo_46 (RF : Int32 → St → Int32 × St) (RK : Int32 → St → Prop) (σ : St) : Prop := True
def f_Rd_readOverTwo_70 (RF : Int32 → St → Int32 × St) (s0 : Int32) (σ : St) : Int32 × St := (s0, σ)
def k_Rd_readOverTwo_70 (RF : Int32 → St → Int32 × St) (RK : Int32 → St → Prop) (s0 : Int32) (σ : St) : Prop := True
def f_Rd_readOverTwo_63 (RF : Int32 → St → Int32 × St) (x3 : Int32) (x4 : Int32) (s0 : Int32) (s1 : Int32) (σ : St) : Int32 × St := f_Rd_readOverTwo_70 RF ((f_Te_make s1 s0 (-1) x3 x4 σ).1) ((f_Te_make s1 s0 (-1) x3 x4 σ).2)
def k_Rd_readOverTwo_63 (RF : Int32 → St → Int32 × St) (RK : Int32 → St → Prop) (x3 : Int32) (x4 : Int32) (s0 : Int32) (s1 : Int32) (σ : St) : Prop := (k_Te_make s1 s0 (-1) x3 x4 σ) ∧ (k_Rd_readOverTwo_70 RF RK ((f_Te_make s1 s0 (-1) x3 x4 σ).1) ((f_Te_make s1 s0 (-1) x3 x4 σ).2))
def f_Rd_readOverTwo_32 (RF : Int32 → St → Int32 × St) (x1 : Int32) (x3 : Int32) (x4 : Int32) (s0 : Int32) (σ : St) : Int32 × St := if s0 = 0 then (f_Rd_readOverTwo_46 RF σ) else (if (f_Rd_canBePartsOf x1 x3 x4 σ) = 0 then (f_Rd_readOverTwo_46 RF σ) else (if 4 < x1 then (f_Rd_readOverTwo_63 RF x3 x4 0 x1 σ) else (f_Rd_readOverTwo_63 RF x3 x4 1 x1 σ)))
def k_Rd_readOverTwo_32 (RF : Int32 → St → Int32 × St) (RK : Int32 → St → Prop) (x1 : Int32) (x3 : Int32) (x4 : Int32) (s0 : Int32) (σ : St) : Prop := (s0 = 0 → (k_Rd_readOverTwo_46 RF RK σ)) ∧ (¬ s0 = 0 → ((k_Rd_canBePartsOf x1 x3 x4 σ) ∧ (((f_Rd_canBePartsOf x1 x3 x4 σ) = 0 → (k_Rd_readOverTwo_46 RF RK σ)) ∧ (¬ (f_Rd_canBePartsOf x1 x3 x4 σ) = 0 → ((4 < x1 → (k_Rd_readOverTwo_63 RF RK x3 x4 0 x1 σ)) ∧ (¬ 4 < x1 → (k_Rd_readOverTwo_63 RF RK x3 x4 1 x1 σ)))))))
def f_Rd_readOverTwo_20 (RF : Int32 → St → Int32 × St) (x1 : Int32) (x3 : Int32) (x4 : Int32) (σ : St) : Int32 × St := if x4 = (-1) then (f_Rd_readOverTwo_46 RF σ) else (f_Rd_readOverTwo_32 RF x1 x3 x4 ((f_Rd_take 41 σ).1) ((f_Rd_take 41 σ).2))
def k_Rd_readOverTwo_20 (RF : Int32 → St → Int32 × St) (RK : Int32 → St → Prop) (x1 : Int32) (x3 : Int32) (x4 : Int32) (σ : St) : Prop := (x4 = (-1) → (k_Rd_readOverTwo_46 RF RK σ)) ∧ (¬ x4 = (-1) → ((k_Rd_take 41 σ) ∧ (k_Rd_readOverTwo_32 RF RK x1 x3 x4 ((f_Rd_take 41 σ).1) ((f_Rd_take 41 σ).2))))
def f_Rd_readOverTwo_18 (RF : Int32 → St → Int32 × St) (x1 : Int32) (x3 : Int32) (s0 : Int32) (σ : St) : Int32 × St := f_Rd_readOverTwo_20 RF x1 x3 s0 σ
def k_Rd_readOverTwo_18 (RF : Int32 → St → Int32 × St) (RK : Int32 → St → Prop) (x1 : Int32) (x3 : Int32) (s0 : Int32) (σ : St) : Prop := k_Rd_readOverTwo_20 RF RK x1 x3 s0 σ
def f_Rd_readOverTwo_6 (RF : Int32 → St → Int32 × St) (x1 : Int32) (x2 : Int32) (x3 : Int32) (σ : St) : Int32 × St := if x3 = (-1) then ((-1), σ) else (f_Rd_readOverTwo_18 RF x1 x3 ((f_Rd_readPart RF x2 σ).1) ((f_Rd_readPart RF x2 σ).2))
def k_Rd_readOverTwo_6 (RF : Int32 → St → Int32 × St) (RK : Int32 → St → Prop) (x1 : Int32) (x2 : Int32) (x3 : Int32) (σ : St) : Prop := (x3 = (-1) → True) ∧ (¬ x3 = (-1) → ((k_Rd_readPart RF RK x2 σ) ∧ (k_Rd_readOverTwo_18 RF RK x1 x3 ((f_Rd_readPart RF x2 σ).1) ((f_Rd_readPart RF x2 σ).2))))
def f_Rd_readOverTwo_5 (RF : Int32 → St → Int32 × St) (x1 : Int32) (x2 : Int32) (s0 : Int32) (σ : St) : Int32 × St := f_Rd_readOverTwo_6 RF x1 x2 s0 σ
def k_Rd_readOverTwo_5 (RF : Int32 → St → Int32 × St) (RK : Int32 → St → Prop) (x1 : Int32) (x2 : Int32) (s0 : Int32) (σ : St) : Prop := k_Rd_readOverTwo_6 RF RK x1 x2 s0 σ
def f_Rd_readOverTwo (RF : Int32 → St → Int32 × St) (a1 : Int32) (a2 : Int32) (σ : St) : Int32 × St := f_Rd_readOverTwo_5 RF a1 a2 ((f_Rd_readPart RF a2 σ).1) ((f_Rd_readPart RF a2 σ).2)
def k_Rd_readOverTwo (RF : Int32 → St → Int32 × St) (RK : Int32 → St → Prop) (a1 : Int32) (a2 : Int32) (σ : St) : Prop := (k_Rd_readPart RF RK a2 σ) ∧ (k_Rd_readOverTwo_5 RF RK a1 a2 ((f_Rd_readPart RF a2 σ).1) ((f_Rd_readPart RF a2 σ).2))
set_option maxHeartbeats 4000000 in
set_option maxRecDepth 100000 in
theorem c_Rd_readOverTwo (l : Launch) (D : va_G) (ty : Nat → ClassId) (h : Nat → Nat) (px : va_W) (sa : Nat → Nat) (d : Nat) (RF : Int32 → St → Int32 × St) (RK : Int32 → St → Prop) (hR : ∀ (σ : St) (sz : Nat) (b0 : Int32), RK b0 σ → Met l y_Rd_readAny w_Rd_readAny (rk_Rd_readAny d) (va_Pc [.ref (h 20), .int b0] (fun U => U.heap.size = sz ∧ va_P D classes (Wc ty h σ px) U.heap ∧ va_K D classes (Ta ty) U ∧ NW U ∧ MK sa (va_A (Wc ty h σ px) sz) U U.heap ∧ va_D (fun _ => True) (Wc ty h σ px))) (va_Qi (fun r (u : St) => (r, u) = RF b0 σ) (fun u t => va_P D classes (Wc ty h u px) t.heap) (va_A (Wc ty h σ px) sz)) 0 0 (va_A (Wc ty h σ px) sz)) (σ : St) (sz : Nat) (a1 : Int32) (a2 : Int32) (hk : k_Rd_readOverTwo RF RK a1 a2 σ) : Met l y_Rd_readOverTwo w_Rd_readOverTwo (rm_Rd_readOverTwo d) (va_Pc [.ref (h 20), .int a1, .int a2] (fun U => U.heap.size = sz ∧ va_P D classes (Wc ty h σ px) U.heap ∧ va_K D classes (Ta ty) U ∧ NW U ∧ MK sa (va_A (Wc ty h σ px) sz) U U.heap ∧ va_D (fun _ => True) (Wc ty h σ px))) (va_Qi (fun r (u : St) => (r, u) = f_Rd_readOverTwo RF a1 a2 σ) (fun u t => va_P D classes (Wc ty h u px) t.heap) (va_A (Wc ty h σ px) sz)) 0 0 (va_A (Wc ty h σ px) sz) := by
  refine Met.ofW (cc := b_Rd_readOverTwo) (maxL := 5) (ret := (some .int)) (by decide) rfl ?_
  intro p e s m args below meth c s₁ B hml hv
  obtain ⟨ha, hsz, hP, hK, hN, hM, hD0⟩ := hv
  have hx := B.exec
  have hb := B.bytes
  have hr := B.returns
  have hg : ∀ w ∈ gw, w.before args s = true := fun w h9 => atoms_spec (ws := w_Rd_readOverTwo) B.pre w (List.mem_cons_of_mem _ h9)
  have hown : s.vm.findClass "ClauseLedger$Reader" = some m.cls := findClass_of_methodNamed B.named
  have hlocks := B.notSynchronized
  subst hsz
  have hD := hD0.self (sz := s.heap.size)
  generalize hAe : va_A (Wc ty h σ px) s.heap.size = A at hD hM ⊢
  have hA : ∀ q : Nat, s.heap.size ≤ q → A q := fun q h9 => by rw [← hAe]; exact Or.inr h9
  have hS : va_S A s.heap s.heap [] := va_S.rf
  have he : entryFrame m args 5 = entryFrame m ([.ref (h 20), .int a1, .int a2] : List Value).toArray 5 := by rw [ha]
  rw [he, lg_entry_eq]
  have hl := lv_entry ([.ref (h 20), .int a1, .int a2]) (n := 5) (Nat.le_of_ble_eq_true rfl)
  generalize (lg_sl ([.ref (h 20), .int a1, .int a2]) ++ List.replicate (5 - (lg_sl ([.ref (h 20), .int a1, .int a2])).length) Slot.unset).toArray = ls at hl ⊢
  have hl : lv_has ls 5 [(0, .ref (h 20)), (1, .int a1), (2, .int a2)] := hl
  generalize hv : f_Rd_readOverTwo RF a1 a2 σ = v
  replace hv := hv.symm
  have B46 : ∀ (H : Heap) (locs : List Loc) (ls : Array Slot) (σ : St), v = f_Rd_readOverTwo_46 RF σ → k_Rd_readOverTwo_46 RF RK σ → lv_has ls 5 [] → va_P D classes (Wc ty h σ px) H → va_D A (Wc ty h σ px) → va_S A s.heap H locs → W p l e (headSpec w_Rd_readOverTwo (rm_Rd_readOverTwo d)).room s m args below meth c H locs 0 0 (MQ below (va_Qi (fun r (u : St) => (r, u) = v) (fun u t => va_P D classes (Wc ty h u px) t.heap) A) args s 0 0 A) (F0 m 46 ls []) := by
    intro H locs ls σ hv hk hl hP hD hS
    unfold f_Rd_readOverTwo_46 at hv
    unfold k_Rd_readOverTwo_46 at hk
    refine lv_iconst (v := -1) hx hb d_Rd_readOverTwo_46 (by decide) ?_
    exact W.iret hx hb hr (fun t ht hW => ⟨⟨_, _, rfl, hv.symm, by dsimp only; rw [ht]; exact hP⟩, hS.F ht⟩) hS.2.2 d_Rd_readOverTwo_47
  have B70 : ∀ (H : Heap) (locs : List Loc) (ls : Array Slot) (s0 : Int32) (σ : St), v = f_Rd_readOverTwo_70 RF s0 σ → k_Rd_readOverTwo_70 RF RK s0 σ → lv_has ls 5 [] → va_P D classes (Wc ty h σ px) H → va_D A (Wc ty h σ px) → va_S A s.heap H locs → W p l e (headSpec w_Rd_readOverTwo (rm_Rd_readOverTwo d)).room s m args below meth c H locs 0 0 (MQ below (va_Qi (fun r (u : St) => (r, u) = v) (fun u t => va_P D classes (Wc ty h u px) t.heap) A) args s 0 0 A) (F0 m 70 ls [.int s0]) := by
    intro H locs ls s0 σ hv hk hl hP hD hS
    unfold f_Rd_readOverTwo_70 at hv
    unfold k_Rd_readOverTwo_70 at hk
    exact W.iret hx hb hr (fun t ht hW => ⟨⟨_, _, rfl, hv.symm, by dsimp only; rw [ht]; exact hP⟩, hS.F ht⟩) hS.2.2 d_Rd_readOverTwo_70
  have B63 : ∀ (H : Heap) (locs : List Loc) (ls : Array Slot) (x3 : Int32) (x4 : Int32) (s0 : Int32) (s1 : Int32) (σ : St), v = f_Rd_readOverTwo_63 RF x3 x4 s0 s1 σ → k_Rd_readOverTwo_63 RF RK x3 x4 s0 s1 σ → lv_has ls 5 [(3, .int x3), (4, .int x4)] → va_P D classes (Wc ty h σ px) H → va_D A (Wc ty h σ px) → va_S A s.heap H locs → W p l e (headSpec w_Rd_readOverTwo (rm_Rd_readOverTwo d)).room s m args below meth c H locs 0 0 (MQ below (va_Qi (fun r (u : St) => (r, u) = v) (fun u t => va_P D classes (Wc ty h u px) t.heap) A) args s 0 0 A) (F0 m 63 ls [.int s0, .int s1, .ref (h 6)]) := by
    intro H locs ls x3 x4 s0 s1 σ hv hk hl hP hD hS
    unfold f_Rd_readOverTwo_63 at hv
    unfold k_Rd_readOverTwo_63 at hk
    refine lv_iconst (v := -1) hx hb d_Rd_readOverTwo_63 (by decide) ?_
    refine lv_iload_n hx hb d_Rd_readOverTwo_64 rfl (lv_at hl 0 rfl) ?_
    refine lv_iload hx hb d_Rd_readOverTwo_65 (lv_at hl 1 rfl) ?_
    obtain ⟨hk0, hk⟩ := hk
    refine va_calli (va_runV (As := [.int s1, .int s0, .int (-1), .int x3, .int x4]) (rest := []) ⟨hx, hb, hml, hown, hg⟩ (c_Te_make l D ty h px sa σ H.size s1 s0 (-1) x3 x4 hk0) ⟨callB_of 5 hg (gw_C m_620) rfl rfl rfl (hg _ m_3) (hg _ m_617) hd_Te_make ⟨(by simp only [headSpec, rm_Rd_readOverTwo, rm_Te_make]; omega), (by simp only [headSpec, rm_Rd_readOverTwo, rm_Te_make]; omega)⟩, hg _ m_618, hg _ m_619⟩ (zz_preVW hM hS hA hN hK hP hD 6 rfl rfl) rfl rfl hl.1 rfl (lv_room (Nat.le_of_ble_eq_true rfl)) d_Rd_readOverTwo_67 ⟨Nat.le_of_ble_eq_true rfl, Nat.le_of_ble_eq_true rfl⟩) hS (fun q _ h => zz_free hD hS hA q h) (zz_free hD hS hA) (fun r67 u67 t H locs ht hvm hp hP1 hz hk1 hS => ?_)
    rw [ht] at hP1
    rw [← hp] at hv hk
    have hD : va_D A (Wc ty h u67 px) := zz_D hD rfl
    have hP := hP1
    exact B70 _ _ _ r67 u67 hv hk (lv_sub hl [] rfl) hP hD hS
  have B32 : ∀ (H : Heap) (locs : List Loc) (ls : Array Slot) (x1 : Int32) (x3 : Int32) (x4 : Int32) (s0 : Int32) (σ : St), v = f_Rd_readOverTwo_32 RF x1 x3 x4 s0 σ → k_Rd_readOverTwo_32 RF RK x1 x3 x4 s0 σ → lv_has ls 5 [(0, .ref (h 20)), (1, .int x1), (3, .int x3), (4, .int x4)] → va_P D classes (Wc ty h σ px) H → va_D A (Wc ty h σ px) → va_S A s.heap H locs → W p l e (headSpec w_Rd_readOverTwo (rm_Rd_readOverTwo d)).room s m args below meth c H locs 0 0 (MQ below (va_Qi (fun r (u : St) => (r, u) = v) (fun u t => va_P D classes (Wc ty h u px) t.heap) A) args s 0 0 A) (F0 m 32 ls [.int s0]) := by
    intro H locs ls x1 x3 x4 s0 σ hv hk hl hP hD hS
    unfold f_Rd_readOverTwo_32 at hv
    unfold k_Rd_readOverTwo_32 at hk
    refine lv_if_eq (tgt := 46) hx hb d_Rd_readOverTwo_32 (by decide) (fun hc => ?_) (fun hc => ?_)
    · have hv := hv.trans (if_pos hc)
      have hk := hk.1 hc
      exact B46 _ _ _  σ hv hk (lv_sub hl [] rfl) hP hD hS
    · have hv := hv.trans (if_neg hc)
      have hk := hk.2 hc
      refine lv_aload_n hx hb d_Rd_readOverTwo_35 rfl (lv_at hl 0 rfl) ?_
      refine lv_iload_n hx hb d_Rd_readOverTwo_36 rfl (lv_at hl 1 rfl) ?_
      refine lv_iload_n hx hb d_Rd_readOverTwo_37 rfl (lv_at hl 2 rfl) ?_
      refine lv_iload hx hb d_Rd_readOverTwo_38 (lv_at hl 3 rfl) ?_
      obtain ⟨hk0, hk⟩ := hk
      refine zz_callV (va_runV (As := [.int x1, .int x3, .int x4]) (rest := []) ⟨hx, hb, hml, hown, hg⟩ (c_Rd_canBePartsOf l D ty h px sa σ x1 x3 x4 hk0) ⟨callB_of 3 hg (gw_C m_731) rfl rfl rfl (hg _ m_5) (hg _ m_728) hd_Rd_canBePartsOf ⟨(by simp only [headSpec, rm_Rd_readOverTwo, rm_Rd_canBePartsOf]; omega), (by simp only [headSpec, rm_Rd_readOverTwo, rm_Rd_canBePartsOf]; omega)⟩, hg _ m_730, hg _ ms_20⟩ (zz_preV (hM.at hS) hN hK hP 20 rfl rfl) rfl rfl hl.1 rfl (lv_room (Nat.le_of_ble_eq_true rfl)) d_Rd_readOverTwo_40 ⟨Nat.le_of_ble_eq_true rfl, Nat.le_of_ble_eq_true rfl⟩) ?_
      refine lv_if_ne (tgt := 48) hx hb d_Rd_readOverTwo_43 (by decide) (fun hc => ?_) (fun hc => ?_)
      · have hv := hv.trans (if_neg hc)
        have hk := hk.2 hc
        refine lv_aload_n hx hb d_Rd_readOverTwo_48 rfl (lv_at hl 0 rfl) ?_
        refine va_get (v := .ref (h 6)) (C := R_Rd) (T := T_Rd) (N := 4) hx hb hg in_Rd hown hK hP 20 rfl rfl 2 (by decide) (hg _ m_135) (fun _ h9 => h9) rfl d_Rd_readOverTwo_49 ?_
        refine lv_iload_n hx hb d_Rd_readOverTwo_52 rfl (lv_at hl 1 rfl) ?_
        refine lv_iload_n hx hb d_Rd_readOverTwo_53 rfl (lv_at hl 1 rfl) ?_
        refine lv_iconst (v := 4) hx hb d_Rd_readOverTwo_54 (by decide) ?_
        refine lv_icmp_gt (tgt := 62) hx hb d_Rd_readOverTwo_55 (by decide) (fun hc => ?_) (fun hc => ?_)
        · have hv := hv.trans (if_pos hc)
          have hk := hk.1 hc
          refine lv_iconst (v := 0) hx hb d_Rd_readOverTwo_62 (by decide) ?_
          exact B63 _ _ _ x3 x4 0 x1 σ hv hk (lv_sub hl [2, 3] rfl) hP hD hS
        · have hv := hv.trans (if_neg hc)
          have hk := hk.2 hc
          refine lv_iconst (v := 1) hx hb d_Rd_readOverTwo_58 (by decide) ?_
          refine lv_goto (tgt := 63) hx hb d_Rd_readOverTwo_59 (by decide) ?_
          exact B63 _ _ _ x3 x4 1 x1 σ hv hk (lv_sub hl [2, 3] rfl) hP hD hS
      · have hv := hv.trans (if_pos hc)
        have hk := hk.1 hc
        exact B46 _ _ _  σ hv hk (lv_sub hl [] rfl) hP hD hS
  have B20 : ∀ (H : Heap) (locs : List Loc) (ls : Array Slot) (x1 : Int32) (x3 : Int32) (x4 : Int32) (σ : St), v = f_Rd_readOverTwo_20 RF x1 x3 x4 σ → k_Rd_readOverTwo_20 RF RK x1 x3 x4 σ → lv_has ls 5 [(0, .ref (h 20)), (1, .int x1), (3, .int x3), (4, .int x4)] → va_P D classes (Wc ty h σ px) H → va_D A (Wc ty h σ px) → va_S A s.heap H locs → W p l e (headSpec w_Rd_readOverTwo (rm_Rd_readOverTwo d)).room s m args below meth c H locs 0 0 (MQ below (va_Qi (fun r (u : St) => (r, u) = v) (fun u t => va_P D classes (Wc ty h u px) t.heap) A) args s 0 0 A) (F0 m 20 ls []) := by
    intro H locs ls x1 x3 x4 σ hv hk hl hP hD hS
    unfold f_Rd_readOverTwo_20 at hv
    unfold k_Rd_readOverTwo_20 at hk
    refine lv_iload hx hb d_Rd_readOverTwo_20 (lv_at hl 3 rfl) ?_
    refine lv_iconst (v := -1) hx hb d_Rd_readOverTwo_22 (by decide) ?_
    refine lv_icmp_eq (tgt := 46) hx hb d_Rd_readOverTwo_23 (by decide) (fun hc => ?_) (fun hc => ?_)
    · have hv := hv.trans (if_pos hc)
      have hk := hk.1 hc
      exact B46 _ _ _  σ hv hk (lv_sub hl [] rfl) hP hD hS
    · have hv := hv.trans (if_neg hc)
      have hk := hk.2 hc
      refine lv_aload_n hx hb d_Rd_readOverTwo_26 rfl (lv_at hl 0 rfl) ?_
      refine lv_bipush (v := 41) hx hb d_Rd_readOverTwo_27 (by decide) ?_
      obtain ⟨hk0, hk⟩ := hk
      refine va_calli (va_runV (As := [.int 41]) (rest := []) ⟨hx, hb, hml, hown, hg⟩ (c_Rd_take l D ty h px sa σ H.size 41 hk0) ⟨callB_of 1 hg (gw_C m_611) rfl rfl rfl (hg _ m_5) (hg _ m_608) hd_Rd_take ⟨(by simp only [headSpec, rm_Rd_readOverTwo, rm_Rd_take]; omega), (by simp only [headSpec, rm_Rd_readOverTwo, rm_Rd_take]; omega)⟩, hg _ m_610, hg _ ms_13⟩ (zz_preVW hM hS hA hN hK hP hD 20 rfl rfl) rfl rfl hl.1 rfl (lv_room (Nat.le_of_ble_eq_true rfl)) d_Rd_readOverTwo_29 ⟨Nat.le_of_ble_eq_true rfl, Nat.le_of_ble_eq_true rfl⟩) hS (fun q _ h => zz_free hD hS hA q h) (zz_free hD hS hA) (fun r29 u29 t H locs ht hvm hp hP1 hz hk1 hS => ?_)
      rw [ht] at hP1
      rw [← hp] at hv hk
      have hD : va_D A (Wc ty h u29 px) := zz_D hD rfl
      have hP := hP1
      exact B32 _ _ _ x1 x3 x4 r29 u29 hv hk (lv_sub hl [0, 1, 2, 3] rfl) hP hD hS
  have B18 : ∀ (H : Heap) (locs : List Loc) (ls : Array Slot) (x1 : Int32) (x3 : Int32) (s0 : Int32) (σ : St), v = f_Rd_readOverTwo_18 RF x1 x3 s0 σ → k_Rd_readOverTwo_18 RF RK x1 x3 s0 σ → lv_has ls 5 [(0, .ref (h 20)), (1, .int x1), (3, .int x3)] → va_P D classes (Wc ty h σ px) H → va_D A (Wc ty h σ px) → va_S A s.heap H locs → W p l e (headSpec w_Rd_readOverTwo (rm_Rd_readOverTwo d)).room s m args below meth c H locs 0 0 (MQ below (va_Qi (fun r (u : St) => (r, u) = v) (fun u t => va_P D classes (Wc ty h u px) t.heap) A) args s 0 0 A) (F0 m 18 ls [.int s0]) := by
    intro H locs ls x1 x3 s0 σ hv hk hl hP hD hS
    unfold f_Rd_readOverTwo_18 at hv
    unfold k_Rd_readOverTwo_18 at hk
    refine lv_istore (lv' := [(4, .int s0), (0, .ref (h 20)), (1, .int x1), (3, .int x3)]) hx hb d_Rd_readOverTwo_18 hl (by decide) rfl (fun ls hl => ?_)
    exact B20 _ _ _ x1 x3 s0 σ hv hk (lv_sub hl [1, 2, 3, 0] rfl) hP hD hS
  have B6 : ∀ (H : Heap) (locs : List Loc) (ls : Array Slot) (x1 : Int32) (x2 : Int32) (x3 : Int32) (σ : St), v = f_Rd_readOverTwo_6 RF x1 x2 x3 σ → k_Rd_readOverTwo_6 RF RK x1 x2 x3 σ → lv_has ls 5 [(0, .ref (h 20)), (1, .int x1), (2, .int x2), (3, .int x3)] → va_P D classes (Wc ty h σ px) H → va_D A (Wc ty h σ px) → va_S A s.heap H locs → W p l e (headSpec w_Rd_readOverTwo (rm_Rd_readOverTwo d)).room s m args below meth c H locs 0 0 (MQ below (va_Qi (fun r (u : St) => (r, u) = v) (fun u t => va_P D classes (Wc ty h u px) t.heap) A) args s 0 0 A) (F0 m 6 ls []) := by
    intro H locs ls x1 x2 x3 σ hv hk hl hP hD hS
    unfold f_Rd_readOverTwo_6 at hv
    unfold k_Rd_readOverTwo_6 at hk
    refine lv_iload_n hx hb d_Rd_readOverTwo_6 rfl (lv_at hl 3 rfl) ?_
    refine lv_iconst (v := -1) hx hb d_Rd_readOverTwo_7 (by decide) ?_
    refine lv_icmp_ne (tgt := 13) hx hb d_Rd_readOverTwo_8 (by decide) (fun hc => ?_) (fun hc => ?_)
    · have hv := hv.trans (if_neg hc)
      have hk := hk.2 hc
      refine lv_aload_n hx hb d_Rd_readOverTwo_13 rfl (lv_at hl 0 rfl) ?_
      refine lv_iload_n hx hb d_Rd_readOverTwo_14 rfl (lv_at hl 2 rfl) ?_
      obtain ⟨hk0, hk⟩ := hk
      refine va_calli (va_runV (As := [.int x2]) (rest := []) ⟨hx, hb, hml, hown, hg⟩ (c_Rd_readPart l D ty h px sa d RF RK hR σ H.size x2 hk0) ⟨callB_of 1 hg (gw_C m_607) rfl rfl rfl (hg _ m_5) (hg _ m_604) hd_Rd_readPart ⟨(by simp only [headSpec, rm_Rd_readOverTwo, rm_Rd_readPart]; omega), (by simp only [headSpec, rm_Rd_readOverTwo, rm_Rd_readPart]; omega)⟩, hg _ m_606, hg _ ms_12⟩ (zz_preVW hM hS hA hN hK hP hD 20 rfl rfl) rfl rfl hl.1 rfl (lv_room (Nat.le_of_ble_eq_true rfl)) d_Rd_readOverTwo_15 ⟨Nat.le_of_ble_eq_true rfl, Nat.le_of_ble_eq_true rfl⟩) hS (fun q _ h => zz_free hD hS hA q h) (zz_free hD hS hA) (fun r15 u15 t H locs ht hvm hp hP1 hz hk1 hS => ?_)
      rw [ht] at hP1
      rw [← hp] at hv hk
      have hD : va_D A (Wc ty h u15 px) := zz_D hD rfl
      have hP := hP1
      exact B18 _ _ _ x1 x3 r15 u15 hv hk (lv_sub hl [0, 1, 3] rfl) hP hD hS
    · have hv := hv.trans (if_pos hc)
      have hk := hk.1 hc
      refine lv_iconst (v := -1) hx hb d_Rd_readOverTwo_11 (by decide) ?_
      exact W.iret hx hb hr (fun t ht hW => ⟨⟨_, _, rfl, hv.symm, by dsimp only; rw [ht]; exact hP⟩, hS.F ht⟩) hS.2.2 d_Rd_readOverTwo_12
  have B5 : ∀ (H : Heap) (locs : List Loc) (ls : Array Slot) (x1 : Int32) (x2 : Int32) (s0 : Int32) (σ : St), v = f_Rd_readOverTwo_5 RF x1 x2 s0 σ → k_Rd_readOverTwo_5 RF RK x1 x2 s0 σ → lv_has ls 5 [(0, .ref (h 20)), (1, .int x1), (2, .int x2)] → va_P D classes (Wc ty h σ px) H → va_D A (Wc ty h σ px) → va_S A s.heap H locs → W p l e (headSpec w_Rd_readOverTwo (rm_Rd_readOverTwo d)).room s m args below meth c H locs 0 0 (MQ below (va_Qi (fun r (u : St) => (r, u) = v) (fun u t => va_P D classes (Wc ty h u px) t.heap) A) args s 0 0 A) (F0 m 5 ls [.int s0]) := by
    intro H locs ls x1 x2 s0 σ hv hk hl hP hD hS
    unfold f_Rd_readOverTwo_5 at hv
    unfold k_Rd_readOverTwo_5 at hk
    refine lv_istore_n (lv' := [(3, .int s0), (0, .ref (h 20)), (1, .int x1), (2, .int x2)]) hx hb d_Rd_readOverTwo_5 rfl hl (by decide) rfl (fun ls hl => ?_)
    exact B6 _ _ _ x1 x2 s0 σ hv hk (lv_sub hl [1, 2, 3, 0] rfl) hP hD hS
  unfold f_Rd_readOverTwo at hv
  unfold k_Rd_readOverTwo at hk
  refine lv_aload_n hx hb d_Rd_readOverTwo_0 rfl (lv_at hl 0 rfl) ?_
  refine lv_iload_n hx hb d_Rd_readOverTwo_1 rfl (lv_at hl 2 rfl) ?_
  obtain ⟨hk0, hk⟩ := hk
  refine va_calli (va_runV (As := [.int a2]) (rest := []) ⟨hx, hb, hml, hown, hg⟩ (c_Rd_readPart l D ty h px sa d RF RK hR σ s.heap.size a2 hk0) ⟨callB_of 1 hg (gw_C m_607) rfl rfl rfl (hg _ m_5) (hg _ m_604) hd_Rd_readPart ⟨(by simp only [headSpec, rm_Rd_readOverTwo, rm_Rd_readPart]; omega), (by simp only [headSpec, rm_Rd_readOverTwo, rm_Rd_readPart]; omega)⟩, hg _ m_606, hg _ ms_12⟩ (zz_preVW hM hS hA hN hK hP hD 20 rfl rfl) rfl rfl hl.1 rfl (lv_room (Nat.le_of_ble_eq_true rfl)) d_Rd_readOverTwo_2 ⟨Nat.le_of_ble_eq_true rfl, Nat.le_of_ble_eq_true rfl⟩) hS (fun q _ h => zz_free hD hS hA q h) (zz_free hD hS hA) (fun r2 u2 t H locs ht hvm hp hP1 hz hk1 hS => ?_)
  rw [ht] at hP1
  rw [← hp] at hv hk
  have hD : va_D A (Wc ty h u2 px) := zz_D hD rfl
  have hP := hP1
  exact B5 _ _ _ a1 a2 r2 u2 hv hk (lv_sub hl [0, 1, 2] rfl) hP hD hS

theorem d_Rd_readBracket_0 : decode b_Rd_readBracket 0 = .ok (.aload_n 0, 1) := by decide +kernel
theorem d_Rd_readBracket_1 : decode b_Rd_readBracket 1 = .ok (.getfield 15, 3) := by decide +kernel
theorem d_Rd_readBracket_4 : decode b_Rd_readBracket 4 = .ok (.aload_n 0, 1) := by decide +kernel
theorem d_Rd_readBracket_5 : decode b_Rd_readBracket 5 = .ok (.getfield 9, 3) := by decide +kernel
theorem d_Rd_readBracket_8 : decode b_Rd_readBracket 8 = .ok (.iconst 1, 1) := by decide +kernel
theorem d_Rd_readBracket_9 : decode b_Rd_readBracket 9 = .ok (.iadd, 1) := by decide +kernel
theorem d_Rd_readBracket_10 : decode b_Rd_readBracket 10 = .ok (.invokevirtual 37, 3) := by decide +kernel
theorem d_Rd_readBracket_13 : decode b_Rd_readBracket 13 = .ok (.istore_n 2, 1) := by decide +kernel
theorem d_Rd_readBracket_14 : decode b_Rd_readBracket 14 = .ok (.aload_n 0, 1) := by decide +kernel
theorem d_Rd_readBracket_15 : decode b_Rd_readBracket 15 = .ok (.dup, 1) := by decide +kernel
theorem d_Rd_readBracket_16 : decode b_Rd_readBracket 16 = .ok (.getfield 9, 3) := by decide +kernel
theorem d_Rd_readBracket_19 : decode b_Rd_readBracket 19 = .ok (.iconst 2, 1) := by decide +kernel
theorem d_Rd_readBracket_20 : decode b_Rd_readBracket 20 = .ok (.iadd, 1) := by decide +kernel
theorem d_Rd_readBracket_21 : decode b_Rd_readBracket 21 = .ok (.putfield 9, 3) := by decide +kernel
theorem d_Rd_readBracket_24 : decode b_Rd_readBracket 24 = .ok (.iload_n 2, 1) := by decide +kernel
theorem d_Rd_readBracket_25 : decode b_Rd_readBracket 25 = .ok (.bipush 97, 2) := by decide +kernel
theorem d_Rd_readBracket_27 : decode b_Rd_readBracket 27 = .ok (.if_icmp .lt 19, 3) := by decide +kernel
theorem d_Rd_readBracket_30 : decode b_Rd_readBracket 30 = .ok (.iload_n 2, 1) := by decide +kernel
theorem d_Rd_readBracket_31 : decode b_Rd_readBracket 31 = .ok (.bipush 108, 2) := by decide +kernel
theorem d_Rd_readBracket_33 : decode b_Rd_readBracket 33 = .ok (.if_icmp .gt 13, 3) := by decide +kernel
theorem d_Rd_readBracket_36 : decode b_Rd_readBracket 36 = .ok (.aload_n 0, 1) := by decide +kernel
theorem d_Rd_readBracket_37 : decode b_Rd_readBracket 37 = .ok (.iload_n 2, 1) := by decide +kernel
theorem d_Rd_readBracket_38 : decode b_Rd_readBracket 38 = .ok (.bipush 97, 2) := by decide +kernel
theorem d_Rd_readBracket_40 : decode b_Rd_readBracket 40 = .ok (.isub, 1) := by decide +kernel
theorem d_Rd_readBracket_41 : decode b_Rd_readBracket 41 = .ok (.iload_n 1, 1) := by decide +kernel
theorem d_Rd_readBracket_42 : decode b_Rd_readBracket 42 = .ok (.invokevirtual 77, 3) := by decide +kernel
theorem d_Rd_readBracket_45 : decode b_Rd_readBracket 45 = .ok (.ireturn, 1) := by decide +kernel
theorem d_Rd_readBracket_46 : decode b_Rd_readBracket 46 = .ok (.iload_n 2, 1) := by decide +kernel
theorem d_Rd_readBracket_47 : decode b_Rd_readBracket 47 = .ok (.bipush 126, 2) := by decide +kernel
theorem d_Rd_readBracket_49 : decode b_Rd_readBracket 49 = .ok (.if_icmp .ne 12, 3) := by decide +kernel
theorem d_Rd_readBracket_52 : decode b_Rd_readBracket 52 = .ok (.aload_n 0, 1) := by decide +kernel
theorem d_Rd_readBracket_53 : decode b_Rd_readBracket 53 = .ok (.bipush 7, 2) := by decide +kernel
theorem d_Rd_readBracket_55 : decode b_Rd_readBracket 55 = .ok (.iconst (-1), 1) := by decide +kernel
theorem d_Rd_readBracket_56 : decode b_Rd_readBracket 56 = .ok (.iload_n 1, 1) := by decide +kernel
theorem d_Rd_readBracket_57 : decode b_Rd_readBracket 57 = .ok (.invokevirtual 81, 3) := by decide +kernel
theorem d_Rd_readBracket_60 : decode b_Rd_readBracket 60 = .ok (.ireturn, 1) := by decide +kernel
theorem d_Rd_readBracket_61 : decode b_Rd_readBracket 61 = .ok (.iload_n 2, 1) := by decide +kernel
theorem d_Rd_readBracket_62 : decode b_Rd_readBracket 62 = .ok (.bipush 33, 2) := by decide +kernel
theorem d_Rd_readBracket_64 : decode b_Rd_readBracket 64 = .ok (.if_icmp .ne 39, 3) := by decide +kernel
theorem d_Rd_readBracket_67 : decode b_Rd_readBracket 67 = .ok (.aload_n 0, 1) := by decide +kernel
theorem d_Rd_readBracket_68 : decode b_Rd_readBracket 68 = .ok (.bipush 32, 2) := by decide +kernel
theorem d_Rd_readBracket_70 : decode b_Rd_readBracket 70 = .ok (.invokevirtual 85, 3) := by decide +kernel
theorem d_Rd_readBracket_73 : decode b_Rd_readBracket 73 = .ok (.ifCond .eq 10, 3) := by decide +kernel
theorem d_Rd_readBracket_76 : decode b_Rd_readBracket 76 = .ok (.aload_n 0, 1) := by decide +kernel
theorem d_Rd_readBracket_77 : decode b_Rd_readBracket 77 = .ok (.invokevirtual 47, 3) := by decide +kernel
theorem d_Rd_readBracket_80 : decode b_Rd_readBracket 80 = .ok (.goto 4, 3) := by decide +kernel
theorem d_Rd_readBracket_83 : decode b_Rd_readBracket 83 = .ok (.iconst (-1), 1) := by decide +kernel
theorem d_Rd_readBracket_84 : decode b_Rd_readBracket 84 = .ok (.istore_n 3, 1) := by decide +kernel
theorem d_Rd_readBracket_85 : decode b_Rd_readBracket 85 = .ok (.iload_n 3, 1) := by decide +kernel
theorem d_Rd_readBracket_86 : decode b_Rd_readBracket 86 = .ok (.iconst (-1), 1) := by decide +kernel
theorem d_Rd_readBracket_87 : decode b_Rd_readBracket 87 = .ok (.if_icmp .ne 7, 3) := by decide +kernel
theorem d_Rd_readBracket_90 : decode b_Rd_readBracket 90 = .ok (.iconst (-1), 1) := by decide +kernel
theorem d_Rd_readBracket_91 : decode b_Rd_readBracket 91 = .ok (.goto 11, 3) := by decide +kernel
theorem d_Rd_readBracket_94 : decode b_Rd_readBracket 94 = .ok (.aload_n 0, 1) := by decide +kernel
theorem d_Rd_readBracket_95 : decode b_Rd_readBracket 95 = .ok (.bipush 10, 2) := by decide +kernel
theorem d_Rd_readBracket_97 : decode b_Rd_readBracket 97 = .ok (.iload_n 3, 1) := by decide +kernel
theorem d_Rd_readBracket_98 : decode b_Rd_readBracket 98 = .ok (.iload_n 1, 1) := by decide +kernel
theorem d_Rd_readBracket_99 : decode b_Rd_readBracket 99 = .ok (.invokevirtual 81, 3) := by decide +kernel
theorem d_Rd_readBracket_102 : decode b_Rd_readBracket 102 = .ok (.ireturn, 1) := by decide +kernel
theorem d_Rd_readBracket_103 : decode b_Rd_readBracket 103 = .ok (.ldc 89, 2) := by decide +kernel
theorem d_Rd_readBracket_105 : decode b_Rd_readBracket 105 = .ok (.iload_n 2, 1) := by decide +kernel
theorem d_Rd_readBracket_106 : decode b_Rd_readBracket 106 = .ok (.invokevirtual 91, 3) := by decide +kernel
theorem d_Rd_readBracket_109 : decode b_Rd_readBracket 109 = .ok (.istore_n 3, 1) := by decide +kernel
theorem d_Rd_readBracket_110 : decode b_Rd_readBracket 110 = .ok (.iload_n 3, 1) := by decide +kernel
theorem d_Rd_readBracket_111 : decode b_Rd_readBracket 111 = .ok (.ifCond .ge 7, 3) := by decide +kernel
theorem d_Rd_readBracket_114 : decode b_Rd_readBracket 114 = .ok (.iconst (-1), 1) := by decide +kernel
theorem d_Rd_readBracket_115 : decode b_Rd_readBracket 115 = .ok (.goto 11, 3) := by decide +kernel
theorem d_Rd_readBracket_118 : decode b_Rd_readBracket 118 = .ok (.aload_n 0, 1) := by decide +kernel
theorem d_Rd_readBracket_119 : decode b_Rd_readBracket 119 = .ok (.iconst 3, 1) := by decide +kernel
theorem d_Rd_readBracket_120 : decode b_Rd_readBracket 120 = .ok (.iload_n 3, 1) := by decide +kernel
theorem d_Rd_readBracket_121 : decode b_Rd_readBracket 121 = .ok (.iadd, 1) := by decide +kernel
theorem d_Rd_readBracket_122 : decode b_Rd_readBracket 122 = .ok (.iload_n 1, 1) := by decide +kernel
theorem d_Rd_readBracket_123 : decode b_Rd_readBracket 123 = .ok (.invokevirtual 96, 3) := by decide +kernel
theorem d_Rd_readBracket_126 : decode b_Rd_readBracket 126 = .ok (.ireturn, 1) := by decide +kernel
def f_Rd_readBracket_45 (RF : Int32 → St → Int32 × St) (s0 : Int32) (σ : St) : Int32 × St := (s0, σ)
def k_Rd_readBracket_45 (RF : Int32 → St → Int32 × St) (RK : Int32 → St → Prop) (s0 : Int32) (σ : St) : Prop := True
def f_Rd_readBracket_60 (RF : Int32 → St → Int32 × St) (s0 : Int32) (σ : St) : Int32 × St := (s0, σ)
def k_Rd_readBracket_60 (RF : Int32 → St → Int32 × St) (RK : Int32 → St → Prop) (s0 : Int32) (σ : St) : Prop := True
def f_Rd_readBracket_102 (RF : Int32 → St → Int32 × St) (s0 : Int32) (σ : St) : Int32 × St := (s0, σ)
def k_Rd_readBracket_102 (RF : Int32 → St → Int32 × St) (RK : Int32 → St → Prop) (s0 : Int32) (σ : St) : Prop := True
def f_Rd_readBracket_84 (RF : Int32 → St → Int32 × St) (x1 : Int32) (s0 : Int32) (σ : St) : Int32 × St := if s0 = (-1) then (f_Rd_readBracket_102 RF (-1) σ) else (f_Rd_readBracket_102 RF ((f_Rd_readOverTruth RF 10 s0 x1 σ).1) ((f_Rd_readOverTruth RF 10 s0 x1 σ).2))
def k_Rd_readBracket_84 (RF : Int32 → St → Int32 × St) (RK : Int32 → St → Prop) (x1 : Int32) (s0 : Int32) (σ : St) : Prop := (s0 = (-1) → (k_Rd_readBracket_102 RF RK (-1) σ)) ∧ (¬ s0 = (-1) → ((k_Rd_readOverTruth RF RK 10 s0 x1 σ) ∧ (k_Rd_readBracket_102 RF RK ((f_Rd_readOverTruth RF 10 s0 x1 σ).1) ((f_Rd_readOverTruth RF 10 s0 x1 σ).2))))
def f_Rd_readBracket_80 (RF : Int32 → St → Int32 × St) (x1 : Int32) (s0 : Int32) (σ : St) : Int32 × St := f_Rd_readBracket_84 RF x1 s0 σ
def k_Rd_readBracket_80 (RF : Int32 → St → Int32 × St) (RK : Int32 → St → Prop) (x1 : Int32) (s0 : Int32) (σ : St) : Prop := k_Rd_readBracket_84 RF RK x1 s0 σ
def f_Rd_readBracket_73 (RF : Int32 → St → Int32 × St) (x1 : Int32) (s0 : Int32) (σ : St) : Int32 × St := if s0 = 0 then (f_Rd_readBracket_84 RF x1 (-1) σ) else (f_Rd_readBracket_80 RF x1 ((f_Rd_readVariable σ).1) ((f_Rd_readVariable σ).2))
def k_Rd_readBracket_73 (RF : Int32 → St → Int32 × St) (RK : Int32 → St → Prop) (x1 : Int32) (s0 : Int32) (σ : St) : Prop := (s0 = 0 → (k_Rd_readBracket_84 RF RK x1 (-1) σ)) ∧ (¬ s0 = 0 → ((k_Rd_readVariable σ) ∧ (k_Rd_readBracket_80 RF RK x1 ((f_Rd_readVariable σ).1) ((f_Rd_readVariable σ).2))))
def f_Rd_readBracket_126 (RF : Int32 → St → Int32 × St) (s0 : Int32) (σ : St) : Int32 × St := (s0, σ)
def k_Rd_readBracket_126 (RF : Int32 → St → Int32 × St) (RK : Int32 → St → Prop) (s0 : Int32) (σ : St) : Prop := True
def f_Rd_readBracket_110 (RF : Int32 → St → Int32 × St) (x1 : Int32) (x3 : Int32) (σ : St) : Int32 × St := if 0 ≤ x3 then (f_Rd_readBracket_126 RF ((f_Rd_readOverTwo RF (3 + x3) x1 σ).1) ((f_Rd_readOverTwo RF (3 + x3) x1 σ).2)) else (f_Rd_readBracket_126 RF (-1) σ)
def k_Rd_readBracket_110 (RF : Int32 → St → Int32 × St) (RK : Int32 → St → Prop) (x1 : Int32) (x3 : Int32) (σ : St) : Prop := (0 ≤ x3 → ((k_Rd_readOverTwo RF RK (3 + x3) x1 σ) ∧ (k_Rd_readBracket_126 RF RK ((f_Rd_readOverTwo RF (3 + x3) x1 σ).1) ((f_Rd_readOverTwo RF (3 + x3) x1 σ).2)))) ∧ (¬ 0 ≤ x3 → (k_Rd_readBracket_126 RF RK (-1) σ))
def f_Rd_readBracket_46 (RF : Int32 → St → Int32 × St) (x1 : Int32) (x2 : Int32) (σ : St) : Int32 × St := if x2 = 126 then (f_Rd_readBracket_60 RF ((f_Rd_readOverTruth RF 7 (-1) x1 σ).1) ((f_Rd_readOverTruth RF 7 (-1) x1 σ).2)) else (if x2 = 33 then (f_Rd_readBracket_73 RF x1 ((f_Rd_take 32 σ).1) ((f_Rd_take 32 σ).2)) else (f_Rd_readBracket_110 RF x1 (f_JS_indexOf_6 x2 σ) σ))
def k_Rd_readBracket_46 (RF : Int32 → St → Int32 × St) (RK : Int32 → St → Prop) (x1 : Int32) (x2 : Int32) (σ : St) : Prop := (x2 = 126 → ((k_Rd_readOverTruth RF RK 7 (-1) x1 σ) ∧ (k_Rd_readBracket_60 RF RK ((f_Rd_readOverTruth RF 7 (-1) x1 σ).1) ((f_Rd_readOverTruth RF 7 (-1) x1 σ).2)))) ∧ (¬ x2 = 126 → ((x2 = 33 → ((k_Rd_take 32 σ) ∧ (k_Rd_readBracket_73 RF RK x1 ((f_Rd_take 32 σ).1) ((f_Rd_take 32 σ).2)))) ∧ (¬ x2 = 33 → ((k_JS_indexOf_6 x2 σ) ∧ (k_Rd_readBracket_110 RF RK x1 (f_JS_indexOf_6 x2 σ) σ)))))
def f_Rd_readBracket_24 (RF : Int32 → St → Int32 × St) (x1 : Int32) (x2 : Int32) (σ : St) : Int32 × St := if x2 < 97 then (f_Rd_readBracket_46 RF x1 x2 σ) else (if 108 < x2 then (f_Rd_readBracket_46 RF x1 x2 σ) else (f_Rd_readBracket_45 RF ((f_Rd_readApplied RF (x2 - 97) x1 σ).1) ((f_Rd_readApplied RF (x2 - 97) x1 σ).2)))
def k_Rd_readBracket_24 (RF : Int32 → St → Int32 × St) (RK : Int32 → St → Prop) (x1 : Int32) (x2 : Int32) (σ : St) : Prop := (x2 < 97 → (k_Rd_readBracket_46 RF RK x1 x2 σ)) ∧ (¬ x2 < 97 → ((108 < x2 → (k_Rd_readBracket_46 RF RK x1 x2 σ)) ∧ (¬ 108 < x2 → ((k_Rd_readApplied RF RK (x2 - 97) x1 σ) ∧ (k_Rd_readBracket_45 RF RK ((f_Rd_readApplied RF (x2 - 97) x1 σ).1) ((f_Rd_readApplied RF (x2 - 97) x1 σ).2))))))
def f_Rd_readBracket_14 (RF : Int32 → St → Int32 × St) (x1 : Int32) (x2 : Int32) (σ : St) : Int32 × St := f_Rd_readBracket_24 RF x1 x2 (sF σ 20 3 ((σ.1 20 3) + 2))
def k_Rd_readBracket_14 (RF : Int32 → St → Int32 × St) (RK : Int32 → St → Prop) (x1 : Int32) (x2 : Int32) (σ : St) : Prop := k_Rd_readBracket_24 RF RK x1 x2 (sF σ 20 3 ((σ.1 20 3) + 2))
def f_Rd_readBracket (RF : Int32 → St → Int32 × St) (a1 : Int32) (σ : St) : Int32 × St := f_Rd_readBracket_14 RF a1 (f_Dr_letter ((σ.1 20 3) + 1) σ) σ
def k_Rd_readBracket (RF : Int32 → St → Int32 × St) (RK : Int32 → St → Prop) (a1 : Int32) (σ : St) : Prop := (k_Dr_letter ((σ.1 20 3) + 1) σ) ∧ (k_Rd_readBracket_14 RF RK a1 (f_Dr_letter ((σ.1 20 3) + 1) σ) σ)
set_option maxHeartbeats 4000000 in
set_option maxRecDepth 100000 in
theorem c_Rd_readBracket (l : Launch) (D : va_G) (ty : Nat → ClassId) (h : Nat → Nat) (px : va_W) (sa : Nat → Nat) (d : Nat) (RF : Int32 → St → Int32 × St) (RK : Int32 → St → Prop) (hR : ∀ (σ : St) (sz : Nat) (b0 : Int32), RK b0 σ → Met l y_Rd_readAny w_Rd_readAny (rk_Rd_readAny d) (va_Pc [.ref (h 20), .int b0] (fun U => U.heap.size = sz ∧ va_P D classes (Wc ty h σ px) U.heap ∧ va_K D classes (Ta ty) U ∧ NW U ∧ MK sa (va_A (Wc ty h σ px) sz) U U.heap ∧ va_D (fun _ => True) (Wc ty h σ px))) (va_Qi (fun r (u : St) => (r, u) = RF b0 σ) (fun u t => va_P D classes (Wc ty h u px) t.heap) (va_A (Wc ty h σ px) sz)) 0 0 (va_A (Wc ty h σ px) sz)) (σ : St) (sz : Nat) (a1 : Int32) (hk : k_Rd_readBracket RF RK a1 σ) : Met l y_Rd_readBracket w_Rd_readBracket (rm_Rd_readBracket d) (va_Pc [.ref (h 20), .int a1] (fun U => U.heap.size = sz ∧ va_P D classes (Wc ty h σ px) U.heap ∧ va_K D classes (Ta ty) U ∧ NW U ∧ MK sa (va_A (Wc ty h σ px) sz) U U.heap ∧ va_D (fun _ => True) (Wc ty h σ px))) (va_Qi (fun r (u : St) => (r, u) = f_Rd_readBracket RF a1 σ) (fun u t => va_P D classes (Wc ty h u px) t.heap) (va_A (Wc ty h σ px) sz)) 0 0 (va_A (Wc ty h σ px) sz) := by
  refine Met.ofW (cc := b_Rd_readBracket) (maxL := 4) (ret := (some .int)) (by decide) rfl ?_
  intro p e s m args below meth c s₁ B hml hv
  obtain ⟨ha, hsz, hP, hK, hN, hM, hD0⟩ := hv
  have hx := B.exec
  have hb := B.bytes
  have hr := B.returns
  have hg : ∀ w ∈ gw, w.before args s = true := fun w h9 => atoms_spec (ws := w_Rd_readBracket) B.pre w (List.mem_cons_of_mem _ h9)
  have hown : s.vm.findClass "ClauseLedger$Reader" = some m.cls := findClass_of_methodNamed B.named
  have hlocks := B.notSynchronized
  subst hsz
  have hD := hD0.self (sz := s.heap.size)
  generalize hAe : va_A (Wc ty h σ px) s.heap.size = A at hD hM ⊢
  have hA : ∀ q : Nat, s.heap.size ≤ q → A q := fun q h9 => by rw [← hAe]; exact Or.inr h9
  have hS : va_S A s.heap s.heap [] := va_S.rf
  have he : entryFrame m args 4 = entryFrame m ([.ref (h 20), .int a1] : List Value).toArray 4 := by rw [ha]
  rw [he, lg_entry_eq]
  have hl := lv_entry ([.ref (h 20), .int a1]) (n := 4) (Nat.le_of_ble_eq_true rfl)
  generalize (lg_sl ([.ref (h 20), .int a1]) ++ List.replicate (4 - (lg_sl ([.ref (h 20), .int a1])).length) Slot.unset).toArray = ls at hl ⊢
  have hl : lv_has ls 4 [(0, .ref (h 20)), (1, .int a1)] := hl
  generalize hv : f_Rd_readBracket RF a1 σ = v
  replace hv := hv.symm
  have B45 : ∀ (H : Heap) (locs : List Loc) (ls : Array Slot) (s0 : Int32) (σ : St), v = f_Rd_readBracket_45 RF s0 σ → k_Rd_readBracket_45 RF RK s0 σ → lv_has ls 4 [] → va_P D classes (Wc ty h σ px) H → va_D A (Wc ty h σ px) → va_S A s.heap H locs → W p l e (headSpec w_Rd_readBracket (rm_Rd_readBracket d)).room s m args below meth c H locs 0 0 (MQ below (va_Qi (fun r (u : St) => (r, u) = v) (fun u t => va_P D classes (Wc ty h u px) t.heap) A) args s 0 0 A) (F0 m 45 ls [.int s0]) := by
    intro H locs ls s0 σ hv hk hl hP hD hS
    unfold f_Rd_readBracket_45 at hv
    unfold k_Rd_readBracket_45 at hk
    exact W.iret hx hb hr (fun t ht hW => ⟨⟨_, _, rfl, hv.symm, by dsimp only; rw [ht]; exact hP⟩, hS.F ht⟩) hS.2.2 d_Rd_readBracket_45
  have B60 : ∀ (H : Heap) (locs : List Loc) (ls : Array Slot) (s0 : Int32) (σ : St), v = f_Rd_readBracket_60 RF s0 σ → k_Rd_readBracket_60 RF RK s0 σ → lv_has ls 4 [] → va_P D classes (Wc ty h σ px) H → va_D A (Wc ty h σ px) → va_S A s.heap H locs → W p l e (headSpec w_Rd_readBracket (rm_Rd_readBracket d)).room s m args below meth c H locs 0 0 (MQ below (va_Qi (fun r (u : St) => (r, u) = v) (fun u t => va_P D classes (Wc ty h u px) t.heap) A) args s 0 0 A) (F0 m 60 ls [.int s0]) := by
    intro H locs ls s0 σ hv hk hl hP hD hS
    unfold f_Rd_readBracket_60 at hv
    unfold k_Rd_readBracket_60 at hk
    exact W.iret hx hb hr (fun t ht hW => ⟨⟨_, _, rfl, hv.symm, by dsimp only; rw [ht]; exact hP⟩, hS.F ht⟩) hS.2.2 d_Rd_readBracket_60
  have B102 : ∀ (H : Heap) (locs : List Loc) (ls : Array Slot) (s0 : Int32) (σ : St), v = f_Rd_readBracket_102 RF s0 σ → k_Rd_readBracket_102 RF RK s0 σ → lv_has ls 4 [] → va_P D classes (Wc ty h σ px) H → va_D A (Wc ty h σ px) → va_S A s.heap H locs → W p l e (headSpec w_Rd_readBracket (rm_Rd_readBracket d)).room s m args below meth c H locs 0 0 (MQ below (va_Qi (fun r (u : St) => (r, u) = v) (fun u t => va_P D classes (Wc ty h u px) t.heap) A) args s 0 0 A) (F0 m 102 ls [.int s0]) := by
    intro H locs ls s0 σ hv hk hl hP hD hS
    unfold f_Rd_readBracket_102 at hv
    unfold k_Rd_readBracket_102 at hk
    exact W.iret hx hb hr (fun t ht hW => ⟨⟨_, _, rfl, hv.symm, by dsimp only; rw [ht]; exact hP⟩, hS.F ht⟩) hS.2.2 d_Rd_readBracket_102
  have B84 : ∀ (H : Heap) (locs : List Loc) (ls : Array Slot) (x1 : Int32) (s0 : Int32) (σ : St), v = f_Rd_readBracket_84 RF x1 s0 σ → k_Rd_readBracket_84 RF RK x1 s0 σ → lv_has ls 4 [(0, .ref (h 20)), (1, .int x1)] → va_P D classes (Wc ty h σ px) H → va_D A (Wc ty h σ px) → va_S A s.heap H locs → W p l e (headSpec w_Rd_readBracket (rm_Rd_readBracket d)).room s m args below meth c H locs 0 0 (MQ below (va_Qi (fun r (u : St) => (r, u) = v) (fun u t => va_P D classes (Wc ty h u px) t.heap) A) args s 0 0 A) (F0 m 84 ls [.int s0]) := by
    intro H locs ls x1 s0 σ hv hk hl hP hD hS
    unfold f_Rd_readBracket_84 at hv
    unfold k_Rd_readBracket_84 at hk
    refine lv_istore_n (lv' := [(3, .int s0), (0, .ref (h 20)), (1, .int x1)]) hx hb d_Rd_readBracket_84 rfl hl (by decide) rfl (fun ls hl => ?_)
    refine lv_iload_n hx hb d_Rd_readBracket_85 rfl (lv_at hl 0 rfl) ?_
    refine lv_iconst (v := -1) hx hb d_Rd_readBracket_86 (by decide) ?_
    refine lv_icmp_ne (tgt := 94) hx hb d_Rd_readBracket_87 (by decide) (fun hc => ?_) (fun hc => ?_)
    · have hv := hv.trans (if_neg hc)
      have hk := hk.2 hc
      refine lv_aload_n hx hb d_Rd_readBracket_94 rfl (lv_at hl 1 rfl) ?_
      refine lv_bipush (v := 10) hx hb d_Rd_readBracket_95 (by decide) ?_
      refine lv_iload_n hx hb d_Rd_readBracket_97 rfl (lv_at hl 0 rfl) ?_
      refine lv_iload_n hx hb d_Rd_readBracket_98 rfl (lv_at hl 2 rfl) ?_
      obtain ⟨hk0, hk⟩ := hk
      refine va_calli (va_runV (As := [.int 10, .int s0, .int x1]) (rest := []) ⟨hx, hb, hml, hown, hg⟩ (c_Rd_readOverTruth l D ty h px sa d RF RK hR σ H.size 10 s0 x1 hk0) ⟨callB_of 3 hg (gw_C m_657) rfl rfl rfl (hg _ m_5) (hg _ m_654) hd_Rd_readOverTruth ⟨(by simp only [headSpec, rm_Rd_readBracket, rm_Rd_readOverTruth]; omega), (by simp only [headSpec, rm_Rd_readBracket, rm_Rd_readOverTruth]; omega)⟩, hg _ m_656, hg _ ms_17⟩ (zz_preVW hM hS hA hN hK hP hD 20 rfl rfl) rfl rfl hl.1 rfl (lv_room (Nat.le_of_ble_eq_true rfl)) d_Rd_readBracket_99 ⟨Nat.le_of_ble_eq_true rfl, Nat.le_of_ble_eq_true rfl⟩) hS (fun q _ h => zz_free hD hS hA q h) (zz_free hD hS hA) (fun r99 u99 t H locs ht hvm hp hP1 hz hk1 hS => ?_)
      rw [ht] at hP1
      rw [← hp] at hv hk
      have hD : va_D A (Wc ty h u99 px) := zz_D hD rfl
      have hP := hP1
      exact B102 _ _ _ r99 u99 hv hk (lv_sub hl [] rfl) hP hD hS
    · have hv := hv.trans (if_pos hc)
      have hk := hk.1 hc
      refine lv_iconst (v := -1) hx hb d_Rd_readBracket_90 (by decide) ?_
      refine lv_goto (tgt := 102) hx hb d_Rd_readBracket_91 (by decide) ?_
      exact B102 _ _ _ (-1) σ hv hk (lv_sub hl [] rfl) hP hD hS
  have B80 : ∀ (H : Heap) (locs : List Loc) (ls : Array Slot) (x1 : Int32) (s0 : Int32) (σ : St), v = f_Rd_readBracket_80 RF x1 s0 σ → k_Rd_readBracket_80 RF RK x1 s0 σ → lv_has ls 4 [(0, .ref (h 20)), (1, .int x1)] → va_P D classes (Wc ty h σ px) H → va_D A (Wc ty h σ px) → va_S A s.heap H locs → W p l e (headSpec w_Rd_readBracket (rm_Rd_readBracket d)).room s m args below meth c H locs 0 0 (MQ below (va_Qi (fun r (u : St) => (r, u) = v) (fun u t => va_P D classes (Wc ty h u px) t.heap) A) args s 0 0 A) (F0 m 80 ls [.int s0]) := by
    intro H locs ls x1 s0 σ hv hk hl hP hD hS
    unfold f_Rd_readBracket_80 at hv
    unfold k_Rd_readBracket_80 at hk
    refine lv_goto (tgt := 84) hx hb d_Rd_readBracket_80 (by decide) ?_
    exact B84 _ _ _ x1 s0 σ hv hk (lv_sub hl [0, 1] rfl) hP hD hS
  have B73 : ∀ (H : Heap) (locs : List Loc) (ls : Array Slot) (x1 : Int32) (s0 : Int32) (σ : St), v = f_Rd_readBracket_73 RF x1 s0 σ → k_Rd_readBracket_73 RF RK x1 s0 σ → lv_has ls 4 [(0, .ref (h 20)), (1, .int x1)] → va_P D classes (Wc ty h σ px) H → va_D A (Wc ty h σ px) → va_S A s.heap H locs → W p l e (headSpec w_Rd_readBracket (rm_Rd_readBracket d)).room s m args below meth c H locs 0 0 (MQ below (va_Qi (fun r (u : St) => (r, u) = v) (fun u t => va_P D classes (Wc ty h u px) t.heap) A) args s 0 0 A) (F0 m 73 ls [.int s0]) := by
    intro H locs ls x1 s0 σ hv hk hl hP hD hS
    unfold f_Rd_readBracket_73 at hv
    unfold k_Rd_readBracket_73 at hk
    refine lv_if_eq (tgt := 83) hx hb d_Rd_readBracket_73 (by decide) (fun hc => ?_) (fun hc => ?_)
    · have hv := hv.trans (if_pos hc)
      have hk := hk.1 hc
      refine lv_iconst (v := -1) hx hb d_Rd_readBracket_83 (by decide) ?_
      exact B84 _ _ _ x1 (-1) σ hv hk (lv_sub hl [0, 1] rfl) hP hD hS
    · have hv := hv.trans (if_neg hc)
      have hk := hk.2 hc
      refine lv_aload_n hx hb d_Rd_readBracket_76 rfl (lv_at hl 0 rfl) ?_
      obtain ⟨hk0, hk⟩ := hk
      refine va_calli (va_runV (As := []) (rest := []) ⟨hx, hb, hml, hown, hg⟩ (c_Rd_readVariable l D ty h px sa σ H.size  hk0) ⟨callB_of 0 hg (gw_C m_666) rfl rfl rfl (hg _ m_5) (hg _ m_663) hd_Rd_readVariable ⟨(by simp only [headSpec, rm_Rd_readBracket, rm_Rd_readVariable]; omega), (by simp only [headSpec, rm_Rd_readBracket, rm_Rd_readVariable]; omega)⟩, hg _ m_665, hg _ ms_18⟩ (zz_preVW hM hS hA hN hK hP hD 20 rfl rfl) rfl rfl hl.1 rfl (lv_room (Nat.le_of_ble_eq_true rfl)) d_Rd_readBracket_77 ⟨Nat.le_of_ble_eq_true rfl, Nat.le_of_ble_eq_true rfl⟩) hS (fun q _ h => zz_free hD hS hA q h) (zz_free hD hS hA) (fun r77 u77 t H locs ht hvm hp hP1 hz hk1 hS => ?_)
      rw [ht] at hP1
      rw [← hp] at hv hk
      have hD : va_D A (Wc ty h u77 px) := zz_D hD rfl
      have hP := hP1
      exact B80 _ _ _ x1 r77 u77 hv hk (lv_sub hl [0, 1] rfl) hP hD hS
  have B126 : ∀ (H : Heap) (locs : List Loc) (ls : Array Slot) (s0 : Int32) (σ : St), v = f_Rd_readBracket_126 RF s0 σ → k_Rd_readBracket_126 RF RK s0 σ → lv_has ls 4 [] → va_P D classes (Wc ty h σ px) H → va_D A (Wc ty h σ px) → va_S A s.heap H locs → W p l e (headSpec w_Rd_readBracket (rm_Rd_readBracket d)).room s m args below meth c H locs 0 0 (MQ below (va_Qi (fun r (u : St) => (r, u) = v) (fun u t => va_P D classes (Wc ty h u px) t.heap) A) args s 0 0 A) (F0 m 126 ls [.int s0]) := by
    intro H locs ls s0 σ hv hk hl hP hD hS
    unfold f_Rd_readBracket_126 at hv
    unfold k_Rd_readBracket_126 at hk
    exact W.iret hx hb hr (fun t ht hW => ⟨⟨_, _, rfl, hv.symm, by dsimp only; rw [ht]; exact hP⟩, hS.F ht⟩) hS.2.2 d_Rd_readBracket_126
  have B110 : ∀ (H : Heap) (locs : List Loc) (ls : Array Slot) (x1 : Int32) (x3 : Int32) (σ : St), v = f_Rd_readBracket_110 RF x1 x3 σ → k_Rd_readBracket_110 RF RK x1 x3 σ → lv_has ls 4 [(0, .ref (h 20)), (1, .int x1), (3, .int x3)] → va_P D classes (Wc ty h σ px) H → va_D A (Wc ty h σ px) → va_S A s.heap H locs → W p l e (headSpec w_Rd_readBracket (rm_Rd_readBracket d)).room s m args below meth c H locs 0 0 (MQ below (va_Qi (fun r (u : St) => (r, u) = v) (fun u t => va_P D classes (Wc ty h u px) t.heap) A) args s 0 0 A) (F0 m 110 ls []) := by
    intro H locs ls x1 x3 σ hv hk hl hP hD hS
    unfold f_Rd_readBracket_110 at hv
    unfold k_Rd_readBracket_110 at hk
    refine lv_iload_n hx hb d_Rd_readBracket_110 rfl (lv_at hl 2 rfl) ?_
    refine lv_if_ge (tgt := 118) hx hb d_Rd_readBracket_111 (by decide) (fun hc => ?_) (fun hc => ?_)
    · have hv := hv.trans (if_pos hc)
      have hk := hk.1 hc
      refine lv_aload_n hx hb d_Rd_readBracket_118 rfl (lv_at hl 0 rfl) ?_
      refine lv_iconst (v := 3) hx hb d_Rd_readBracket_119 (by decide) ?_
      refine lv_iload_n hx hb d_Rd_readBracket_120 rfl (lv_at hl 2 rfl) ?_
      refine lv_iadd hx hb d_Rd_readBracket_121 ?_
      refine lv_iload_n hx hb d_Rd_readBracket_122 rfl (lv_at hl 1 rfl) ?_
      obtain ⟨hk0, hk⟩ := hk
      refine va_calli (va_runV (As := [.int (3 + x3), .int x1]) (rest := []) ⟨hx, hb, hml, hown, hg⟩ (c_Rd_readOverTwo l D ty h px sa d RF RK hR σ H.size (3 + x3) x1 hk0) ⟨callB_of 2 hg (gw_C m_727) rfl rfl rfl (hg _ m_5) (hg _ m_724) hd_Rd_readOverTwo ⟨(by simp only [headSpec, rm_Rd_readBracket, rm_Rd_readOverTwo]; omega), (by simp only [headSpec, rm_Rd_readBracket, rm_Rd_readOverTwo]; omega)⟩, hg _ m_726, hg _ ms_19⟩ (zz_preVW hM hS hA hN hK hP hD 20 rfl rfl) rfl rfl hl.1 rfl (lv_room (Nat.le_of_ble_eq_true rfl)) d_Rd_readBracket_123 ⟨Nat.le_of_ble_eq_true rfl, Nat.le_of_ble_eq_true rfl⟩) hS (fun q _ h => zz_free hD hS hA q h) (zz_free hD hS hA) (fun r123 u123 t H locs ht hvm hp hP1 hz hk1 hS => ?_)
      rw [ht] at hP1
      rw [← hp] at hv hk
      have hD : va_D A (Wc ty h u123 px) := zz_D hD rfl
      have hP := hP1
      exact B126 _ _ _ r123 u123 hv hk (lv_sub hl [] rfl) hP hD hS
    · have hv := hv.trans (if_neg hc)
      have hk := hk.2 hc
      refine lv_iconst (v := -1) hx hb d_Rd_readBracket_114 (by decide) ?_
      refine lv_goto (tgt := 126) hx hb d_Rd_readBracket_115 (by decide) ?_
      exact B126 _ _ _ (-1) σ hv hk (lv_sub hl [] rfl) hP hD hS
  have B46 : ∀ (H : Heap) (locs : List Loc) (ls : Array Slot) (x1 : Int32) (x2 : Int32) (σ : St), v = f_Rd_readBracket_46 RF x1 x2 σ → k_Rd_readBracket_46 RF RK x1 x2 σ → lv_has ls 4 [(0, .ref (h 20)), (1, .int x1), (2, .int x2)] → va_P D classes (Wc ty h σ px) H → va_D A (Wc ty h σ px) → va_S A s.heap H locs → W p l e (headSpec w_Rd_readBracket (rm_Rd_readBracket d)).room s m args below meth c H locs 0 0 (MQ below (va_Qi (fun r (u : St) => (r, u) = v) (fun u t => va_P D classes (Wc ty h u px) t.heap) A) args s 0 0 A) (F0 m 46 ls []) := by
    intro H locs ls x1 x2 σ hv hk hl hP hD hS
    unfold f_Rd_readBracket_46 at hv
    unfold k_Rd_readBracket_46 at hk
    refine lv_iload_n hx hb d_Rd_readBracket_46 rfl (lv_at hl 2 rfl) ?_
    refine lv_bipush (v := 126) hx hb d_Rd_readBracket_47 (by decide) ?_
    refine lv_icmp_ne (tgt := 61) hx hb d_Rd_readBracket_49 (by decide) (fun hc => ?_) (fun hc => ?_)
    · have hv := hv.trans (if_neg hc)
      have hk := hk.2 hc
      refine lv_iload_n hx hb d_Rd_readBracket_61 rfl (lv_at hl 2 rfl) ?_
      refine lv_bipush (v := 33) hx hb d_Rd_readBracket_62 (by decide) ?_
      refine lv_icmp_ne (tgt := 103) hx hb d_Rd_readBracket_64 (by decide) (fun hc => ?_) (fun hc => ?_)
      · have hv := hv.trans (if_neg hc)
        have hk := hk.2 hc
        refine va_ldcS hx hb hown hM.2.2.2.1 d_Rd_readBracket_103 ?_
        refine lv_iload_n hx hb d_Rd_readBracket_105 rfl (lv_at hl 2 rfl) ?_
        obtain ⟨hk0, hk⟩ := hk
        refine zz_callV (va_runV (As := [.int x2]) (rest := []) ⟨hx, hb, hml, hown, hg⟩ (c_JS_indexOf_6 l D ty h px sa σ x2 hk0) ⟨callB_of 1 hg (gw_C m_672) rfl rfl rfl (hg _ m_15) (hg _ m_669) hd_JS_indexOf_6 ⟨(by simp only [headSpec, rm_Rd_readBracket, rm_JS_indexOf_6]; omega), (by simp only [headSpec, rm_Rd_readBracket, rm_JS_indexOf_6]; omega)⟩, hg _ m_670, hg _ m_671⟩ (zz_preT (hM.at hS) hN hK hP) rfl rfl hl.1 rfl (lv_room (Nat.le_of_ble_eq_true rfl)) d_Rd_readBracket_106 ⟨Nat.le_of_ble_eq_true rfl, Nat.le_of_ble_eq_true rfl⟩) ?_
        refine lv_istore_n (lv' := [(3, .int (f_JS_indexOf_6 x2 σ)), (0, .ref (h 20)), (1, .int x1), (2, .int x2)]) hx hb d_Rd_readBracket_109 rfl hl (by decide) rfl (fun ls hl => ?_)
        exact B110 _ _ _ x1 (f_JS_indexOf_6 x2 σ) σ hv hk (lv_sub hl [1, 2, 0] rfl) hP hD hS
      · have hv := hv.trans (if_pos hc)
        have hk := hk.1 hc
        refine lv_aload_n hx hb d_Rd_readBracket_67 rfl (lv_at hl 0 rfl) ?_
        refine lv_bipush (v := 32) hx hb d_Rd_readBracket_68 (by decide) ?_
        obtain ⟨hk0, hk⟩ := hk
        refine va_calli (va_runV (As := [.int 32]) (rest := []) ⟨hx, hb, hml, hown, hg⟩ (c_Rd_take l D ty h px sa σ H.size 32 hk0) ⟨callB_of 1 hg (gw_C m_611) rfl rfl rfl (hg _ m_5) (hg _ m_608) hd_Rd_take ⟨(by simp only [headSpec, rm_Rd_readBracket, rm_Rd_take]; omega), (by simp only [headSpec, rm_Rd_readBracket, rm_Rd_take]; omega)⟩, hg _ m_610, hg _ ms_13⟩ (zz_preVW hM hS hA hN hK hP hD 20 rfl rfl) rfl rfl hl.1 rfl (lv_room (Nat.le_of_ble_eq_true rfl)) d_Rd_readBracket_70 ⟨Nat.le_of_ble_eq_true rfl, Nat.le_of_ble_eq_true rfl⟩) hS (fun q _ h => zz_free hD hS hA q h) (zz_free hD hS hA) (fun r70 u70 t H locs ht hvm hp hP1 hz hk1 hS => ?_)
        rw [ht] at hP1
        rw [← hp] at hv hk
        have hD : va_D A (Wc ty h u70 px) := zz_D hD rfl
        have hP := hP1
        exact B73 _ _ _ x1 r70 u70 hv hk (lv_sub hl [0, 1] rfl) hP hD hS
    · have hv := hv.trans (if_pos hc)
      have hk := hk.1 hc
      refine lv_aload_n hx hb d_Rd_readBracket_52 rfl (lv_at hl 0 rfl) ?_
      refine lv_bipush (v := 7) hx hb d_Rd_readBracket_53 (by decide) ?_
      refine lv_iconst (v := -1) hx hb d_Rd_readBracket_55 (by decide) ?_
      refine lv_iload_n hx hb d_Rd_readBracket_56 rfl (lv_at hl 1 rfl) ?_
      obtain ⟨hk0, hk⟩ := hk
      refine va_calli (va_runV (As := [.int 7, .int (-1), .int x1]) (rest := []) ⟨hx, hb, hml, hown, hg⟩ (c_Rd_readOverTruth l D ty h px sa d RF RK hR σ H.size 7 (-1) x1 hk0) ⟨callB_of 3 hg (gw_C m_657) rfl rfl rfl (hg _ m_5) (hg _ m_654) hd_Rd_readOverTruth ⟨(by simp only [headSpec, rm_Rd_readBracket, rm_Rd_readOverTruth]; omega), (by simp only [headSpec, rm_Rd_readBracket, rm_Rd_readOverTruth]; omega)⟩, hg _ m_656, hg _ ms_17⟩ (zz_preVW hM hS hA hN hK hP hD 20 rfl rfl) rfl rfl hl.1 rfl (lv_room (Nat.le_of_ble_eq_true rfl)) d_Rd_readBracket_57 ⟨Nat.le_of_ble_eq_true rfl, Nat.le_of_ble_eq_true rfl⟩) hS (fun q _ h => zz_free hD hS hA q h) (zz_free hD hS hA) (fun r57 u57 t H locs ht hvm hp hP1 hz hk1 hS => ?_)
      rw [ht] at hP1
      rw [← hp] at hv hk
      have hD : va_D A (Wc ty h u57 px) := zz_D hD rfl
      have hP := hP1
      exact B60 _ _ _ r57 u57 hv hk (lv_sub hl [] rfl) hP hD hS
  have B24 : ∀ (H : Heap) (locs : List Loc) (ls : Array Slot) (x1 : Int32) (x2 : Int32) (σ : St), v = f_Rd_readBracket_24 RF x1 x2 σ → k_Rd_readBracket_24 RF RK x1 x2 σ → lv_has ls 4 [(0, .ref (h 20)), (1, .int x1), (2, .int x2)] → va_P D classes (Wc ty h σ px) H → va_D A (Wc ty h σ px) → va_S A s.heap H locs → W p l e (headSpec w_Rd_readBracket (rm_Rd_readBracket d)).room s m args below meth c H locs 0 0 (MQ below (va_Qi (fun r (u : St) => (r, u) = v) (fun u t => va_P D classes (Wc ty h u px) t.heap) A) args s 0 0 A) (F0 m 24 ls []) := by
    intro H locs ls x1 x2 σ hv hk hl hP hD hS
    unfold f_Rd_readBracket_24 at hv
    unfold k_Rd_readBracket_24 at hk
    refine lv_iload_n hx hb d_Rd_readBracket_24 rfl (lv_at hl 2 rfl) ?_
    refine lv_bipush (v := 97) hx hb d_Rd_readBracket_25 (by decide) ?_
    refine lv_icmp_lt (tgt := 46) hx hb d_Rd_readBracket_27 (by decide) (fun hc => ?_) (fun hc => ?_)
    · have hv := hv.trans (if_pos hc)
      have hk := hk.1 hc
      exact B46 _ _ _ x1 x2 σ hv hk (lv_sub hl [0, 1, 2] rfl) hP hD hS
    · have hv := hv.trans (if_neg hc)
      have hk := hk.2 hc
      refine lv_iload_n hx hb d_Rd_readBracket_30 rfl (lv_at hl 2 rfl) ?_
      refine lv_bipush (v := 108) hx hb d_Rd_readBracket_31 (by decide) ?_
      refine lv_icmp_gt (tgt := 46) hx hb d_Rd_readBracket_33 (by decide) (fun hc => ?_) (fun hc => ?_)
      · have hv := hv.trans (if_pos hc)
        have hk := hk.1 hc
        exact B46 _ _ _ x1 x2 σ hv hk (lv_sub hl [0, 1, 2] rfl) hP hD hS
      · have hv := hv.trans (if_neg hc)
        have hk := hk.2 hc
        refine lv_aload_n hx hb d_Rd_readBracket_36 rfl (lv_at hl 0 rfl) ?_
        refine lv_iload_n hx hb d_Rd_readBracket_37 rfl (lv_at hl 2 rfl) ?_
        refine lv_bipush (v := 97) hx hb d_Rd_readBracket_38 (by decide) ?_
        refine lv_isub hx hb d_Rd_readBracket_40 ?_
        refine lv_iload_n hx hb d_Rd_readBracket_41 rfl (lv_at hl 1 rfl) ?_
        obtain ⟨hk0, hk⟩ := hk
        refine va_calli (va_runV (As := [.int (x2 - 97), .int x1]) (rest := []) ⟨hx, hb, hml, hown, hg⟩ (c_Rd_readApplied l D ty h px sa d RF RK hR σ H.size (x2 - 97) x1 hk0) ⟨callB_of 2 hg (gw_C m_591) rfl rfl rfl (hg _ m_5) (hg _ m_588) hd_Rd_readApplied ⟨(by simp only [headSpec, rm_Rd_readBracket, rm_Rd_readApplied]; omega), (by simp only [headSpec, rm_Rd_readBracket, rm_Rd_readApplied]; omega)⟩, hg _ m_590, hg _ ms_11⟩ (zz_preVW hM hS hA hN hK hP hD 20 rfl rfl) rfl rfl hl.1 rfl (lv_room (Nat.le_of_ble_eq_true rfl)) d_Rd_readBracket_42 ⟨Nat.le_of_ble_eq_true rfl, Nat.le_of_ble_eq_true rfl⟩) hS (fun q _ h => zz_free hD hS hA q h) (zz_free hD hS hA) (fun r42 u42 t H locs ht hvm hp hP1 hz hk1 hS => ?_)
        rw [ht] at hP1
        rw [← hp] at hv hk
        have hD : va_D A (Wc ty h u42 px) := zz_D hD rfl
        have hP := hP1
        exact B45 _ _ _ r42 u42 hv hk (lv_sub hl [] rfl) hP hD hS
  have B14 : ∀ (H : Heap) (locs : List Loc) (ls : Array Slot) (x1 : Int32) (x2 : Int32) (σ : St), v = f_Rd_readBracket_14 RF x1 x2 σ → k_Rd_readBracket_14 RF RK x1 x2 σ → lv_has ls 4 [(0, .ref (h 20)), (1, .int x1), (2, .int x2)] → va_P D classes (Wc ty h σ px) H → va_D A (Wc ty h σ px) → va_S A s.heap H locs → W p l e (headSpec w_Rd_readBracket (rm_Rd_readBracket d)).room s m args below meth c H locs 0 0 (MQ below (va_Qi (fun r (u : St) => (r, u) = v) (fun u t => va_P D classes (Wc ty h u px) t.heap) A) args s 0 0 A) (F0 m 14 ls []) := by
    intro H locs ls x1 x2 σ hv hk hl hP hD hS
    unfold f_Rd_readBracket_14 at hv
    unfold k_Rd_readBracket_14 at hk
    refine lv_aload_n hx hb d_Rd_readBracket_14 rfl (lv_at hl 0 rfl) ?_
    refine lv_dup hx hb d_Rd_readBracket_15 rfl ?_
    refine va_get (v := .int (σ.1 20 3)) (C := R_Rd) (T := T_Rd) (N := 4) hx hb hg in_Rd hown hK hP 20 rfl rfl 3 (by decide) (hg _ m_136) (fun _ h9 => h9) rfl d_Rd_readBracket_16 ?_
    refine lv_iconst (v := 2) hx hb d_Rd_readBracket_19 (by decide) ?_
    refine lv_iadd hx hb d_Rd_readBracket_20 ?_
    refine va_put (v := .int ((σ.1 20 3) + 2)) (ty := .int) (C := R_Rd) (T := T_Rd) (N := 4) hx hb hg in_Rd ty_Rd ok_Rd nm_Rd hown hK hP hD hS 20 rfl rfl 3 (by decide) (hg _ m_136) (fun _ h9 => h9) rfl (by decide +kernel) rfl rfl (Nat.le_of_ble_eq_true rfl) d_Rd_readBracket_21 (fun H locs hP hD hS => ?_)
    have hP : va_P D classes (Wc ty h (sF σ 20 3 ((σ.1 20 3) + 2)) px) H := hP
    have hD : va_D A (Wc ty h (sF σ 20 3 ((σ.1 20 3) + 2)) px) := hD
    exact B24 _ _ _ x1 x2 (sF σ 20 3 ((σ.1 20 3) + 2)) hv hk (lv_sub hl [0, 1, 2] rfl) hP hD hS
  unfold f_Rd_readBracket at hv
  unfold k_Rd_readBracket at hk
  refine lv_aload_n hx hb d_Rd_readBracket_0 rfl (lv_at hl 0 rfl) ?_
  refine va_get (v := .ref (h 18)) (C := R_Rd) (T := T_Rd) (N := 4) hx hb hg in_Rd hown hK hP 20 rfl rfl 0 (by decide) (hg _ m_133) (fun _ h9 => h9) rfl d_Rd_readBracket_1 ?_
  refine lv_aload_n hx hb d_Rd_readBracket_4 rfl (lv_at hl 0 rfl) ?_
  refine va_get (v := .int (σ.1 20 3)) (C := R_Rd) (T := T_Rd) (N := 4) hx hb hg in_Rd hown hK hP 20 rfl rfl 3 (by decide) (hg _ m_136) (fun _ h9 => h9) rfl d_Rd_readBracket_5 ?_
  refine lv_iconst (v := 1) hx hb d_Rd_readBracket_8 (by decide) ?_
  refine lv_iadd hx hb d_Rd_readBracket_9 ?_
  obtain ⟨hk0, hk⟩ := hk
  refine zz_callV (va_runV (As := [.int ((σ.1 20 3) + 1)]) (rest := []) ⟨hx, hb, hml, hown, hg⟩ (c_Dr_letter l D ty h px sa σ ((σ.1 20 3) + 1) hk0) ⟨callB_of 1 hg (gw_C m_583) rfl rfl rfl (hg _ m_4) (hg _ m_580) hd_Dr_letter ⟨(by simp only [headSpec, rm_Rd_readBracket, rm_Dr_letter]; omega), (by simp only [headSpec, rm_Rd_readBracket, rm_Dr_letter]; omega)⟩, hg _ m_581, hg _ m_582⟩ (zz_preV (hM.at hS) hN hK hP 18 rfl rfl) rfl rfl hl.1 rfl (lv_room (Nat.le_of_ble_eq_true rfl)) d_Rd_readBracket_10 ⟨Nat.le_of_ble_eq_true rfl, Nat.le_of_ble_eq_true rfl⟩) ?_
  refine lv_istore_n (lv' := [(2, .int (f_Dr_letter ((σ.1 20 3) + 1) σ)), (0, .ref (h 20)), (1, .int a1)]) hx hb d_Rd_readBracket_13 rfl hl (by decide) rfl (fun ls hl => ?_)
  exact B14 _ _ _ a1 (f_Dr_letter ((σ.1 20 3) + 1) σ) σ hv hk (lv_sub hl [1, 2, 0] rfl) hP hD hS

theorem d_Rd_readAny_0 : decode b_Rd_readAny 0 = .ok (.aload_n 0, 1) := by decide +kernel
theorem d_Rd_readAny_1 : decode b_Rd_readAny 1 = .ok (.getfield 15, 3) := by decide +kernel
theorem d_Rd_readAny_4 : decode b_Rd_readAny 4 = .ok (.aload_n 0, 1) := by decide +kernel
theorem d_Rd_readAny_5 : decode b_Rd_readAny 5 = .ok (.getfield 9, 3) := by decide +kernel
theorem d_Rd_readAny_8 : decode b_Rd_readAny 8 = .ok (.invokevirtual 37, 3) := by decide +kernel
theorem d_Rd_readAny_11 : decode b_Rd_readAny 11 = .ok (.istore_n 2, 1) := by decide +kernel
theorem d_Rd_readAny_12 : decode b_Rd_readAny 12 = .ok (.iload_n 2, 1) := by decide +kernel
theorem d_Rd_readAny_13 : decode b_Rd_readAny 13 = .ok (.bipush 40, 2) := by decide +kernel
theorem d_Rd_readAny_15 : decode b_Rd_readAny 15 = .ok (.if_icmp .ne 21, 3) := by decide +kernel
theorem d_Rd_readAny_18 : decode b_Rd_readAny 18 = .ok (.iload_n 1, 1) := by decide +kernel
theorem d_Rd_readAny_19 : decode b_Rd_readAny 19 = .ok (.bipush 12, 2) := by decide +kernel
theorem d_Rd_readAny_21 : decode b_Rd_readAny 21 = .ok (.if_icmp .ge 13, 3) := by decide +kernel
theorem d_Rd_readAny_24 : decode b_Rd_readAny 24 = .ok (.aload_n 0, 1) := by decide +kernel
theorem d_Rd_readAny_25 : decode b_Rd_readAny 25 = .ok (.iload_n 1, 1) := by decide +kernel
theorem d_Rd_readAny_26 : decode b_Rd_readAny 26 = .ok (.iconst 1, 1) := by decide +kernel
theorem d_Rd_readAny_27 : decode b_Rd_readAny 27 = .ok (.iadd, 1) := by decide +kernel
theorem d_Rd_readAny_28 : decode b_Rd_readAny 28 = .ok (.invokevirtual 41, 3) := by decide +kernel
theorem d_Rd_readAny_31 : decode b_Rd_readAny 31 = .ok (.goto 4, 3) := by decide +kernel
theorem d_Rd_readAny_34 : decode b_Rd_readAny 34 = .ok (.iconst (-1), 1) := by decide +kernel
theorem d_Rd_readAny_35 : decode b_Rd_readAny 35 = .ok (.ireturn, 1) := by decide +kernel
theorem d_Rd_readAny_36 : decode b_Rd_readAny 36 = .ok (.iload_n 2, 1) := by decide +kernel
theorem d_Rd_readAny_37 : decode b_Rd_readAny 37 = .ok (.bipush 97, 2) := by decide +kernel
theorem d_Rd_readAny_39 : decode b_Rd_readAny 39 = .ok (.if_icmp .lt 14, 3) := by decide +kernel
theorem d_Rd_readAny_42 : decode b_Rd_readAny 42 = .ok (.iload_n 2, 1) := by decide +kernel
theorem d_Rd_readAny_43 : decode b_Rd_readAny 43 = .ok (.bipush 108, 2) := by decide +kernel
theorem d_Rd_readAny_45 : decode b_Rd_readAny 45 = .ok (.if_icmp .gt 8, 3) := by decide +kernel
theorem d_Rd_readAny_48 : decode b_Rd_readAny 48 = .ok (.aload_n 0, 1) := by decide +kernel
theorem d_Rd_readAny_49 : decode b_Rd_readAny 49 = .ok (.invokevirtual 44, 3) := by decide +kernel
theorem d_Rd_readAny_52 : decode b_Rd_readAny 52 = .ok (.ireturn, 1) := by decide +kernel
theorem d_Rd_readAny_53 : decode b_Rd_readAny 53 = .ok (.iload_n 2, 1) := by decide +kernel
theorem d_Rd_readAny_54 : decode b_Rd_readAny 54 = .ok (.bipush 120, 2) := by decide +kernel
theorem d_Rd_readAny_56 : decode b_Rd_readAny 56 = .ok (.if_icmp .lt 34, 3) := by decide +kernel
theorem d_Rd_readAny_59 : decode b_Rd_readAny 59 = .ok (.iload_n 2, 1) := by decide +kernel
theorem d_Rd_readAny_60 : decode b_Rd_readAny 60 = .ok (.bipush 122, 2) := by decide +kernel
theorem d_Rd_readAny_62 : decode b_Rd_readAny 62 = .ok (.if_icmp .gt 28, 3) := by decide +kernel
theorem d_Rd_readAny_65 : decode b_Rd_readAny 65 = .ok (.aload_n 0, 1) := by decide +kernel
theorem d_Rd_readAny_66 : decode b_Rd_readAny 66 = .ok (.invokevirtual 47, 3) := by decide +kernel
theorem d_Rd_readAny_69 : decode b_Rd_readAny 69 = .ok (.istore_n 3, 1) := by decide +kernel
theorem d_Rd_readAny_70 : decode b_Rd_readAny 70 = .ok (.aload_n 0, 1) := by decide +kernel
theorem d_Rd_readAny_71 : decode b_Rd_readAny 71 = .ok (.getfield 23, 3) := by decide +kernel
theorem d_Rd_readAny_74 : decode b_Rd_readAny 74 = .ok (.iconst 1, 1) := by decide +kernel
theorem d_Rd_readAny_75 : decode b_Rd_readAny 75 = .ok (.aload_n 0, 1) := by decide +kernel
theorem d_Rd_readAny_76 : decode b_Rd_readAny 76 = .ok (.getfield 19, 3) := by decide +kernel
theorem d_Rd_readAny_79 : decode b_Rd_readAny 79 = .ok (.iload_n 3, 1) := by decide +kernel
theorem d_Rd_readAny_80 : decode b_Rd_readAny 80 = .ok (.invokevirtual 50, 3) := by decide +kernel
theorem d_Rd_readAny_83 : decode b_Rd_readAny 83 = .ok (.iload_n 3, 1) := by decide +kernel
theorem d_Rd_readAny_84 : decode b_Rd_readAny 84 = .ok (.iconst (-1), 1) := by decide +kernel
theorem d_Rd_readAny_85 : decode b_Rd_readAny 85 = .ok (.iconst (-1), 1) := by decide +kernel
theorem d_Rd_readAny_86 : decode b_Rd_readAny 86 = .ok (.invokevirtual 55, 3) := by decide +kernel
theorem d_Rd_readAny_89 : decode b_Rd_readAny 89 = .ok (.ireturn, 1) := by decide +kernel
theorem d_Rd_readAny_90 : decode b_Rd_readAny 90 = .ok (.aload_n 0, 1) := by decide +kernel
theorem d_Rd_readAny_91 : decode b_Rd_readAny 91 = .ok (.invokevirtual 61, 3) := by decide +kernel
theorem d_Rd_readAny_94 : decode b_Rd_readAny 94 = .ok (.ireturn, 1) := by decide +kernel
def f_Rd_readAny_35 (RF : Int32 → St → Int32 × St) (s0 : Int32) (σ : St) : Int32 × St := (s0, σ)
def k_Rd_readAny_35 (RF : Int32 → St → Int32 × St) (RK : Int32 → St → Prop) (s0 : Int32) (σ : St) : Prop := True
def f_Rd_readAny_31 (RF : Int32 → St → Int32 × St) (s0 : Int32) (σ : St) : Int32 × St := f_Rd_readAny_35 RF s0 σ
def k_Rd_readAny_31 (RF : Int32 → St → Int32 × St) (RK : Int32 → St → Prop) (s0 : Int32) (σ : St) : Prop := k_Rd_readAny_35 RF RK s0 σ
def f_Rd_readAny_52 (RF : Int32 → St → Int32 × St) (s0 : Int32) (σ : St) : Int32 × St := (s0, σ)
def k_Rd_readAny_52 (RF : Int32 → St → Int32 × St) (RK : Int32 → St → Prop) (s0 : Int32) (σ : St) : Prop := True
def f_Rd_readAny_89 (RF : Int32 → St → Int32 × St) (s0 : Int32) (σ : St) : Int32 × St := (s0, σ)
def k_Rd_readAny_89 (RF : Int32 → St → Int32 × St) (RK : Int32 → St → Prop) (s0 : Int32) (σ : St) : Prop := True
def f_Rd_readAny_70 (RF : Int32 → St → Int32 × St) (x3 : Int32) (σ : St) : Int32 × St := f_Rd_readAny_89 RF ((f_Te_make 1 (f_Sg_sortOfVariable x3 σ) x3 (-1) (-1) σ).1) ((f_Te_make 1 (f_Sg_sortOfVariable x3 σ) x3 (-1) (-1) σ).2)
def k_Rd_readAny_70 (RF : Int32 → St → Int32 × St) (RK : Int32 → St → Prop) (x3 : Int32) (σ : St) : Prop := (k_Sg_sortOfVariable x3 σ) ∧ ((k_Te_make 1 (f_Sg_sortOfVariable x3 σ) x3 (-1) (-1) σ) ∧ (k_Rd_readAny_89 RF RK ((f_Te_make 1 (f_Sg_sortOfVariable x3 σ) x3 (-1) (-1) σ).1) ((f_Te_make 1 (f_Sg_sortOfVariable x3 σ) x3 (-1) (-1) σ).2)))
def f_Rd_readAny_69 (RF : Int32 → St → Int32 × St) (s0 : Int32) (σ : St) : Int32 × St := f_Rd_readAny_70 RF s0 σ
def k_Rd_readAny_69 (RF : Int32 → St → Int32 × St) (RK : Int32 → St → Prop) (s0 : Int32) (σ : St) : Prop := k_Rd_readAny_70 RF RK s0 σ
def f_Rd_readAny_94 (RF : Int32 → St → Int32 × St) (s0 : Int32) (σ : St) : Int32 × St := (s0, σ)
def k_Rd_readAny_94 (RF : Int32 → St → Int32 × St) (RK : Int32 → St → Prop) (s0 : Int32) (σ : St) : Prop := True
def f_Rd_readAny_90 (RF : Int32 → St → Int32 × St) (σ : St) : Int32 × St := f_Rd_readAny_94 RF ((f_Rd_readConstant σ).1) ((f_Rd_readConstant σ).2)
def k_Rd_readAny_90 (RF : Int32 → St → Int32 × St) (RK : Int32 → St → Prop) (σ : St) : Prop := (k_Rd_readConstant σ) ∧ (k_Rd_readAny_94 RF RK ((f_Rd_readConstant σ).1) ((f_Rd_readConstant σ).2))
def f_Rd_readAny_53 (RF : Int32 → St → Int32 × St) (x2 : Int32) (σ : St) : Int32 × St := if x2 < 120 then (f_Rd_readAny_90 RF σ) else (if 122 < x2 then (f_Rd_readAny_90 RF σ) else (f_Rd_readAny_69 RF ((f_Rd_readVariable σ).1) ((f_Rd_readVariable σ).2)))
def k_Rd_readAny_53 (RF : Int32 → St → Int32 × St) (RK : Int32 → St → Prop) (x2 : Int32) (σ : St) : Prop := (x2 < 120 → (k_Rd_readAny_90 RF RK σ)) ∧ (¬ x2 < 120 → ((122 < x2 → (k_Rd_readAny_90 RF RK σ)) ∧ (¬ 122 < x2 → ((k_Rd_readVariable σ) ∧ (k_Rd_readAny_69 RF RK ((f_Rd_readVariable σ).1) ((f_Rd_readVariable σ).2))))))
def f_Rd_readAny_12 (RF : Int32 → St → Int32 × St) (x1 : Int32) (x2 : Int32) (σ : St) : Int32 × St := if x2 = 40 then (if 12 ≤ x1 then (f_Rd_readAny_35 RF (-1) σ) else (f_Rd_readAny_31 RF ((f_Rd_readBracket RF (x1 + 1) σ).1) ((f_Rd_readBracket RF (x1 + 1) σ).2))) else (if x2 < 97 then (f_Rd_readAny_53 RF x2 σ) else (if 108 < x2 then (f_Rd_readAny_53 RF x2 σ) else (f_Rd_readAny_52 RF ((f_Rd_readBareSymbol σ).1) ((f_Rd_readBareSymbol σ).2))))
def k_Rd_readAny_12 (RF : Int32 → St → Int32 × St) (RK : Int32 → St → Prop) (x1 : Int32) (x2 : Int32) (σ : St) : Prop := (x2 = 40 → ((12 ≤ x1 → (k_Rd_readAny_35 RF RK (-1) σ)) ∧ (¬ 12 ≤ x1 → ((k_Rd_readBracket RF RK (x1 + 1) σ) ∧ (k_Rd_readAny_31 RF RK ((f_Rd_readBracket RF (x1 + 1) σ).1) ((f_Rd_readBracket RF (x1 + 1) σ).2)))))) ∧ (¬ x2 = 40 → ((x2 < 97 → (k_Rd_readAny_53 RF RK x2 σ)) ∧ (¬ x2 < 97 → ((108 < x2 → (k_Rd_readAny_53 RF RK x2 σ)) ∧ (¬ 108 < x2 → ((k_Rd_readBareSymbol σ) ∧ (k_Rd_readAny_52 RF RK ((f_Rd_readBareSymbol σ).1) ((f_Rd_readBareSymbol σ).2))))))))
def f_Rd_readAny (RF : Int32 → St → Int32 × St) (a1 : Int32) (σ : St) : Int32 × St := f_Rd_readAny_12 RF a1 (f_Dr_letter (σ.1 20 3) σ) σ
def k_Rd_readAny (RF : Int32 → St → Int32 × St) (RK : Int32 → St → Prop) (a1 : Int32) (σ : St) : Prop := (k_Dr_letter (σ.1 20 3) σ) ∧ (k_Rd_readAny_12 RF RK a1 (f_Dr_letter (σ.1 20 3) σ) σ)
set_option maxHeartbeats 4000000 in
set_option maxRecDepth 100000 in
theorem c_Rd_readAny (l : Launch) (D : va_G) (ty : Nat → ClassId) (h : Nat → Nat) (px : va_W) (sa : Nat → Nat) (d : Nat) (RF : Int32 → St → Int32 × St) (RK : Int32 → St → Prop) (hR : ∀ (σ : St) (sz : Nat) (b0 : Int32), RK b0 σ → Met l y_Rd_readAny w_Rd_readAny (rk_Rd_readAny d) (va_Pc [.ref (h 20), .int b0] (fun U => U.heap.size = sz ∧ va_P D classes (Wc ty h σ px) U.heap ∧ va_K D classes (Ta ty) U ∧ NW U ∧ MK sa (va_A (Wc ty h σ px) sz) U U.heap ∧ va_D (fun _ => True) (Wc ty h σ px))) (va_Qi (fun r (u : St) => (r, u) = RF b0 σ) (fun u t => va_P D classes (Wc ty h u px) t.heap) (va_A (Wc ty h σ px) sz)) 0 0 (va_A (Wc ty h σ px) sz)) (σ : St) (sz : Nat) (a1 : Int32) (hk : k_Rd_readAny RF RK a1 σ) : Met l y_Rd_readAny w_Rd_readAny (rm_Rd_readAny d) (va_Pc [.ref (h 20), .int a1] (fun U => U.heap.size = sz ∧ va_P D classes (Wc ty h σ px) U.heap ∧ va_K D classes (Ta ty) U ∧ NW U ∧ MK sa (va_A (Wc ty h σ px) sz) U U.heap ∧ va_D (fun _ => True) (Wc ty h σ px))) (va_Qi (fun r (u : St) => (r, u) = f_Rd_readAny RF a1 σ) (fun u t => va_P D classes (Wc ty h u px) t.heap) (va_A (Wc ty h σ px) sz)) 0 0 (va_A (Wc ty h σ px) sz) := by
  refine Met.ofW (cc := b_Rd_readAny) (maxL := 4) (ret := (some .int)) (by decide) rfl ?_
  intro p e s m args below meth c s₁ B hml hv
  obtain ⟨ha, hsz, hP, hK, hN, hM, hD0⟩ := hv
  have hx := B.exec
  have hb := B.bytes
  have hr := B.returns
  have hg : ∀ w ∈ gw, w.before args s = true := fun w h9 => atoms_spec (ws := w_Rd_readAny) B.pre w (List.mem_cons_of_mem _ h9)
  have hown : s.vm.findClass "ClauseLedger$Reader" = some m.cls := findClass_of_methodNamed B.named
  have hlocks := B.notSynchronized
  subst hsz
  have hD := hD0.self (sz := s.heap.size)
  generalize hAe : va_A (Wc ty h σ px) s.heap.size = A at hD hM ⊢
  have hA : ∀ q : Nat, s.heap.size ≤ q → A q := fun q h9 => by rw [← hAe]; exact Or.inr h9
  have hS : va_S A s.heap s.heap [] := va_S.rf
  have he : entryFrame m args 4 = entryFrame m ([.ref (h 20), .int a1] : List Value).toArray 4 := by rw [ha]
  rw [he, lg_entry_eq]
  have hl := lv_entry ([.ref (h 20), .int a1]) (n := 4) (Nat.le_of_ble_eq_true rfl)
  generalize (lg_sl ([.ref (h 20), .int a1]) ++ List.replicate (4 - (lg_sl ([.ref (h 20), .int a1])).length) Slot.unset).toArray = ls at hl ⊢
  have hl : lv_has ls 4 [(0, .ref (h 20)), (1, .int a1)] := hl
  generalize hv : f_Rd_readAny RF a1 σ = v
  replace hv := hv.symm
  have B35 : ∀ (H : Heap) (locs : List Loc) (ls : Array Slot) (s0 : Int32) (σ : St), v = f_Rd_readAny_35 RF s0 σ → k_Rd_readAny_35 RF RK s0 σ → lv_has ls 4 [] → va_P D classes (Wc ty h σ px) H → va_D A (Wc ty h σ px) → va_S A s.heap H locs → W p l e (headSpec w_Rd_readAny (rm_Rd_readAny d)).room s m args below meth c H locs 0 0 (MQ below (va_Qi (fun r (u : St) => (r, u) = v) (fun u t => va_P D classes (Wc ty h u px) t.heap) A) args s 0 0 A) (F0 m 35 ls [.int s0]) := by
    intro H locs ls s0 σ hv hk hl hP hD hS
    unfold f_Rd_readAny_35 at hv
    unfold k_Rd_readAny_35 at hk
    exact W.iret hx hb hr (fun t ht hW => ⟨⟨_, _, rfl, hv.symm, by dsimp only; rw [ht]; exact hP⟩, hS.F ht⟩) hS.2.2 d_Rd_readAny_35
  have B31 : ∀ (H : Heap) (locs : List Loc) (ls : Array Slot) (s0 : Int32) (σ : St), v = f_Rd_readAny_31 RF s0 σ → k_Rd_readAny_31 RF RK s0 σ → lv_has ls 4 [] → va_P D classes (Wc ty h σ px) H → va_D A (Wc ty h σ px) → va_S A s.heap H locs → W p l e (headSpec w_Rd_readAny (rm_Rd_readAny d)).room s m args below meth c H locs 0 0 (MQ below (va_Qi (fun r (u : St) => (r, u) = v) (fun u t => va_P D classes (Wc ty h u px) t.heap) A) args s 0 0 A) (F0 m 31 ls [.int s0]) := by
    intro H locs ls s0 σ hv hk hl hP hD hS
    unfold f_Rd_readAny_31 at hv
    unfold k_Rd_readAny_31 at hk
    refine lv_goto (tgt := 35) hx hb d_Rd_readAny_31 (by decide) ?_
    exact B35 _ _ _ s0 σ hv hk (lv_sub hl [] rfl) hP hD hS
  have B52 : ∀ (H : Heap) (locs : List Loc) (ls : Array Slot) (s0 : Int32) (σ : St), v = f_Rd_readAny_52 RF s0 σ → k_Rd_readAny_52 RF RK s0 σ → lv_has ls 4 [] → va_P D classes (Wc ty h σ px) H → va_D A (Wc ty h σ px) → va_S A s.heap H locs → W p l e (headSpec w_Rd_readAny (rm_Rd_readAny d)).room s m args below meth c H locs 0 0 (MQ below (va_Qi (fun r (u : St) => (r, u) = v) (fun u t => va_P D classes (Wc ty h u px) t.heap) A) args s 0 0 A) (F0 m 52 ls [.int s0]) := by
    intro H locs ls s0 σ hv hk hl hP hD hS
    unfold f_Rd_readAny_52 at hv
    unfold k_Rd_readAny_52 at hk
    exact W.iret hx hb hr (fun t ht hW => ⟨⟨_, _, rfl, hv.symm, by dsimp only; rw [ht]; exact hP⟩, hS.F ht⟩) hS.2.2 d_Rd_readAny_52
  have B89 : ∀ (H : Heap) (locs : List Loc) (ls : Array Slot) (s0 : Int32) (σ : St), v = f_Rd_readAny_89 RF s0 σ → k_Rd_readAny_89 RF RK s0 σ → lv_has ls 4 [] → va_P D classes (Wc ty h σ px) H → va_D A (Wc ty h σ px) → va_S A s.heap H locs → W p l e (headSpec w_Rd_readAny (rm_Rd_readAny d)).room s m args below meth c H locs 0 0 (MQ below (va_Qi (fun r (u : St) => (r, u) = v) (fun u t => va_P D classes (Wc ty h u px) t.heap) A) args s 0 0 A) (F0 m 89 ls [.int s0]) := by
    intro H locs ls s0 σ hv hk hl hP hD hS
    unfold f_Rd_readAny_89 at hv
    unfold k_Rd_readAny_89 at hk
    exact W.iret hx hb hr (fun t ht hW => ⟨⟨_, _, rfl, hv.symm, by dsimp only; rw [ht]; exact hP⟩, hS.F ht⟩) hS.2.2 d_Rd_readAny_89
  have B70 : ∀ (H : Heap) (locs : List Loc) (ls : Array Slot) (x3 : Int32) (σ : St), v = f_Rd_readAny_70 RF x3 σ → k_Rd_readAny_70 RF RK x3 σ → lv_has ls 4 [(0, .ref (h 20)), (3, .int x3)] → va_P D classes (Wc ty h σ px) H → va_D A (Wc ty h σ px) → va_S A s.heap H locs → W p l e (headSpec w_Rd_readAny (rm_Rd_readAny d)).room s m args below meth c H locs 0 0 (MQ below (va_Qi (fun r (u : St) => (r, u) = v) (fun u t => va_P D classes (Wc ty h u px) t.heap) A) args s 0 0 A) (F0 m 70 ls []) := by
    intro H locs ls x3 σ hv hk hl hP hD hS
    unfold f_Rd_readAny_70 at hv
    unfold k_Rd_readAny_70 at hk
    refine lv_aload_n hx hb d_Rd_readAny_70 rfl (lv_at hl 0 rfl) ?_
    refine va_get (v := .ref (h 6)) (C := R_Rd) (T := T_Rd) (N := 4) hx hb hg in_Rd hown hK hP 20 rfl rfl 2 (by decide) (hg _ m_135) (fun _ h9 => h9) rfl d_Rd_readAny_71 ?_
    refine lv_iconst (v := 1) hx hb d_Rd_readAny_74 (by decide) ?_
    refine lv_aload_n hx hb d_Rd_readAny_75 rfl (lv_at hl 0 rfl) ?_
    refine va_get (v := .ref (h 1)) (C := R_Rd) (T := T_Rd) (N := 4) hx hb hg in_Rd hown hK hP 20 rfl rfl 1 (by decide) (hg _ m_134) (fun _ h9 => h9) rfl d_Rd_readAny_76 ?_
    refine lv_iload_n hx hb d_Rd_readAny_79 rfl (lv_at hl 1 rfl) ?_
    obtain ⟨hk0, hk⟩ := hk
    refine zz_callV (va_runV (As := [.int x3]) (rest := [.int 1, .ref (h 6)]) ⟨hx, hb, hml, hown, hg⟩ (c_Sg_sortOfVariable l D ty h px sa σ x3 hk0) ⟨callB_of 1 hg (gw_C m_741) rfl rfl rfl (hg _ m_2) (hg _ m_738) hd_Sg_sortOfVariable ⟨(by simp only [headSpec, rm_Rd_readAny, rm_Sg_sortOfVariable]; omega), (by simp only [headSpec, rm_Rd_readAny, rm_Sg_sortOfVariable]; omega)⟩, hg _ m_739, hg _ m_740⟩ (zz_preV (hM.at hS) hN hK hP 1 rfl rfl) rfl rfl hl.1 rfl (lv_room (Nat.le_of_ble_eq_true rfl)) d_Rd_readAny_80 ⟨Nat.le_of_ble_eq_true rfl, Nat.le_of_ble_eq_true rfl⟩) ?_
    refine lv_iload_n hx hb d_Rd_readAny_83 rfl (lv_at hl 1 rfl) ?_
    refine lv_iconst (v := -1) hx hb d_Rd_readAny_84 (by decide) ?_
    refine lv_iconst (v := -1) hx hb d_Rd_readAny_85 (by decide) ?_
    obtain ⟨hk0, hk⟩ := hk
    refine va_calli (va_runV (As := [.int 1, .int (f_Sg_sortOfVariable x3 σ), .int x3, .int (-1), .int (-1)]) (rest := []) ⟨hx, hb, hml, hown, hg⟩ (c_Te_make l D ty h px sa σ H.size 1 (f_Sg_sortOfVariable x3 σ) x3 (-1) (-1) hk0) ⟨callB_of 5 hg (gw_C m_620) rfl rfl rfl (hg _ m_3) (hg _ m_617) hd_Te_make ⟨(by simp only [headSpec, rm_Rd_readAny, rm_Te_make]; omega), (by simp only [headSpec, rm_Rd_readAny, rm_Te_make]; omega)⟩, hg _ m_618, hg _ m_619⟩ (zz_preVW hM hS hA hN hK hP hD 6 rfl rfl) rfl rfl hl.1 rfl (lv_room (Nat.le_of_ble_eq_true rfl)) d_Rd_readAny_86 ⟨Nat.le_of_ble_eq_true rfl, Nat.le_of_ble_eq_true rfl⟩) hS (fun q _ h => zz_free hD hS hA q h) (zz_free hD hS hA) (fun r86 u86 t H locs ht hvm hp hP1 hz hk1 hS => ?_)
    rw [ht] at hP1
    rw [← hp] at hv hk
    have hD : va_D A (Wc ty h u86 px) := zz_D hD rfl
    have hP := hP1
    exact B89 _ _ _ r86 u86 hv hk (lv_sub hl [] rfl) hP hD hS
  have B69 : ∀ (H : Heap) (locs : List Loc) (ls : Array Slot) (s0 : Int32) (σ : St), v = f_Rd_readAny_69 RF s0 σ → k_Rd_readAny_69 RF RK s0 σ → lv_has ls 4 [(0, .ref (h 20))] → va_P D classes (Wc ty h σ px) H → va_D A (Wc ty h σ px) → va_S A s.heap H locs → W p l e (headSpec w_Rd_readAny (rm_Rd_readAny d)).room s m args below meth c H locs 0 0 (MQ below (va_Qi (fun r (u : St) => (r, u) = v) (fun u t => va_P D classes (Wc ty h u px) t.heap) A) args s 0 0 A) (F0 m 69 ls [.int s0]) := by
    intro H locs ls s0 σ hv hk hl hP hD hS
    unfold f_Rd_readAny_69 at hv
    unfold k_Rd_readAny_69 at hk
    refine lv_istore_n (lv' := [(3, .int s0), (0, .ref (h 20))]) hx hb d_Rd_readAny_69 rfl hl (by decide) rfl (fun ls hl => ?_)
    exact B70 _ _ _ s0 σ hv hk (lv_sub hl [1, 0] rfl) hP hD hS
  have B94 : ∀ (H : Heap) (locs : List Loc) (ls : Array Slot) (s0 : Int32) (σ : St), v = f_Rd_readAny_94 RF s0 σ → k_Rd_readAny_94 RF RK s0 σ → lv_has ls 4 [] → va_P D classes (Wc ty h σ px) H → va_D A (Wc ty h σ px) → va_S A s.heap H locs → W p l e (headSpec w_Rd_readAny (rm_Rd_readAny d)).room s m args below meth c H locs 0 0 (MQ below (va_Qi (fun r (u : St) => (r, u) = v) (fun u t => va_P D classes (Wc ty h u px) t.heap) A) args s 0 0 A) (F0 m 94 ls [.int s0]) := by
    intro H locs ls s0 σ hv hk hl hP hD hS
    unfold f_Rd_readAny_94 at hv
    unfold k_Rd_readAny_94 at hk
    exact W.iret hx hb hr (fun t ht hW => ⟨⟨_, _, rfl, hv.symm, by dsimp only; rw [ht]; exact hP⟩, hS.F ht⟩) hS.2.2 d_Rd_readAny_94
  have B90 : ∀ (H : Heap) (locs : List Loc) (ls : Array Slot) (σ : St), v = f_Rd_readAny_90 RF σ → k_Rd_readAny_90 RF RK σ → lv_has ls 4 [(0, .ref (h 20))] → va_P D classes (Wc ty h σ px) H → va_D A (Wc ty h σ px) → va_S A s.heap H locs → W p l e (headSpec w_Rd_readAny (rm_Rd_readAny d)).room s m args below meth c H locs 0 0 (MQ below (va_Qi (fun r (u : St) => (r, u) = v) (fun u t => va_P D classes (Wc ty h u px) t.heap) A) args s 0 0 A) (F0 m 90 ls []) := by
    intro H locs ls σ hv hk hl hP hD hS
    unfold f_Rd_readAny_90 at hv
    unfold k_Rd_readAny_90 at hk
    refine lv_aload_n hx hb d_Rd_readAny_90 rfl (lv_at hl 0 rfl) ?_
    obtain ⟨hk0, hk⟩ := hk
    refine va_calli (va_runV (As := []) (rest := []) ⟨hx, hb, hml, hown, hg⟩ (c_Rd_readConstant l D ty h px sa σ H.size  hk0) ⟨callB_of 0 hg (gw_C m_745) rfl rfl rfl (hg _ m_5) (hg _ m_742) hd_Rd_readConstant ⟨(by simp only [headSpec, rm_Rd_readAny, rm_Rd_readConstant]; omega), (by simp only [headSpec, rm_Rd_readAny, rm_Rd_readConstant]; omega)⟩, hg _ m_744, hg _ ms_22⟩ (zz_preVW hM hS hA hN hK hP hD 20 rfl rfl) rfl rfl hl.1 rfl (lv_room (Nat.le_of_ble_eq_true rfl)) d_Rd_readAny_91 ⟨Nat.le_of_ble_eq_true rfl, Nat.le_of_ble_eq_true rfl⟩) hS (fun q _ h => zz_free hD hS hA q h) (zz_free hD hS hA) (fun r91 u91 t H locs ht hvm hp hP1 hz hk1 hS => ?_)
    rw [ht] at hP1
    rw [← hp] at hv hk
    have hD : va_D A (Wc ty h u91 px) := zz_D hD rfl
    have hP := hP1
    exact B94 _ _ _ r91 u91 hv hk (lv_sub hl [] rfl) hP hD hS
  have B53 : ∀ (H : Heap) (locs : List Loc) (ls : Array Slot) (x2 : Int32) (σ : St), v = f_Rd_readAny_53 RF x2 σ → k_Rd_readAny_53 RF RK x2 σ → lv_has ls 4 [(0, .ref (h 20)), (2, .int x2)] → va_P D classes (Wc ty h σ px) H → va_D A (Wc ty h σ px) → va_S A s.heap H locs → W p l e (headSpec w_Rd_readAny (rm_Rd_readAny d)).room s m args below meth c H locs 0 0 (MQ below (va_Qi (fun r (u : St) => (r, u) = v) (fun u t => va_P D classes (Wc ty h u px) t.heap) A) args s 0 0 A) (F0 m 53 ls []) := by
    intro H locs ls x2 σ hv hk hl hP hD hS
    unfold f_Rd_readAny_53 at hv
    unfold k_Rd_readAny_53 at hk
    refine lv_iload_n hx hb d_Rd_readAny_53 rfl (lv_at hl 1 rfl) ?_
    refine lv_bipush (v := 120) hx hb d_Rd_readAny_54 (by decide) ?_
    refine lv_icmp_lt (tgt := 90) hx hb d_Rd_readAny_56 (by decide) (fun hc => ?_) (fun hc => ?_)
    · have hv := hv.trans (if_pos hc)
      have hk := hk.1 hc
      exact B90 _ _ _  σ hv hk (lv_sub hl [0] rfl) hP hD hS
    · have hv := hv.trans (if_neg hc)
      have hk := hk.2 hc
      refine lv_iload_n hx hb d_Rd_readAny_59 rfl (lv_at hl 1 rfl) ?_
      refine lv_bipush (v := 122) hx hb d_Rd_readAny_60 (by decide) ?_
      refine lv_icmp_gt (tgt := 90) hx hb d_Rd_readAny_62 (by decide) (fun hc => ?_) (fun hc => ?_)
      · have hv := hv.trans (if_pos hc)
        have hk := hk.1 hc
        exact B90 _ _ _  σ hv hk (lv_sub hl [0] rfl) hP hD hS
      · have hv := hv.trans (if_neg hc)
        have hk := hk.2 hc
        refine lv_aload_n hx hb d_Rd_readAny_65 rfl (lv_at hl 0 rfl) ?_
        obtain ⟨hk0, hk⟩ := hk
        refine va_calli (va_runV (As := []) (rest := []) ⟨hx, hb, hml, hown, hg⟩ (c_Rd_readVariable l D ty h px sa σ H.size  hk0) ⟨callB_of 0 hg (gw_C m_666) rfl rfl rfl (hg _ m_5) (hg _ m_663) hd_Rd_readVariable ⟨(by simp only [headSpec, rm_Rd_readAny, rm_Rd_readVariable]; omega), (by simp only [headSpec, rm_Rd_readAny, rm_Rd_readVariable]; omega)⟩, hg _ m_665, hg _ ms_18⟩ (zz_preVW hM hS hA hN hK hP hD 20 rfl rfl) rfl rfl hl.1 rfl (lv_room (Nat.le_of_ble_eq_true rfl)) d_Rd_readAny_66 ⟨Nat.le_of_ble_eq_true rfl, Nat.le_of_ble_eq_true rfl⟩) hS (fun q _ h => zz_free hD hS hA q h) (zz_free hD hS hA) (fun r66 u66 t H locs ht hvm hp hP1 hz hk1 hS => ?_)
        rw [ht] at hP1
        rw [← hp] at hv hk
        have hD : va_D A (Wc ty h u66 px) := zz_D hD rfl
        have hP := hP1
        exact B69 _ _ _ r66 u66 hv hk (lv_sub hl [0] rfl) hP hD hS
  have B12 : ∀ (H : Heap) (locs : List Loc) (ls : Array Slot) (x1 : Int32) (x2 : Int32) (σ : St), v = f_Rd_readAny_12 RF x1 x2 σ → k_Rd_readAny_12 RF RK x1 x2 σ → lv_has ls 4 [(0, .ref (h 20)), (1, .int x1), (2, .int x2)] → va_P D classes (Wc ty h σ px) H → va_D A (Wc ty h σ px) → va_S A s.heap H locs → W p l e (headSpec w_Rd_readAny (rm_Rd_readAny d)).room s m args below meth c H locs 0 0 (MQ below (va_Qi (fun r (u : St) => (r, u) = v) (fun u t => va_P D classes (Wc ty h u px) t.heap) A) args s 0 0 A) (F0 m 12 ls []) := by
    intro H locs ls x1 x2 σ hv hk hl hP hD hS
    unfold f_Rd_readAny_12 at hv
    unfold k_Rd_readAny_12 at hk
    refine lv_iload_n hx hb d_Rd_readAny_12 rfl (lv_at hl 2 rfl) ?_
    refine lv_bipush (v := 40) hx hb d_Rd_readAny_13 (by decide) ?_
    refine lv_icmp_ne (tgt := 36) hx hb d_Rd_readAny_15 (by decide) (fun hc => ?_) (fun hc => ?_)
    · have hv := hv.trans (if_neg hc)
      have hk := hk.2 hc
      refine lv_iload_n hx hb d_Rd_readAny_36 rfl (lv_at hl 2 rfl) ?_
      refine lv_bipush (v := 97) hx hb d_Rd_readAny_37 (by decide) ?_
      refine lv_icmp_lt (tgt := 53) hx hb d_Rd_readAny_39 (by decide) (fun hc => ?_) (fun hc => ?_)
      · have hv := hv.trans (if_pos hc)
        have hk := hk.1 hc
        exact B53 _ _ _ x2 σ hv hk (lv_sub hl [0, 2] rfl) hP hD hS
      · have hv := hv.trans (if_neg hc)
        have hk := hk.2 hc
        refine lv_iload_n hx hb d_Rd_readAny_42 rfl (lv_at hl 2 rfl) ?_
        refine lv_bipush (v := 108) hx hb d_Rd_readAny_43 (by decide) ?_
        refine lv_icmp_gt (tgt := 53) hx hb d_Rd_readAny_45 (by decide) (fun hc => ?_) (fun hc => ?_)
        · have hv := hv.trans (if_pos hc)
          have hk := hk.1 hc
          exact B53 _ _ _ x2 σ hv hk (lv_sub hl [0, 2] rfl) hP hD hS
        · have hv := hv.trans (if_neg hc)
          have hk := hk.2 hc
          refine lv_aload_n hx hb d_Rd_readAny_48 rfl (lv_at hl 0 rfl) ?_
          obtain ⟨hk0, hk⟩ := hk
          refine va_calli (va_runV (As := []) (rest := []) ⟨hx, hb, hml, hown, hg⟩ (c_Rd_readBareSymbol l D ty h px sa σ H.size  hk0) ⟨callB_of 0 hg (gw_C m_736) rfl rfl rfl (hg _ m_5) (hg _ m_733) hd_Rd_readBareSymbol ⟨(by simp only [headSpec, rm_Rd_readAny, rm_Rd_readBareSymbol]; omega), (by simp only [headSpec, rm_Rd_readAny, rm_Rd_readBareSymbol]; omega)⟩, hg _ m_735, hg _ ms_21⟩ (zz_preVW hM hS hA hN hK hP hD 20 rfl rfl) rfl rfl hl.1 rfl (lv_room (Nat.le_of_ble_eq_true rfl)) d_Rd_readAny_49 ⟨Nat.le_of_ble_eq_true rfl, Nat.le_of_ble_eq_true rfl⟩) hS (fun q _ h => zz_free hD hS hA q h) (zz_free hD hS hA) (fun r49 u49 t H locs ht hvm hp hP1 hz hk1 hS => ?_)
          rw [ht] at hP1
          rw [← hp] at hv hk
          have hD : va_D A (Wc ty h u49 px) := zz_D hD rfl
          have hP := hP1
          exact B52 _ _ _ r49 u49 hv hk (lv_sub hl [] rfl) hP hD hS
    · have hv := hv.trans (if_pos hc)
      have hk := hk.1 hc
      refine lv_iload_n hx hb d_Rd_readAny_18 rfl (lv_at hl 1 rfl) ?_
      refine lv_bipush (v := 12) hx hb d_Rd_readAny_19 (by decide) ?_
      refine lv_icmp_ge (tgt := 34) hx hb d_Rd_readAny_21 (by decide) (fun hc => ?_) (fun hc => ?_)
      · have hv := hv.trans (if_pos hc)
        have hk := hk.1 hc
        refine lv_iconst (v := -1) hx hb d_Rd_readAny_34 (by decide) ?_
        exact B35 _ _ _ (-1) σ hv hk (lv_sub hl [] rfl) hP hD hS
      · have hv := hv.trans (if_neg hc)
        have hk := hk.2 hc
        refine lv_aload_n hx hb d_Rd_readAny_24 rfl (lv_at hl 0 rfl) ?_
        refine lv_iload_n hx hb d_Rd_readAny_25 rfl (lv_at hl 1 rfl) ?_
        refine lv_iconst (v := 1) hx hb d_Rd_readAny_26 (by decide) ?_
        refine lv_iadd hx hb d_Rd_readAny_27 ?_
        obtain ⟨hk0, hk⟩ := hk
        refine va_calli (va_runV (As := [.int (x1 + 1)]) (rest := []) ⟨hx, hb, hml, hown, hg⟩ (c_Rd_readBracket l D ty h px sa d RF RK hR σ H.size (x1 + 1) hk0) ⟨callB_of 1 hg (gw_C m_587) rfl rfl rfl (hg _ m_5) (hg _ m_584) hd_Rd_readBracket ⟨(by simp only [headSpec, rm_Rd_readAny, rm_Rd_readBracket]; omega), (by simp only [headSpec, rm_Rd_readAny, rm_Rd_readBracket]; omega)⟩, hg _ m_586, hg _ ms_10⟩ (zz_preVW hM hS hA hN hK hP hD 20 rfl rfl) rfl rfl hl.1 rfl (lv_room (Nat.le_of_ble_eq_true rfl)) d_Rd_readAny_28 ⟨Nat.le_of_ble_eq_true rfl, Nat.le_of_ble_eq_true rfl⟩) hS (fun q _ h => zz_free hD hS hA q h) (zz_free hD hS hA) (fun r28 u28 t H locs ht hvm hp hP1 hz hk1 hS => ?_)
        rw [ht] at hP1
        rw [← hp] at hv hk
        have hD : va_D A (Wc ty h u28 px) := zz_D hD rfl
        have hP := hP1
        exact B31 _ _ _ r28 u28 hv hk (lv_sub hl [] rfl) hP hD hS
  unfold f_Rd_readAny at hv
  unfold k_Rd_readAny at hk
  refine lv_aload_n hx hb d_Rd_readAny_0 rfl (lv_at hl 0 rfl) ?_
  refine va_get (v := .ref (h 18)) (C := R_Rd) (T := T_Rd) (N := 4) hx hb hg in_Rd hown hK hP 20 rfl rfl 0 (by decide) (hg _ m_133) (fun _ h9 => h9) rfl d_Rd_readAny_1 ?_
  refine lv_aload_n hx hb d_Rd_readAny_4 rfl (lv_at hl 0 rfl) ?_
  refine va_get (v := .int (σ.1 20 3)) (C := R_Rd) (T := T_Rd) (N := 4) hx hb hg in_Rd hown hK hP 20 rfl rfl 3 (by decide) (hg _ m_136) (fun _ h9 => h9) rfl d_Rd_readAny_5 ?_
  obtain ⟨hk0, hk⟩ := hk
  refine zz_callV (va_runV (As := [.int (σ.1 20 3)]) (rest := []) ⟨hx, hb, hml, hown, hg⟩ (c_Dr_letter l D ty h px sa σ (σ.1 20 3) hk0) ⟨callB_of 1 hg (gw_C m_583) rfl rfl rfl (hg _ m_4) (hg _ m_580) hd_Dr_letter ⟨(by simp only [headSpec, rm_Rd_readAny, rm_Dr_letter]; omega), (by simp only [headSpec, rm_Rd_readAny, rm_Dr_letter]; omega)⟩, hg _ m_581, hg _ m_582⟩ (zz_preV (hM.at hS) hN hK hP 18 rfl rfl) rfl rfl hl.1 rfl (lv_room (Nat.le_of_ble_eq_true rfl)) d_Rd_readAny_8 ⟨Nat.le_of_ble_eq_true rfl, Nat.le_of_ble_eq_true rfl⟩) ?_
  refine lv_istore_n (lv' := [(2, .int (f_Dr_letter (σ.1 20 3) σ)), (0, .ref (h 20)), (1, .int a1)]) hx hb d_Rd_readAny_11 rfl hl (by decide) rfl (fun ls hl => ?_)
  exact B12 _ _ _ a1 (f_Dr_letter (σ.1 20 3) σ) σ hv hk (lv_sub hl [1, 2, 0] rfl) hP hD hS

def F_Rd_readAny : Nat → Int32 → St → Int32 × St
  | 0, _, σ => (0, σ)
  | d + 1, b0, σ => f_Rd_readAny (F_Rd_readAny d) b0 σ
def K_Rd_readAny : Nat → Int32 → St → Prop
  | 0, _, _ => False
  | d + 1, b0, σ => k_Rd_readAny (F_Rd_readAny d) (K_Rd_readAny d) b0 σ
theorem C_Rd_readAny (l : Launch) (D : va_G) (ty : Nat → ClassId) (h : Nat → Nat) (px : va_W) (sa : Nat → Nat) : ∀ (d : Nat), ∀ (σ : St) (sz : Nat) (b0 : Int32), K_Rd_readAny d b0 σ → Met l y_Rd_readAny w_Rd_readAny (rk_Rd_readAny d) (va_Pc [.ref (h 20), .int b0] (fun U => U.heap.size = sz ∧ va_P D classes (Wc ty h σ px) U.heap ∧ va_K D classes (Ta ty) U ∧ NW U ∧ MK sa (va_A (Wc ty h σ px) sz) U U.heap ∧ va_D (fun _ => True) (Wc ty h σ px))) (va_Qi (fun r (u : St) => (r, u) = F_Rd_readAny d b0 σ) (fun u t => va_P D classes (Wc ty h u px) t.heap) (va_A (Wc ty h σ px) sz)) 0 0 (va_A (Wc ty h σ px) sz) := by
  intro d
  induction d with
  | zero => intro σ sz b0 hk; exact hk.elim
  | succ d ih => intro σ sz b0 hk; exact c_Rd_readAny l D ty h px sa d (F_Rd_readAny d) (K_Rd_readAny d) ih σ sz b0 hk

-- ClauseLedger$Reader.read()I
abbrev b_Rd_read : ByteArray := prog_5_method_2_code
def y_Rd_read : MethodName := ⟨"ClauseLedger$Reader", "read", "()I"⟩
theorem hd_Rd_read : y_Rd_read.cls ≠ "java/lang/invoke/MethodHandle" ∧ y_Rd_read.cls ≠ "java/lang/invoke/VarHandle" ∧ (parseMethodDescriptor y_Rd_read.desc).map (fun d => d.parameters.length) = some 0 := by decide +kernel
theorem d_Rd_read_0 : decode b_Rd_read 0 = .ok (.aload_n 0, 1) := by decide +kernel
theorem d_Rd_read_1 : decode b_Rd_read 1 = .ok (.iconst 0, 1) := by decide +kernel
theorem d_Rd_read_2 : decode b_Rd_read 2 = .ok (.putfield 9, 3) := by decide +kernel
theorem d_Rd_read_5 : decode b_Rd_read 5 = .ok (.aload_n 0, 1) := by decide +kernel
theorem d_Rd_read_6 : decode b_Rd_read 6 = .ok (.iconst 0, 1) := by decide +kernel
theorem d_Rd_read_7 : decode b_Rd_read 7 = .ok (.invokevirtual 27, 3) := by decide +kernel
theorem d_Rd_read_10 : decode b_Rd_read 10 = .ok (.istore_n 1, 1) := by decide +kernel
theorem d_Rd_read_11 : decode b_Rd_read 11 = .ok (.aload_n 0, 1) := by decide +kernel
theorem d_Rd_read_12 : decode b_Rd_read 12 = .ok (.getfield 9, 3) := by decide +kernel
theorem d_Rd_read_15 : decode b_Rd_read 15 = .ok (.aload_n 0, 1) := by decide +kernel
theorem d_Rd_read_16 : decode b_Rd_read 16 = .ok (.getfield 15, 3) := by decide +kernel
theorem d_Rd_read_19 : decode b_Rd_read 19 = .ok (.invokevirtual 31, 3) := by decide +kernel
theorem d_Rd_read_22 : decode b_Rd_read 22 = .ok (.if_icmp .ne 7, 3) := by decide +kernel
theorem d_Rd_read_25 : decode b_Rd_read 25 = .ok (.iload_n 1, 1) := by decide +kernel
theorem d_Rd_read_26 : decode b_Rd_read 26 = .ok (.goto 4, 3) := by decide +kernel
theorem d_Rd_read_29 : decode b_Rd_read 29 = .ok (.iconst (-1), 1) := by decide +kernel
theorem d_Rd_read_30 : decode b_Rd_read 30 = .ok (.ireturn, 1) := by decide +kernel
def f_Rd_read_30 (s0 : Int32) (σ : St) : Int32 × St := (s0, σ)
def k_Rd_read_30 (s0 : Int32) (σ : St) : Prop := True
def f_Rd_read_10 (s0 : Int32) (σ : St) : Int32 × St := if (σ.1 20 3) = (f_Dr_size σ) then (f_Rd_read_30 s0 σ) else (f_Rd_read_30 (-1) σ)
def k_Rd_read_10 (s0 : Int32) (σ : St) : Prop := (k_Dr_size σ) ∧ (((σ.1 20 3) = (f_Dr_size σ) → (k_Rd_read_30 s0 σ)) ∧ (¬ (σ.1 20 3) = (f_Dr_size σ) → (k_Rd_read_30 (-1) σ)))
def f_Rd_read_5 (σ : St) : Int32 × St := f_Rd_read_10 ((F_Rd_readAny 20 0 σ).1) ((F_Rd_readAny 20 0 σ).2)
def k_Rd_read_5 (σ : St) : Prop := (K_Rd_readAny 20 0 σ) ∧ (k_Rd_read_10 ((F_Rd_readAny 20 0 σ).1) ((F_Rd_readAny 20 0 σ).2))
def f_Rd_read (σ : St) : Int32 × St := f_Rd_read_5 (sF σ 20 3 0)
def k_Rd_read (σ : St) : Prop := k_Rd_read_5 (sF σ 20 3 0)
abbrev w_Rd_read : List Cond := Cond.code y_Rd_read b_Rd_read 2 (some .int) :: gw
abbrev rm_Rd_read : Room := { frames := 87, cells := 0, slots := 0, locals := 2040 }
set_option maxHeartbeats 4000000 in
set_option maxRecDepth 100000 in
theorem c_Rd_read (l : Launch) (D : va_G) (ty : Nat → ClassId) (h : Nat → Nat) (px : va_W) (sa : Nat → Nat) (σ : St) (sz : Nat) (hk : k_Rd_read σ) : Met l y_Rd_read w_Rd_read rm_Rd_read (va_Pc [.ref (h 20)] (fun U => U.heap.size = sz ∧ va_P D classes (Wc ty h σ px) U.heap ∧ va_K D classes (Ta ty) U ∧ NW U ∧ MK sa (va_A (Wc ty h σ px) sz) U U.heap ∧ va_D (fun _ => True) (Wc ty h σ px))) (va_Qi (fun r (u : St) => (r, u) = f_Rd_read σ) (fun u t => va_P D classes (Wc ty h u px) t.heap) (va_A (Wc ty h σ px) sz)) 0 0 (va_A (Wc ty h σ px) sz) := by
  refine Met.ofW (cc := b_Rd_read) (maxL := 2) (ret := (some .int)) (by decide) rfl ?_
  intro p e s m args below meth c s₁ B hml hv
  obtain ⟨ha, hsz, hP, hK, hN, hM, hD0⟩ := hv
  have hx := B.exec
  have hb := B.bytes
  have hr := B.returns
  have hg : ∀ w ∈ gw, w.before args s = true := fun w h9 => atoms_spec (ws := w_Rd_read) B.pre w (List.mem_cons_of_mem _ h9)
  have hown : s.vm.findClass "ClauseLedger$Reader" = some m.cls := findClass_of_methodNamed B.named
  have hlocks := B.notSynchronized
  subst hsz
  have hD := hD0.self (sz := s.heap.size)
  generalize hAe : va_A (Wc ty h σ px) s.heap.size = A at hD hM ⊢
  have hA : ∀ q : Nat, s.heap.size ≤ q → A q := fun q h9 => by rw [← hAe]; exact Or.inr h9
  have hS : va_S A s.heap s.heap [] := va_S.rf
  have he : entryFrame m args 2 = entryFrame m ([.ref (h 20)] : List Value).toArray 2 := by rw [ha]
  rw [he, lg_entry_eq]
  have hl := lv_entry ([.ref (h 20)]) (n := 2) (Nat.le_of_ble_eq_true rfl)
  generalize (lg_sl ([.ref (h 20)]) ++ List.replicate (2 - (lg_sl ([.ref (h 20)])).length) Slot.unset).toArray = ls at hl ⊢
  have hl : lv_has ls 2 [(0, .ref (h 20))] := hl
  generalize hv : f_Rd_read σ = v
  replace hv := hv.symm
  have B30 : ∀ (H : Heap) (locs : List Loc) (ls : Array Slot) (s0 : Int32) (σ : St), v = f_Rd_read_30 s0 σ → k_Rd_read_30 s0 σ → lv_has ls 2 [] → va_P D classes (Wc ty h σ px) H → va_D A (Wc ty h σ px) → va_S A s.heap H locs → W p l e (headSpec w_Rd_read rm_Rd_read).room s m args below meth c H locs 0 0 (MQ below (va_Qi (fun r (u : St) => (r, u) = v) (fun u t => va_P D classes (Wc ty h u px) t.heap) A) args s 0 0 A) (F0 m 30 ls [.int s0]) := by
    intro H locs ls s0 σ hv hk hl hP hD hS
    unfold f_Rd_read_30 at hv
    unfold k_Rd_read_30 at hk
    exact W.iret hx hb hr (fun t ht hW => ⟨⟨_, _, rfl, hv.symm, by dsimp only; rw [ht]; exact hP⟩, hS.F ht⟩) hS.2.2 d_Rd_read_30
  have B10 : ∀ (H : Heap) (locs : List Loc) (ls : Array Slot) (s0 : Int32) (σ : St), v = f_Rd_read_10 s0 σ → k_Rd_read_10 s0 σ → lv_has ls 2 [(0, .ref (h 20))] → va_P D classes (Wc ty h σ px) H → va_D A (Wc ty h σ px) → va_S A s.heap H locs → W p l e (headSpec w_Rd_read rm_Rd_read).room s m args below meth c H locs 0 0 (MQ below (va_Qi (fun r (u : St) => (r, u) = v) (fun u t => va_P D classes (Wc ty h u px) t.heap) A) args s 0 0 A) (F0 m 10 ls [.int s0]) := by
    intro H locs ls s0 σ hv hk hl hP hD hS
    unfold f_Rd_read_10 at hv
    unfold k_Rd_read_10 at hk
    refine lv_istore_n (lv' := [(1, .int s0), (0, .ref (h 20))]) hx hb d_Rd_read_10 rfl hl (by decide) rfl (fun ls hl => ?_)
    refine lv_aload_n hx hb d_Rd_read_11 rfl (lv_at hl 1 rfl) ?_
    refine va_get (v := .int (σ.1 20 3)) (C := R_Rd) (T := T_Rd) (N := 4) hx hb hg in_Rd hown hK hP 20 rfl rfl 3 (by decide) (hg _ m_136) (fun _ h9 => h9) rfl d_Rd_read_12 ?_
    refine lv_aload_n hx hb d_Rd_read_15 rfl (lv_at hl 1 rfl) ?_
    refine va_get (v := .ref (h 18)) (C := R_Rd) (T := T_Rd) (N := 4) hx hb hg in_Rd hown hK hP 20 rfl rfl 0 (by decide) (hg _ m_133) (fun _ h9 => h9) rfl d_Rd_read_16 ?_
    obtain ⟨hk0, hk⟩ := hk
    refine zz_callV (va_runV (As := []) (rest := [.int (σ.1 20 3)]) ⟨hx, hb, hml, hown, hg⟩ (c_Dr_size l D ty h px sa σ  hk0) ⟨callB_of 0 hg (gw_C m_766) rfl rfl rfl (hg _ m_4) (hg _ m_763) hd_Dr_size ⟨Nat.le_of_ble_eq_true rfl, Nat.le_of_ble_eq_true rfl⟩, hg _ m_764, hg _ m_765⟩ (zz_preV (hM.at hS) hN hK hP 18 rfl rfl) rfl rfl hl.1 rfl (lv_room (Nat.le_of_ble_eq_true rfl)) d_Rd_read_19 ⟨Nat.le_of_ble_eq_true rfl, Nat.le_of_ble_eq_true rfl⟩) ?_
    refine lv_icmp_ne (tgt := 29) hx hb d_Rd_read_22 (by decide) (fun hc => ?_) (fun hc => ?_)
    · have hv := hv.trans (if_neg hc)
      have hk := hk.2 hc
      refine lv_iconst (v := -1) hx hb d_Rd_read_29 (by decide) ?_
      exact B30 _ _ _ (-1) σ hv hk (lv_sub hl [] rfl) hP hD hS
    · have hv := hv.trans (if_pos hc)
      have hk := hk.1 hc
      refine lv_iload_n hx hb d_Rd_read_25 rfl (lv_at hl 0 rfl) ?_
      refine lv_goto (tgt := 30) hx hb d_Rd_read_26 (by decide) ?_
      exact B30 _ _ _ s0 σ hv hk (lv_sub hl [] rfl) hP hD hS
  have B5 : ∀ (H : Heap) (locs : List Loc) (ls : Array Slot) (σ : St), v = f_Rd_read_5 σ → k_Rd_read_5 σ → lv_has ls 2 [(0, .ref (h 20))] → va_P D classes (Wc ty h σ px) H → va_D A (Wc ty h σ px) → va_S A s.heap H locs → W p l e (headSpec w_Rd_read rm_Rd_read).room s m args below meth c H locs 0 0 (MQ below (va_Qi (fun r (u : St) => (r, u) = v) (fun u t => va_P D classes (Wc ty h u px) t.heap) A) args s 0 0 A) (F0 m 5 ls []) := by
    intro H locs ls σ hv hk hl hP hD hS
    unfold f_Rd_read_5 at hv
    unfold k_Rd_read_5 at hk
    refine lv_aload_n hx hb d_Rd_read_5 rfl (lv_at hl 0 rfl) ?_
    refine lv_iconst (v := 0) hx hb d_Rd_read_6 (by decide) ?_
    obtain ⟨hk0, hk⟩ := hk
    refine va_calli (va_runV (As := [.int 0]) (rest := []) ⟨hx, hb, hml, hown, hg⟩ (C_Rd_readAny l D ty h px sa 20 σ H.size 0 hk0) ⟨callB_of 1 hg (gw_C m_579) rfl rfl rfl (hg _ m_5) (hg _ m_576) hd_Rd_readAny ⟨Nat.le_of_ble_eq_true rfl, Nat.le_of_ble_eq_true rfl⟩, hg _ m_578, hg _ ms_9⟩ (zz_preVW hM hS hA hN hK hP hD 20 rfl rfl) rfl rfl hl.1 rfl (lv_room (Nat.le_of_ble_eq_true rfl)) d_Rd_read_7 ⟨Nat.le_of_ble_eq_true rfl, Nat.le_of_ble_eq_true rfl⟩) hS (fun q _ h => zz_free hD hS hA q h) (zz_free hD hS hA) (fun r7 u7 t H locs ht hvm hp hP1 hz hk1 hS => ?_)
    rw [ht] at hP1
    rw [← hp] at hv hk
    have hD : va_D A (Wc ty h u7 px) := zz_D hD rfl
    have hP := hP1
    exact B10 _ _ _ r7 u7 hv hk (lv_sub hl [0] rfl) hP hD hS
  unfold f_Rd_read at hv
  unfold k_Rd_read at hk
  refine lv_aload_n hx hb d_Rd_read_0 rfl (lv_at hl 0 rfl) ?_
  refine lv_iconst (v := 0) hx hb d_Rd_read_1 (by decide) ?_
  refine va_put (v := .int 0) (ty := .int) (C := R_Rd) (T := T_Rd) (N := 4) hx hb hg in_Rd ty_Rd ok_Rd nm_Rd hown hK hP hD hS 20 rfl rfl 3 (by decide) (hg _ m_136) (fun _ h9 => h9) rfl (by decide +kernel) rfl rfl (Nat.le_of_ble_eq_true rfl) d_Rd_read_2 (fun H locs hP hD hS => ?_)
  have hP : va_P D classes (Wc ty h (sF σ 20 3 0) px) H := hP
  have hD : va_D A (Wc ty h (sF σ 20 3 0) px) := hD
  exact B5 _ _ _  (sF σ 20 3 0) hv hk (lv_sub hl [0] rfl) hP hD hS

