-- ClauseLedgerModel.text(II)I
abbrev b_Mo_text : ByteArray := prog_14_method_66_code
def y_Mo_text : MethodName := ⟨"ClauseLedgerModel", "text", "(II)I"⟩
theorem hd_Mo_text : y_Mo_text.cls ≠ "java/lang/invoke/MethodHandle" ∧ y_Mo_text.cls ≠ "java/lang/invoke/VarHandle" ∧ (parseMethodDescriptor y_Mo_text.desc).map (fun d => d.parameters.length) = some 2 := by decide +kernel
theorem d_Mo_text_0 : decode b_Mo_text 0 = .ok (.aload_n 0, 1) := by decide +kernel
theorem d_Mo_text_1 : decode b_Mo_text 1 = .ok (.iconst 0, 1) := by decide +kernel
theorem d_Mo_text_2 : decode b_Mo_text 2 = .ok (.putfield 103, 3) := by decide +kernel
theorem d_Mo_text_5 : decode b_Mo_text 5 = .ok (.iload_n 1, 1) := by decide +kernel
theorem d_Mo_text_6 : decode b_Mo_text 6 = .ok (.ifCond .lt 16, 3) := by decide +kernel
theorem d_Mo_text_9 : decode b_Mo_text 9 = .ok (.iload_n 1, 1) := by decide +kernel
theorem d_Mo_text_10 : decode b_Mo_text 10 = .ok (.aload_n 0, 1) := by decide +kernel
theorem d_Mo_text_11 : decode b_Mo_text 11 = .ok (.getfield 109, 3) := by decide +kernel
theorem d_Mo_text_14 : decode b_Mo_text 14 = .ok (.if_icmp .ge 8, 3) := by decide +kernel
theorem d_Mo_text_17 : decode b_Mo_text 17 = .ok (.iload_n 2, 1) := by decide +kernel
theorem d_Mo_text_18 : decode b_Mo_text 18 = .ok (.iconst (-1), 1) := by decide +kernel
theorem d_Mo_text_19 : decode b_Mo_text 19 = .ok (.if_icmp .ge 6, 3) := by decide +kernel
theorem d_Mo_text_22 : decode b_Mo_text 22 = .ok (.bipush (-2), 2) := by decide +kernel
theorem d_Mo_text_24 : decode b_Mo_text 24 = .ok (.ireturn, 1) := by decide +kernel
theorem d_Mo_text_25 : decode b_Mo_text 25 = .ok (.aload_n 0, 1) := by decide +kernel
theorem d_Mo_text_26 : decode b_Mo_text 26 = .ok (.iload_n 2, 1) := by decide +kernel
theorem d_Mo_text_27 : decode b_Mo_text 27 = .ok (.putfield 300, 3) := by decide +kernel
theorem d_Mo_text_30 : decode b_Mo_text 30 = .ok (.aload_n 0, 1) := by decide +kernel
theorem d_Mo_text_31 : decode b_Mo_text 31 = .ok (.iload_n 1, 1) := by decide +kernel
theorem d_Mo_text_32 : decode b_Mo_text 32 = .ok (.invokevirtual 315, 3) := by decide +kernel
theorem d_Mo_text_35 : decode b_Mo_text 35 = .ok (.iload_n 2, 1) := by decide +kernel
theorem d_Mo_text_36 : decode b_Mo_text 36 = .ok (.ifCond .ge 10, 3) := by decide +kernel
theorem d_Mo_text_39 : decode b_Mo_text 39 = .ok (.aload_n 0, 1) := by decide +kernel
theorem d_Mo_text_40 : decode b_Mo_text 40 = .ok (.getfield 297, 3) := by decide +kernel
theorem d_Mo_text_43 : decode b_Mo_text 43 = .ok (.goto 20, 3) := by decide +kernel
theorem d_Mo_text_46 : decode b_Mo_text 46 = .ok (.iload_n 2, 1) := by decide +kernel
theorem d_Mo_text_47 : decode b_Mo_text 47 = .ok (.aload_n 0, 1) := by decide +kernel
theorem d_Mo_text_48 : decode b_Mo_text 48 = .ok (.getfield 297, 3) := by decide +kernel
theorem d_Mo_text_51 : decode b_Mo_text 51 = .ok (.if_icmp .ge 10, 3) := by decide +kernel
theorem d_Mo_text_54 : decode b_Mo_text 54 = .ok (.aload_n 0, 1) := by decide +kernel
theorem d_Mo_text_55 : decode b_Mo_text 55 = .ok (.getfield 303, 3) := by decide +kernel
theorem d_Mo_text_58 : decode b_Mo_text 58 = .ok (.goto 5, 3) := by decide +kernel
theorem d_Mo_text_61 : decode b_Mo_text 61 = .ok (.bipush (-2), 2) := by decide +kernel
theorem d_Mo_text_63 : decode b_Mo_text 63 = .ok (.ireturn, 1) := by decide +kernel
def f_Mo_text_22 (σ : St) : Int32 × St := ((-2), σ)
def k_Mo_text_22 (σ : St) : Prop := True
def f_Mo_text_63 (s0 : Int32) (σ : St) : Int32 × St := (s0, σ)
def k_Mo_text_63 (s0 : Int32) (σ : St) : Prop := True
def f_Mo_text_35 (x2 : Int32) (σ : St) : Int32 × St := if 0 ≤ x2 then (if (σ.1 0 46) ≤ x2 then (f_Mo_text_63 (-2) σ) else (f_Mo_text_63 (σ.1 0 48) σ)) else (f_Mo_text_63 (σ.1 0 46) σ)
def k_Mo_text_35 (x2 : Int32) (σ : St) : Prop := (0 ≤ x2 → (((σ.1 0 46) ≤ x2 → (k_Mo_text_63 (-2) σ)) ∧ (¬ (σ.1 0 46) ≤ x2 → (k_Mo_text_63 (σ.1 0 48) σ)))) ∧ (¬ 0 ≤ x2 → (k_Mo_text_63 (σ.1 0 46) σ))
def f_Mo_text_30 (x1 : Int32) (x2 : Int32) (σ : St) : Int32 × St := f_Mo_text_35 x2 (f_Mo_writeAll x1 σ)
def k_Mo_text_30 (x1 : Int32) (x2 : Int32) (σ : St) : Prop := (k_Mo_writeAll x1 σ) ∧ (k_Mo_text_35 x2 (f_Mo_writeAll x1 σ))
def f_Mo_text_5 (x1 : Int32) (x2 : Int32) (σ : St) : Int32 × St := if x1 < 0 then (f_Mo_text_22 σ) else (if (σ.1 0 8) ≤ x1 then (f_Mo_text_22 σ) else (if (-1) ≤ x2 then (f_Mo_text_30 x1 x2 (sF σ 0 47 x2)) else (f_Mo_text_22 σ)))
def k_Mo_text_5 (x1 : Int32) (x2 : Int32) (σ : St) : Prop := (x1 < 0 → (k_Mo_text_22 σ)) ∧ (¬ x1 < 0 → (((σ.1 0 8) ≤ x1 → (k_Mo_text_22 σ)) ∧ (¬ (σ.1 0 8) ≤ x1 → (((-1) ≤ x2 → (k_Mo_text_30 x1 x2 (sF σ 0 47 x2))) ∧ (¬ (-1) ≤ x2 → (k_Mo_text_22 σ))))))
def f_Mo_text (a1 : Int32) (a2 : Int32) (σ : St) : Int32 × St := f_Mo_text_5 a1 a2 (sF σ 0 0 0)
def k_Mo_text (a1 : Int32) (a2 : Int32) (σ : St) : Prop := k_Mo_text_5 a1 a2 (sF σ 0 0 0)
abbrev w_Mo_text : List Cond := Cond.code y_Mo_text b_Mo_text 3 (some .int) :: gw
abbrev rm_Mo_text : Room := { frames := 4, cells := 0, slots := 0, locals := 89 }
set_option maxHeartbeats 4000000 in
set_option maxRecDepth 100000 in
theorem c_Mo_text (l : Launch) (D : va_G) (ty : Nat → ClassId) (h : Nat → Nat) (px : va_W) (sa : Nat → Nat) (σ : St) (sz : Nat) (a1 : Int32) (a2 : Int32) (hk : k_Mo_text a1 a2 σ) : Met l y_Mo_text w_Mo_text rm_Mo_text (va_Pc [.ref (h 0), .int a1, .int a2] (fun U => U.heap.size = sz ∧ va_P D classes (Wm ty h σ px) U.heap ∧ va_K D classes (Ta ty) U ∧ NW U ∧ MK sa (va_A (Wm ty h σ px) sz) U U.heap ∧ va_D (fun _ => True) (Wm ty h σ px))) (va_Qi (fun r (u : St) => (r, u) = f_Mo_text a1 a2 σ) (fun u t => va_P D classes (Wm ty h u px) t.heap) (va_A (Wm ty h σ px) sz)) 0 0 (va_A (Wm ty h σ px) sz) := by
  refine Met.ofW (cc := b_Mo_text) (maxL := 3) (ret := (some .int)) (by decide) rfl ?_
  intro p e s m args below meth c s₁ B hml hv
  obtain ⟨ha, hsz, hP, hK, hN, hM, hD0⟩ := hv
  have hx := B.exec
  have hb := B.bytes
  have hr := B.returns
  have hg : ∀ w ∈ gw, w.before args s = true := fun w h9 => atoms_spec (ws := w_Mo_text) B.pre w (List.mem_cons_of_mem _ h9)
  have hown : s.vm.findClass "ClauseLedgerModel" = some m.cls := findClass_of_methodNamed B.named
  have hlocks := B.notSynchronized
  subst hsz
  have hD := hD0.self (sz := s.heap.size)
  generalize hAe : va_A (Wm ty h σ px) s.heap.size = A at hD hM ⊢
  have hA : ∀ q : Nat, s.heap.size ≤ q → A q := fun q h9 => by rw [← hAe]; exact Or.inr h9
  have hS : va_S A s.heap s.heap [] := va_S.rf
  have he : entryFrame m args 3 = entryFrame m ([.ref (h 0), .int a1, .int a2] : List Value).toArray 3 := by rw [ha]
  rw [he, lg_entry_eq]
  have hl := lv_entry ([.ref (h 0), .int a1, .int a2]) (n := 3) (Nat.le_of_ble_eq_true rfl)
  generalize (lg_sl ([.ref (h 0), .int a1, .int a2]) ++ List.replicate (3 - (lg_sl ([.ref (h 0), .int a1, .int a2])).length) Slot.unset).toArray = ls at hl ⊢
  have hl : lv_has ls 3 [(0, .ref (h 0)), (1, .int a1), (2, .int a2)] := hl
  generalize hv : f_Mo_text a1 a2 σ = v
  replace hv := hv.symm
  have B22 : ∀ (H : Heap) (locs : List Loc) (ls : Array Slot) (σ : St), v = f_Mo_text_22 σ → k_Mo_text_22 σ → lv_has ls 3 [] → va_P D classes (Wm ty h σ px) H → va_D A (Wm ty h σ px) → va_S A s.heap H locs → W p l e (headSpec w_Mo_text rm_Mo_text).room s m args below meth c H locs 0 0 (MQ below (va_Qi (fun r (u : St) => (r, u) = v) (fun u t => va_P D classes (Wm ty h u px) t.heap) A) args s 0 0 A) (F0 m 22 ls []) := by
    intro H locs ls σ hv hk hl hP hD hS
    unfold f_Mo_text_22 at hv
    unfold k_Mo_text_22 at hk
    refine lv_bipush (v := -2) hx hb d_Mo_text_22 (by decide) ?_
    exact W.iret hx hb hr (fun t ht hW => ⟨⟨_, _, rfl, hv.symm, by dsimp only; rw [ht]; exact hP⟩, hS.F ht⟩) hS.2.2 d_Mo_text_24
  have B63 : ∀ (H : Heap) (locs : List Loc) (ls : Array Slot) (s0 : Int32) (σ : St), v = f_Mo_text_63 s0 σ → k_Mo_text_63 s0 σ → lv_has ls 3 [] → va_P D classes (Wm ty h σ px) H → va_D A (Wm ty h σ px) → va_S A s.heap H locs → W p l e (headSpec w_Mo_text rm_Mo_text).room s m args below meth c H locs 0 0 (MQ below (va_Qi (fun r (u : St) => (r, u) = v) (fun u t => va_P D classes (Wm ty h u px) t.heap) A) args s 0 0 A) (F0 m 63 ls [.int s0]) := by
    intro H locs ls s0 σ hv hk hl hP hD hS
    unfold f_Mo_text_63 at hv
    unfold k_Mo_text_63 at hk
    exact W.iret hx hb hr (fun t ht hW => ⟨⟨_, _, rfl, hv.symm, by dsimp only; rw [ht]; exact hP⟩, hS.F ht⟩) hS.2.2 d_Mo_text_63
  have B35 : ∀ (H : Heap) (locs : List Loc) (ls : Array Slot) (x2 : Int32) (σ : St), v = f_Mo_text_35 x2 σ → k_Mo_text_35 x2 σ → lv_has ls 3 [(0, .ref (h 0)), (2, .int x2)] → va_P D classes (Wm ty h σ px) H → va_D A (Wm ty h σ px) → va_S A s.heap H locs → W p l e (headSpec w_Mo_text rm_Mo_text).room s m args below meth c H locs 0 0 (MQ below (va_Qi (fun r (u : St) => (r, u) = v) (fun u t => va_P D classes (Wm ty h u px) t.heap) A) args s 0 0 A) (F0 m 35 ls []) := by
    intro H locs ls x2 σ hv hk hl hP hD hS
    unfold f_Mo_text_35 at hv
    unfold k_Mo_text_35 at hk
    refine lv_iload_n hx hb d_Mo_text_35 rfl (lv_at hl 1 rfl) ?_
    refine lv_if_ge (tgt := 46) hx hb d_Mo_text_36 (by decide) (fun hc => ?_) (fun hc => ?_)
    · have hv := hv.trans (if_pos hc)
      have hk := hk.1 hc
      refine lv_iload_n hx hb d_Mo_text_46 rfl (lv_at hl 1 rfl) ?_
      refine lv_aload_n hx hb d_Mo_text_47 rfl (lv_at hl 0 rfl) ?_
      refine va_get (v := .int (σ.1 0 46)) (C := R_Mo) (T := T_Mo) (N := 51) hx hb hg in_Mo hown hK hP 0 rfl rfl 46 (by decide) (hg _ m_1305) (fun _ h9 => h9) rfl d_Mo_text_48 ?_
      refine lv_icmp_ge (tgt := 61) hx hb d_Mo_text_51 (by decide) (fun hc => ?_) (fun hc => ?_)
      · have hv := hv.trans (if_pos hc)
        have hk := hk.1 hc
        refine lv_bipush (v := -2) hx hb d_Mo_text_61 (by decide) ?_
        exact B63 _ _ _ (-2) σ hv hk (lv_sub hl [] rfl) hP hD hS
      · have hv := hv.trans (if_neg hc)
        have hk := hk.2 hc
        refine lv_aload_n hx hb d_Mo_text_54 rfl (lv_at hl 0 rfl) ?_
        refine va_get (v := .int (σ.1 0 48)) (C := R_Mo) (T := T_Mo) (N := 51) hx hb hg in_Mo hown hK hP 0 rfl rfl 48 (by decide) (hg _ m_1307) (fun _ h9 => h9) rfl d_Mo_text_55 ?_
        refine lv_goto (tgt := 63) hx hb d_Mo_text_58 (by decide) ?_
        exact B63 _ _ _ (σ.1 0 48) σ hv hk (lv_sub hl [] rfl) hP hD hS
    · have hv := hv.trans (if_neg hc)
      have hk := hk.2 hc
      refine lv_aload_n hx hb d_Mo_text_39 rfl (lv_at hl 0 rfl) ?_
      refine va_get (v := .int (σ.1 0 46)) (C := R_Mo) (T := T_Mo) (N := 51) hx hb hg in_Mo hown hK hP 0 rfl rfl 46 (by decide) (hg _ m_1305) (fun _ h9 => h9) rfl d_Mo_text_40 ?_
      refine lv_goto (tgt := 63) hx hb d_Mo_text_43 (by decide) ?_
      exact B63 _ _ _ (σ.1 0 46) σ hv hk (lv_sub hl [] rfl) hP hD hS
  have B30 : ∀ (H : Heap) (locs : List Loc) (ls : Array Slot) (x1 : Int32) (x2 : Int32) (σ : St), v = f_Mo_text_30 x1 x2 σ → k_Mo_text_30 x1 x2 σ → lv_has ls 3 [(0, .ref (h 0)), (1, .int x1), (2, .int x2)] → va_P D classes (Wm ty h σ px) H → va_D A (Wm ty h σ px) → va_S A s.heap H locs → W p l e (headSpec w_Mo_text rm_Mo_text).room s m args below meth c H locs 0 0 (MQ below (va_Qi (fun r (u : St) => (r, u) = v) (fun u t => va_P D classes (Wm ty h u px) t.heap) A) args s 0 0 A) (F0 m 30 ls []) := by
    intro H locs ls x1 x2 σ hv hk hl hP hD hS
    unfold f_Mo_text_30 at hv
    unfold k_Mo_text_30 at hk
    refine lv_aload_n hx hb d_Mo_text_30 rfl (lv_at hl 0 rfl) ?_
    refine lv_iload_n hx hb d_Mo_text_31 rfl (lv_at hl 1 rfl) ?_
    obtain ⟨hk0, hk⟩ := hk
    refine va_callv (va_runV (As := [.int x1]) (rest := []) ⟨hx, hb, hml, hown, hg⟩ (c_Mo_writeAll l D ty h px sa σ H.size x1 hk0) ⟨callB_of 1 hg (gw_C m_1660) rfl rfl rfl (hg _ m_13) (hg _ m_1657) hd_Mo_writeAll ⟨Nat.le_of_ble_eq_true rfl, Nat.le_of_ble_eq_true rfl⟩, hg _ m_1659, hg _ ms_82⟩ (zz_preVW hM hS hA hN hK hP hD 0 rfl rfl) rfl rfl hl.1 rfl (lv_room (Nat.le_of_ble_eq_true rfl)) d_Mo_text_32 ⟨Nat.le_of_ble_eq_true rfl, Nat.le_of_ble_eq_true rfl⟩) hS (fun q _ h => zz_free hD hS hA q h) (zz_free hD hS hA) (fun u32 t H locs ht hvm hp hP1 hz hk1 hS => ?_)
    rw [ht] at hP1
    rw [← hp] at hv hk
    have hD : va_D A (Wm ty h u32 px) := zz_D hD rfl
    have hP := hP1
    exact B35 _ _ _ x2 u32 hv hk (lv_sub hl [0, 2] rfl) hP hD hS
  have B5 : ∀ (H : Heap) (locs : List Loc) (ls : Array Slot) (x1 : Int32) (x2 : Int32) (σ : St), v = f_Mo_text_5 x1 x2 σ → k_Mo_text_5 x1 x2 σ → lv_has ls 3 [(0, .ref (h 0)), (1, .int x1), (2, .int x2)] → va_P D classes (Wm ty h σ px) H → va_D A (Wm ty h σ px) → va_S A s.heap H locs → W p l e (headSpec w_Mo_text rm_Mo_text).room s m args below meth c H locs 0 0 (MQ below (va_Qi (fun r (u : St) => (r, u) = v) (fun u t => va_P D classes (Wm ty h u px) t.heap) A) args s 0 0 A) (F0 m 5 ls []) := by
    intro H locs ls x1 x2 σ hv hk hl hP hD hS
    unfold f_Mo_text_5 at hv
    unfold k_Mo_text_5 at hk
    refine lv_iload_n hx hb d_Mo_text_5 rfl (lv_at hl 1 rfl) ?_
    refine lv_if_lt (tgt := 22) hx hb d_Mo_text_6 (by decide) (fun hc => ?_) (fun hc => ?_)
    · have hv := hv.trans (if_pos hc)
      have hk := hk.1 hc
      exact B22 _ _ _  σ hv hk (lv_sub hl [] rfl) hP hD hS
    · have hv := hv.trans (if_neg hc)
      have hk := hk.2 hc
      refine lv_iload_n hx hb d_Mo_text_9 rfl (lv_at hl 1 rfl) ?_
      refine lv_aload_n hx hb d_Mo_text_10 rfl (lv_at hl 0 rfl) ?_
      refine va_get (v := .int (σ.1 0 8)) (C := R_Mo) (T := T_Mo) (N := 51) hx hb hg in_Mo hown hK hP 0 rfl rfl 8 (by decide) (hg _ m_1267) (fun _ h9 => h9) rfl d_Mo_text_11 ?_
      refine lv_icmp_ge (tgt := 22) hx hb d_Mo_text_14 (by decide) (fun hc => ?_) (fun hc => ?_)
      · have hv := hv.trans (if_pos hc)
        have hk := hk.1 hc
        exact B22 _ _ _  σ hv hk (lv_sub hl [] rfl) hP hD hS
      · have hv := hv.trans (if_neg hc)
        have hk := hk.2 hc
        refine lv_iload_n hx hb d_Mo_text_17 rfl (lv_at hl 2 rfl) ?_
        refine lv_iconst (v := -1) hx hb d_Mo_text_18 (by decide) ?_
        refine lv_icmp_ge (tgt := 25) hx hb d_Mo_text_19 (by decide) (fun hc => ?_) (fun hc => ?_)
        · have hv := hv.trans (if_pos hc)
          have hk := hk.1 hc
          refine lv_aload_n hx hb d_Mo_text_25 rfl (lv_at hl 0 rfl) ?_
          refine lv_iload_n hx hb d_Mo_text_26 rfl (lv_at hl 2 rfl) ?_
          refine va_put (v := .int x2) (ty := .int) (C := R_Mo) (T := T_Mo) (N := 51) hx hb hg in_Mo ty_Mo ok_Mo nm_Mo hown hK hP hD hS 0 rfl rfl 47 (by decide) (hg _ m_1306) (fun _ h9 => h9) rfl (by decide +kernel) rfl rfl (Nat.le_of_ble_eq_true rfl) d_Mo_text_27 (fun H locs hP hD hS => ?_)
          have hP : va_P D classes (Wm ty h (sF σ 0 47 x2) px) H := hP
          have hD : va_D A (Wm ty h (sF σ 0 47 x2) px) := hD
          exact B30 _ _ _ x1 x2 (sF σ 0 47 x2) hv hk (lv_sub hl [0, 1, 2] rfl) hP hD hS
        · have hv := hv.trans (if_neg hc)
          have hk := hk.2 hc
          exact B22 _ _ _  σ hv hk (lv_sub hl [] rfl) hP hD hS
  unfold f_Mo_text at hv
  unfold k_Mo_text at hk
  refine lv_aload_n hx hb d_Mo_text_0 rfl (lv_at hl 0 rfl) ?_
  refine lv_iconst (v := 0) hx hb d_Mo_text_1 (by decide) ?_
  refine va_put (v := .int 0) (ty := .int) (C := R_Mo) (T := T_Mo) (N := 51) hx hb hg in_Mo ty_Mo ok_Mo nm_Mo hown hK hP hD hS 0 rfl rfl 0 (by decide) (hg _ m_1259) (fun _ h9 => h9) rfl (by decide +kernel) rfl rfl (Nat.le_of_ble_eq_true rfl) d_Mo_text_2 (fun H locs hP hD hS => ?_)
  have hP : va_P D classes (Wm ty h (sF σ 0 0 0) px) H := hP
  have hD : va_D A (Wm ty h (sF σ 0 0 0) px) := hD
  exact B5 _ _ _ a1 a2 (sF σ 0 0 0) hv hk (lv_sub hl [0, 1, 2] rfl) hP hD hS

