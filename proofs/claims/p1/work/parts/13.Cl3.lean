-- ClauseLedger$Draft.wipe()V
abbrev b_Dr_wipe : ByteArray := prog_3_method_3_code
def y_Dr_wipe : MethodName := ⟨"ClauseLedger$Draft", "wipe", "()V"⟩
theorem hd_Dr_wipe : y_Dr_wipe.cls ≠ "java/lang/invoke/MethodHandle" ∧ y_Dr_wipe.cls ≠ "java/lang/invoke/VarHandle" ∧ (parseMethodDescriptor y_Dr_wipe.desc).map (fun d => d.parameters.length) = some 0 := by decide +kernel
theorem d_Dr_wipe_0 : decode b_Dr_wipe 0 = .ok (.aload_n 0, 1) := by decide +kernel
theorem d_Dr_wipe_1 : decode b_Dr_wipe 1 = .ok (.iconst 0, 1) := by decide +kernel
theorem d_Dr_wipe_2 : decode b_Dr_wipe 2 = .ok (.putfield 13, 3) := by decide +kernel
theorem d_Dr_wipe_5 : decode b_Dr_wipe 5 = .ok (.return_, 1) := by decide +kernel
def f_Dr_wipe_5 (σ : St) : St := σ
def k_Dr_wipe_5 (σ : St) : Prop := True
def f_Dr_wipe (σ : St) : St := f_Dr_wipe_5 (sF σ 18 1 0)
def k_Dr_wipe (σ : St) : Prop := k_Dr_wipe_5 (sF σ 18 1 0)
abbrev w_Dr_wipe : List Cond := Cond.code y_Dr_wipe b_Dr_wipe 1 none :: gw
abbrev rm_Dr_wipe : Room := { frames := 0, cells := 0, slots := 0, locals := 0 }
set_option maxHeartbeats 4000000 in
set_option maxRecDepth 100000 in
theorem c_Dr_wipe (l : Launch) (D : va_G) (ty : Nat → ClassId) (h : Nat → Nat) (px : va_W) (sa : Nat → Nat) (σ : St) (sz : Nat) (hk : k_Dr_wipe σ) : Met l y_Dr_wipe w_Dr_wipe rm_Dr_wipe (va_Pc [.ref (h 18)] (fun U => U.heap.size = sz ∧ va_P D classes (Wc ty h σ px) U.heap ∧ va_K D classes (Ta ty) U ∧ NW U ∧ MK sa (va_A (Wc ty h σ px) sz) U U.heap ∧ va_D (fun _ => True) (Wc ty h σ px))) (va_Qv (fun u : St => u = f_Dr_wipe σ) (fun u t => va_P D classes (Wc ty h u px) t.heap) (va_A (Wc ty h σ px) sz)) 0 0 (va_A (Wc ty h σ px) sz) := by
  refine Met.ofW (cc := b_Dr_wipe) (maxL := 1) (ret := none) (by decide) rfl ?_
  intro p e s m args below meth c s₁ B hml hv
  obtain ⟨ha, hsz, hP, hK, hN, hM, hD0⟩ := hv
  have hx := B.exec
  have hb := B.bytes
  have hr := B.returns
  have hg : ∀ w ∈ gw, w.before args s = true := fun w h9 => atoms_spec (ws := w_Dr_wipe) B.pre w (List.mem_cons_of_mem _ h9)
  have hown : s.vm.findClass "ClauseLedger$Draft" = some m.cls := findClass_of_methodNamed B.named
  have hlocks := B.notSynchronized
  subst hsz
  have hD := hD0.self (sz := s.heap.size)
  generalize hAe : va_A (Wc ty h σ px) s.heap.size = A at hD hM ⊢
  have hA : ∀ q : Nat, s.heap.size ≤ q → A q := fun q h9 => by rw [← hAe]; exact Or.inr h9
  have hS : va_S A s.heap s.heap [] := va_S.rf
  have he : entryFrame m args 1 = entryFrame m ([.ref (h 18)] : List Value).toArray 1 := by rw [ha]
  rw [he, lg_entry_eq]
  have hl := lv_entry ([.ref (h 18)]) (n := 1) (Nat.le_of_ble_eq_true rfl)
  generalize (lg_sl ([.ref (h 18)]) ++ List.replicate (1 - (lg_sl ([.ref (h 18)])).length) Slot.unset).toArray = ls at hl ⊢
  have hl : lv_has ls 1 [(0, .ref (h 18))] := hl
  generalize hv : f_Dr_wipe σ = v
  replace hv := hv.symm
  have B5 : ∀ (H : Heap) (locs : List Loc) (ls : Array Slot) (σ : St), v = f_Dr_wipe_5 σ → k_Dr_wipe_5 σ → lv_has ls 1 [] → va_P D classes (Wc ty h σ px) H → va_D A (Wc ty h σ px) → va_S A s.heap H locs → W p l e (headSpec w_Dr_wipe rm_Dr_wipe).room s m args below meth c H locs 0 0 (MQ below (va_Qv (fun u : St => u = v) (fun u t => va_P D classes (Wc ty h u px) t.heap) A) args s 0 0 A) (F0 m 5 ls []) := by
    intro H locs ls σ hv hk hl hP hD hS
    unfold f_Dr_wipe_5 at hv
    unfold k_Dr_wipe_5 at hk
    exact W.vret hx hb hr (fun t ht hW => ⟨⟨_, rfl, hv.symm, by dsimp only; rw [ht]; exact hP⟩, hS.F ht⟩) hS.2.2 d_Dr_wipe_5
  unfold f_Dr_wipe at hv
  unfold k_Dr_wipe at hk
  refine lv_aload_n hx hb d_Dr_wipe_0 rfl (lv_at hl 0 rfl) ?_
  refine lv_iconst (v := 0) hx hb d_Dr_wipe_1 (by decide) ?_
  refine va_put (v := .int 0) (ty := .int) (C := R_Dr) (T := T_Dr) (N := 2) hx hb hg in_Dr ty_Dr ok_Dr nm_Dr hown hK hP hD hS 18 rfl rfl 1 (by decide) (hg _ m_120) (fun _ h9 => h9) rfl (by decide +kernel) rfl rfl (Nat.le_of_ble_eq_true rfl) d_Dr_wipe_2 (fun H locs hP hD hS => ?_)
  have hP : va_P D classes (Wc ty h (sF σ 18 1 0) px) H := hP
  have hD : va_D A (Wc ty h (sF σ 18 1 0) px) := hD
  exact B5 _ _ _  (sF σ 18 1 0) hv hk (lv_sub hl [] rfl) hP hD hS

-- ClauseLedger$Terms.takeBack()V
abbrev b_Te_takeBack : ByteArray := prog_11_method_18_code
def y_Te_takeBack : MethodName := ⟨"ClauseLedger$Terms", "takeBack", "()V"⟩
theorem hd_Te_takeBack : y_Te_takeBack.cls ≠ "java/lang/invoke/MethodHandle" ∧ y_Te_takeBack.cls ≠ "java/lang/invoke/VarHandle" ∧ (parseMethodDescriptor y_Te_takeBack.desc).map (fun d => d.parameters.length) = some 0 := by decide +kernel
theorem d_Te_takeBack_0 : decode b_Te_takeBack 0 = .ok (.aload_n 0, 1) := by decide +kernel
theorem d_Te_takeBack_1 : decode b_Te_takeBack 1 = .ok (.aload_n 0, 1) := by decide +kernel
theorem d_Te_takeBack_2 : decode b_Te_takeBack 2 = .ok (.getfield 50, 3) := by decide +kernel
theorem d_Te_takeBack_5 : decode b_Te_takeBack 5 = .ok (.putfield 46, 3) := by decide +kernel
theorem d_Te_takeBack_8 : decode b_Te_takeBack 8 = .ok (.aload_n 0, 1) := by decide +kernel
theorem d_Te_takeBack_9 : decode b_Te_takeBack 9 = .ok (.iconst 0, 1) := by decide +kernel
theorem d_Te_takeBack_10 : decode b_Te_takeBack 10 = .ok (.putfield 53, 3) := by decide +kernel
theorem d_Te_takeBack_13 : decode b_Te_takeBack 13 = .ok (.return_, 1) := by decide +kernel
def f_Te_takeBack_13 (σ : St) : St := σ
def k_Te_takeBack_13 (σ : St) : Prop := True
def f_Te_takeBack_8 (σ : St) : St := f_Te_takeBack_13 (sF σ 6 13 0)
def k_Te_takeBack_8 (σ : St) : Prop := k_Te_takeBack_13 (sF σ 6 13 0)
def f_Te_takeBack (σ : St) : St := f_Te_takeBack_8 (sF σ 6 11 (σ.1 6 12))
def k_Te_takeBack (σ : St) : Prop := k_Te_takeBack_8 (sF σ 6 11 (σ.1 6 12))
abbrev w_Te_takeBack : List Cond := Cond.code y_Te_takeBack b_Te_takeBack 1 none :: gw
abbrev rm_Te_takeBack : Room := { frames := 0, cells := 0, slots := 0, locals := 0 }
set_option maxHeartbeats 4000000 in
set_option maxRecDepth 100000 in
theorem c_Te_takeBack (l : Launch) (D : va_G) (ty : Nat → ClassId) (h : Nat → Nat) (px : va_W) (sa : Nat → Nat) (σ : St) (sz : Nat) (hk : k_Te_takeBack σ) : Met l y_Te_takeBack w_Te_takeBack rm_Te_takeBack (va_Pc [.ref (h 6)] (fun U => U.heap.size = sz ∧ va_P D classes (Wc ty h σ px) U.heap ∧ va_K D classes (Ta ty) U ∧ NW U ∧ MK sa (va_A (Wc ty h σ px) sz) U U.heap ∧ va_D (fun _ => True) (Wc ty h σ px))) (va_Qv (fun u : St => u = f_Te_takeBack σ) (fun u t => va_P D classes (Wc ty h u px) t.heap) (va_A (Wc ty h σ px) sz)) 0 0 (va_A (Wc ty h σ px) sz) := by
  refine Met.ofW (cc := b_Te_takeBack) (maxL := 1) (ret := none) (by decide) rfl ?_
  intro p e s m args below meth c s₁ B hml hv
  obtain ⟨ha, hsz, hP, hK, hN, hM, hD0⟩ := hv
  have hx := B.exec
  have hb := B.bytes
  have hr := B.returns
  have hg : ∀ w ∈ gw, w.before args s = true := fun w h9 => atoms_spec (ws := w_Te_takeBack) B.pre w (List.mem_cons_of_mem _ h9)
  have hown : s.vm.findClass "ClauseLedger$Terms" = some m.cls := findClass_of_methodNamed B.named
  have hlocks := B.notSynchronized
  subst hsz
  have hD := hD0.self (sz := s.heap.size)
  generalize hAe : va_A (Wc ty h σ px) s.heap.size = A at hD hM ⊢
  have hA : ∀ q : Nat, s.heap.size ≤ q → A q := fun q h9 => by rw [← hAe]; exact Or.inr h9
  have hS : va_S A s.heap s.heap [] := va_S.rf
  have he : entryFrame m args 1 = entryFrame m ([.ref (h 6)] : List Value).toArray 1 := by rw [ha]
  rw [he, lg_entry_eq]
  have hl := lv_entry ([.ref (h 6)]) (n := 1) (Nat.le_of_ble_eq_true rfl)
  generalize (lg_sl ([.ref (h 6)]) ++ List.replicate (1 - (lg_sl ([.ref (h 6)])).length) Slot.unset).toArray = ls at hl ⊢
  have hl : lv_has ls 1 [(0, .ref (h 6))] := hl
  generalize hv : f_Te_takeBack σ = v
  replace hv := hv.symm
  have B13 : ∀ (H : Heap) (locs : List Loc) (ls : Array Slot) (σ : St), v = f_Te_takeBack_13 σ → k_Te_takeBack_13 σ → lv_has ls 1 [] → va_P D classes (Wc ty h σ px) H → va_D A (Wc ty h σ px) → va_S A s.heap H locs → W p l e (headSpec w_Te_takeBack rm_Te_takeBack).room s m args below meth c H locs 0 0 (MQ below (va_Qv (fun u : St => u = v) (fun u t => va_P D classes (Wc ty h u px) t.heap) A) args s 0 0 A) (F0 m 13 ls []) := by
    intro H locs ls σ hv hk hl hP hD hS
    unfold f_Te_takeBack_13 at hv
    unfold k_Te_takeBack_13 at hk
    exact W.vret hx hb hr (fun t ht hW => ⟨⟨_, rfl, hv.symm, by dsimp only; rw [ht]; exact hP⟩, hS.F ht⟩) hS.2.2 d_Te_takeBack_13
  have B8 : ∀ (H : Heap) (locs : List Loc) (ls : Array Slot) (σ : St), v = f_Te_takeBack_8 σ → k_Te_takeBack_8 σ → lv_has ls 1 [(0, .ref (h 6))] → va_P D classes (Wc ty h σ px) H → va_D A (Wc ty h σ px) → va_S A s.heap H locs → W p l e (headSpec w_Te_takeBack rm_Te_takeBack).room s m args below meth c H locs 0 0 (MQ below (va_Qv (fun u : St => u = v) (fun u t => va_P D classes (Wc ty h u px) t.heap) A) args s 0 0 A) (F0 m 8 ls []) := by
    intro H locs ls σ hv hk hl hP hD hS
    unfold f_Te_takeBack_8 at hv
    unfold k_Te_takeBack_8 at hk
    refine lv_aload_n hx hb d_Te_takeBack_8 rfl (lv_at hl 0 rfl) ?_
    refine lv_iconst (v := 0) hx hb d_Te_takeBack_9 (by decide) ?_
    refine va_put (v := .int 0) (ty := .boolean) (C := R_Te) (T := T_Te) (N := 14) hx hb hg in_Te ty_Te ok_Te nm_Te hown hK hP hD hS 6 rfl rfl 13 (by decide) (hg _ m_82) (fun _ h9 => h9) rfl (by decide +kernel) rfl rfl (Nat.le_of_ble_eq_true rfl) d_Te_takeBack_10 (fun H locs hP hD hS => ?_)
    have hP : va_P D classes (Wc ty h (sF σ 6 13 0) px) H := hP
    have hD : va_D A (Wc ty h (sF σ 6 13 0) px) := hD
    exact B13 _ _ _  (sF σ 6 13 0) hv hk (lv_sub hl [] rfl) hP hD hS
  unfold f_Te_takeBack at hv
  unfold k_Te_takeBack at hk
  refine lv_aload_n hx hb d_Te_takeBack_0 rfl (lv_at hl 0 rfl) ?_
  refine lv_aload_n hx hb d_Te_takeBack_1 rfl (lv_at hl 0 rfl) ?_
  refine va_get (v := .int (σ.1 6 12)) (C := R_Te) (T := T_Te) (N := 14) hx hb hg in_Te hown hK hP 6 rfl rfl 12 (by decide) (hg _ m_81) (fun _ h9 => h9) rfl d_Te_takeBack_2 ?_
  refine va_put (v := .int (σ.1 6 12)) (ty := .int) (C := R_Te) (T := T_Te) (N := 14) hx hb hg in_Te ty_Te ok_Te nm_Te hown hK hP hD hS 6 rfl rfl 11 (by decide) (hg _ m_80) (fun _ h9 => h9) rfl (by decide +kernel) rfl rfl (Nat.le_of_ble_eq_true rfl) d_Te_takeBack_5 (fun H locs hP hD hS => ?_)
  have hP : va_P D classes (Wc ty h (sF σ 6 11 (σ.1 6 12)) px) H := hP
  have hD : va_D A (Wc ty h (sF σ 6 11 (σ.1 6 12)) px) := hD
  exact B8 _ _ _  (sF σ 6 11 (σ.1 6 12)) hv hk (lv_sub hl [0] rfl) hP hD hS

-- ClauseLedger.undo()V
abbrev b_CL_undo : ByteArray := prog_1_method_38_code
def y_CL_undo : MethodName := ⟨"ClauseLedger", "undo", "()V"⟩
theorem hd_CL_undo : y_CL_undo.cls ≠ "java/lang/invoke/MethodHandle" ∧ y_CL_undo.cls ≠ "java/lang/invoke/VarHandle" ∧ (parseMethodDescriptor y_CL_undo.desc).map (fun d => d.parameters.length) = some 0 := by decide +kernel
theorem d_CL_undo_0 : decode b_CL_undo 0 = .ok (.aload_n 0, 1) := by decide +kernel
theorem d_CL_undo_1 : decode b_CL_undo 1 = .ok (.dup, 1) := by decide +kernel
theorem d_CL_undo_2 : decode b_CL_undo 2 = .ok (.getfield 267, 3) := by decide +kernel
theorem d_CL_undo_5 : decode b_CL_undo 5 = .ok (.iconst 1, 1) := by decide +kernel
theorem d_CL_undo_6 : decode b_CL_undo 6 = .ok (.iadd, 1) := by decide +kernel
theorem d_CL_undo_7 : decode b_CL_undo 7 = .ok (.putfield 267, 3) := by decide +kernel
theorem d_CL_undo_10 : decode b_CL_undo 10 = .ok (.aload_n 0, 1) := by decide +kernel
theorem d_CL_undo_11 : decode b_CL_undo 11 = .ok (.getfield 19, 3) := by decide +kernel
theorem d_CL_undo_14 : decode b_CL_undo 14 = .ok (.invokevirtual 299, 3) := by decide +kernel
theorem d_CL_undo_17 : decode b_CL_undo 17 = .ok (.return_, 1) := by decide +kernel
def f_CL_undo_17 (σ : St) : St := σ
def k_CL_undo_17 (σ : St) : Prop := True
def f_CL_undo_10 (σ : St) : St := f_CL_undo_17 (f_Te_takeBack σ)
def k_CL_undo_10 (σ : St) : Prop := (k_Te_takeBack σ) ∧ (k_CL_undo_17 (f_Te_takeBack σ))
def f_CL_undo (σ : St) : St := f_CL_undo_10 (sF σ 0 10 ((σ.1 0 10) + 1))
def k_CL_undo (σ : St) : Prop := k_CL_undo_10 (sF σ 0 10 ((σ.1 0 10) + 1))
abbrev w_CL_undo : List Cond := Cond.code y_CL_undo b_CL_undo 1 none :: gw
abbrev rm_CL_undo : Room := { frames := 1, cells := 0, slots := 0, locals := 20 }
set_option maxHeartbeats 4000000 in
set_option maxRecDepth 100000 in
theorem c_CL_undo (l : Launch) (D : va_G) (ty : Nat → ClassId) (h : Nat → Nat) (px : va_W) (sa : Nat → Nat) (σ : St) (sz : Nat) (hk : k_CL_undo σ) : Met l y_CL_undo w_CL_undo rm_CL_undo (va_Pc [.ref (h 0)] (fun U => U.heap.size = sz ∧ va_P D classes (Wc ty h σ px) U.heap ∧ va_K D classes (Ta ty) U ∧ NW U ∧ MK sa (va_A (Wc ty h σ px) sz) U U.heap ∧ va_D (fun _ => True) (Wc ty h σ px))) (va_Qv (fun u : St => u = f_CL_undo σ) (fun u t => va_P D classes (Wc ty h u px) t.heap) (va_A (Wc ty h σ px) sz)) 0 0 (va_A (Wc ty h σ px) sz) := by
  refine Met.ofW (cc := b_CL_undo) (maxL := 1) (ret := none) (by decide) rfl ?_
  intro p e s m args below meth c s₁ B hml hv
  obtain ⟨ha, hsz, hP, hK, hN, hM, hD0⟩ := hv
  have hx := B.exec
  have hb := B.bytes
  have hr := B.returns
  have hg : ∀ w ∈ gw, w.before args s = true := fun w h9 => atoms_spec (ws := w_CL_undo) B.pre w (List.mem_cons_of_mem _ h9)
  have hown : s.vm.findClass "ClauseLedger" = some m.cls := findClass_of_methodNamed B.named
  have hlocks := B.notSynchronized
  subst hsz
  have hD := hD0.self (sz := s.heap.size)
  generalize hAe : va_A (Wc ty h σ px) s.heap.size = A at hD hM ⊢
  have hA : ∀ q : Nat, s.heap.size ≤ q → A q := fun q h9 => by rw [← hAe]; exact Or.inr h9
  have hS : va_S A s.heap s.heap [] := va_S.rf
  have he : entryFrame m args 1 = entryFrame m ([.ref (h 0)] : List Value).toArray 1 := by rw [ha]
  rw [he, lg_entry_eq]
  have hl := lv_entry ([.ref (h 0)]) (n := 1) (Nat.le_of_ble_eq_true rfl)
  generalize (lg_sl ([.ref (h 0)]) ++ List.replicate (1 - (lg_sl ([.ref (h 0)])).length) Slot.unset).toArray = ls at hl ⊢
  have hl : lv_has ls 1 [(0, .ref (h 0))] := hl
  generalize hv : f_CL_undo σ = v
  replace hv := hv.symm
  have B17 : ∀ (H : Heap) (locs : List Loc) (ls : Array Slot) (σ : St), v = f_CL_undo_17 σ → k_CL_undo_17 σ → lv_has ls 1 [] → va_P D classes (Wc ty h σ px) H → va_D A (Wc ty h σ px) → va_S A s.heap H locs → W p l e (headSpec w_CL_undo rm_CL_undo).room s m args below meth c H locs 0 0 (MQ below (va_Qv (fun u : St => u = v) (fun u t => va_P D classes (Wc ty h u px) t.heap) A) args s 0 0 A) (F0 m 17 ls []) := by
    intro H locs ls σ hv hk hl hP hD hS
    unfold f_CL_undo_17 at hv
    unfold k_CL_undo_17 at hk
    exact W.vret hx hb hr (fun t ht hW => ⟨⟨_, rfl, hv.symm, by dsimp only; rw [ht]; exact hP⟩, hS.F ht⟩) hS.2.2 d_CL_undo_17
  have B10 : ∀ (H : Heap) (locs : List Loc) (ls : Array Slot) (σ : St), v = f_CL_undo_10 σ → k_CL_undo_10 σ → lv_has ls 1 [(0, .ref (h 0))] → va_P D classes (Wc ty h σ px) H → va_D A (Wc ty h σ px) → va_S A s.heap H locs → W p l e (headSpec w_CL_undo rm_CL_undo).room s m args below meth c H locs 0 0 (MQ below (va_Qv (fun u : St => u = v) (fun u t => va_P D classes (Wc ty h u px) t.heap) A) args s 0 0 A) (F0 m 10 ls []) := by
    intro H locs ls σ hv hk hl hP hD hS
    unfold f_CL_undo_10 at hv
    unfold k_CL_undo_10 at hk
    refine lv_aload_n hx hb d_CL_undo_10 rfl (lv_at hl 0 rfl) ?_
    refine va_get (v := .ref (h 6)) (C := R_CL) (T := T_CL) (N := 11) hx hb hg in_CL hown hK hP 0 rfl rfl 1 (by decide) (hg _ m_285) (fun _ h9 => h9) rfl d_CL_undo_11 ?_
    obtain ⟨hk0, hk⟩ := hk
    refine va_callv (va_runV (As := []) (rest := []) ⟨hx, hb, hml, hown, hg⟩ (c_Te_takeBack l D ty h px sa σ H.size  hk0) ⟨callB_of 0 hg (gw_C m_782) rfl rfl rfl (hg _ m_3) (hg _ m_779) hd_Te_takeBack ⟨Nat.le_of_ble_eq_true rfl, Nat.le_of_ble_eq_true rfl⟩, hg _ m_780, hg _ m_781⟩ (zz_preVW hM hS hA hN hK hP hD 6 rfl rfl) rfl rfl hl.1 rfl (lv_room (Nat.le_of_ble_eq_true rfl)) d_CL_undo_14 ⟨Nat.le_of_ble_eq_true rfl, Nat.le_of_ble_eq_true rfl⟩) hS (fun q _ h => zz_free hD hS hA q h) (zz_free hD hS hA) (fun u14 t H locs ht hvm hp hP1 hz hk1 hS => ?_)
    rw [ht] at hP1
    rw [← hp] at hv hk
    have hD : va_D A (Wc ty h u14 px) := zz_D hD rfl
    have hP := hP1
    exact B17 _ _ _  u14 hv hk (lv_sub hl [] rfl) hP hD hS
  unfold f_CL_undo at hv
  unfold k_CL_undo at hk
  refine lv_aload_n hx hb d_CL_undo_0 rfl (lv_at hl 0 rfl) ?_
  refine lv_dup hx hb d_CL_undo_1 rfl ?_
  refine va_get (v := .int (σ.1 0 10)) (C := R_CL) (T := T_CL) (N := 11) hx hb hg in_CL hown hK hP 0 rfl rfl 10 (by decide) (hg _ m_294) (fun _ h9 => h9) rfl d_CL_undo_2 ?_
  refine lv_iconst (v := 1) hx hb d_CL_undo_5 (by decide) ?_
  refine lv_iadd hx hb d_CL_undo_6 ?_
  refine va_put (v := .int ((σ.1 0 10) + 1)) (ty := .int) (C := R_CL) (T := T_CL) (N := 11) hx hb hg in_CL ty_CL ok_CL nm_CL hown hK hP hD hS 0 rfl rfl 10 (by decide) (hg _ m_294) (fun _ h9 => h9) rfl (by decide +kernel) rfl rfl (Nat.le_of_ble_eq_true rfl) d_CL_undo_7 (fun H locs hP hD hS => ?_)
  have hP : va_P D classes (Wc ty h (sF σ 0 10 ((σ.1 0 10) + 1)) px) H := hP
  have hD : va_D A (Wc ty h (sF σ 0 10 ((σ.1 0 10) + 1)) px) := hD
  exact B10 _ _ _  (sF σ 0 10 ((σ.1 0 10) + 1)) hv hk (lv_sub hl [0] rfl) hP hD hS

-- ClauseLedger.throwWrong()I
abbrev b_CL_throwWrong : ByteArray := prog_1_method_40_code
def y_CL_throwWrong : MethodName := ⟨"ClauseLedger", "throwWrong", "()I"⟩
theorem hd_CL_throwWrong : y_CL_throwWrong.cls ≠ "java/lang/invoke/MethodHandle" ∧ y_CL_throwWrong.cls ≠ "java/lang/invoke/VarHandle" ∧ (parseMethodDescriptor y_CL_throwWrong.desc).map (fun d => d.parameters.length) = some 0 := by decide +kernel
theorem d_CL_throwWrong_0 : decode b_CL_throwWrong 0 = .ok (.aload_n 0, 1) := by decide +kernel
theorem d_CL_throwWrong_1 : decode b_CL_throwWrong 1 = .ok (.invokevirtual 302, 3) := by decide +kernel
theorem d_CL_throwWrong_4 : decode b_CL_throwWrong 4 = .ok (.new 312, 3) := by decide +kernel
theorem d_CL_throwWrong_7 : decode b_CL_throwWrong 7 = .ok (.dup, 1) := by decide +kernel
theorem d_CL_throwWrong_8 : decode b_CL_throwWrong 8 = .ok (.ldc_w 314, 3) := by decide +kernel
theorem d_CL_throwWrong_11 : decode b_CL_throwWrong 11 = .ok (.invokespecial 316, 3) := by decide +kernel
theorem d_CL_throwWrong_14 : decode b_CL_throwWrong 14 = .ok (.athrow, 1) := by decide +kernel
def f_CL_throwWrong_4 (σ : St) : XR := (.inr 2, σ)
def k_CL_throwWrong_4 (σ : St) : Prop := True
def f_CL_throwWrong (σ : St) : XR := f_CL_throwWrong_4 (f_CL_undo σ)
def k_CL_throwWrong (σ : St) : Prop := (k_CL_undo σ) ∧ (k_CL_throwWrong_4 (f_CL_undo σ))
abbrev w_CL_throwWrong : List Cond := Cond.code y_CL_throwWrong b_CL_throwWrong 1 (some .int) :: gw
abbrev rm_CL_throwWrong : Room := { frames := 6, cells := 1, slots := 6, locals := 100 }
set_option maxHeartbeats 4000000 in
set_option maxRecDepth 100000 in
theorem c_CL_throwWrong (l : Launch) (hlt : l.stackTraces = false) (D : va_G) (ty : Nat → ClassId) (h : Nat → Nat) (px : va_W) (sa : Nat → Nat) (σ : St) (sz : Nat) (hk : k_CL_throwWrong σ) : xMet l y_CL_throwWrong w_CL_throwWrong rm_CL_throwWrong (va_Pc [.ref (h 0)] (fun U => U.heap.size = sz ∧ va_P D classes (Wc ty h σ px) U.heap ∧ va_K D classes (Ta ty) U ∧ NW U ∧ XK sa (va_A (Wc ty h σ px) sz) U U.heap ∧ MK sa (va_A (Wc ty h σ px) sz) U U.heap ∧ va_D (fun _ => True) (Wc ty h σ px))) (Rx D classes (fun u => Wc ty h u px) (va_A (Wc ty h σ px) sz) (f_CL_throwWrong σ)) 1 6 (va_A (Wc ty h σ px) sz) := by
  refine xMet.ofW (cc := b_CL_throwWrong) (maxL := 1) (ret := (some .int)) (by decide) rfl ?_
  intro p e s m args below meth c s₁ B hml htab hv
  obtain ⟨ha, hsz, hP, hK, hN, hX, hM, hD0⟩ := hv
  have hx := B.exec
  have hb := B.bytes
  have hr := B.returns
  have hg : ∀ w ∈ gw, w.before args s = true := fun w h9 => atoms_spec (ws := w_CL_throwWrong) B.pre w (List.mem_cons_of_mem _ h9)
  have hown : s.vm.findClass "ClauseLedger" = some m.cls := findClass_of_methodNamed B.named
  have hlocks := B.notSynchronized
  subst hsz
  have hD := hD0.self (sz := s.heap.size)
  generalize hAe : va_A (Wc ty h σ px) s.heap.size = A at hD hM hX ⊢
  have hA : ∀ q : Nat, s.heap.size ≤ q → A q := fun q h9 => by rw [← hAe]; exact Or.inr h9
  have hS : va_S A s.heap s.heap [] := va_S.rf
  have he : entryFrame m args 1 = entryFrame m ([.ref (h 0)] : List Value).toArray 1 := by rw [ha]
  rw [he, lg_entry_eq]
  have hl := lv_entry ([.ref (h 0)]) (n := 1) (Nat.le_of_ble_eq_true rfl)
  generalize (lg_sl ([.ref (h 0)]) ++ List.replicate (1 - (lg_sl ([.ref (h 0)])).length) Slot.unset).toArray = ls at hl ⊢
  have hl : lv_has ls 1 [(0, .ref (h 0))] := hl
  generalize hv : f_CL_throwWrong σ = v
  replace hv := hv.symm
  have B4 : ∀ (H : Heap) (locs : List Loc) (ls : Array Slot) (σ : St), v = f_CL_throwWrong_4 σ → k_CL_throwWrong_4 σ → lv_has ls 1 [] → va_P D classes (Wc ty h σ px) H → va_D A (Wc ty h σ px) → va_S A s.heap H locs → W p l e (headSpec w_CL_throwWrong rm_CL_throwWrong).room s m args below meth c H locs 0 0 (xMQ below (Rx D classes (fun u => Wc ty h u px) A v) args s 1 6 A) (F0 m 4 ls []) := by
    intro H locs ls σ hv hk hl hP hD hS
    unfold f_CL_throwWrong_4 at hv
    unfold k_CL_throwWrong_4 at hk
    exact x_throw hx hb hlt (hml.trans hl.1.symm) hown hX.1.2.1 (by decide +kernel) (by decide +kernel) (hg _ m_783) (hg _ m_784) (hg _ m_23) (x_hat own_2 hg hN hX.2 hS) htab hlocks hS.2.2 (Nat.le_of_ble_eq_true rfl) (Nat.le_of_ble_eq_true rfl) (Nat.le_of_ble_eq_true rfl) (Nat.le_of_ble_eq_true rfl) (Nat.le_of_ble_eq_true rfl) (Nat.le_of_ble_eq_true rfl) d_CL_throwWrong_4 d_CL_throwWrong_7 d_CL_throwWrong_8 d_CL_throwWrong_11 d_CL_throwWrong_14 (fun t ce hce hvm hcls hz hk9 hal => ⟨zz_xF hS hz hk9, by rw [hv]; exact zz_push hP hk9, 2, ce, by rw [hv], hce, hvm, hcls⟩)
  unfold f_CL_throwWrong at hv
  unfold k_CL_throwWrong at hk
  refine lv_aload_n hx hb d_CL_throwWrong_0 rfl (lv_at hl 0 rfl) ?_
  obtain ⟨hk0, hk⟩ := hk
  refine va_callv (va_runV (As := []) (rest := []) ⟨hx, hb, hml, hown, hg⟩ (c_CL_undo l D ty h px sa σ s.heap.size  hk0) ⟨callB_of 0 hg (gw_C m_778) rfl rfl rfl (hg _ m_1) (hg _ m_775) hd_CL_undo ⟨Nat.le_of_ble_eq_true rfl, Nat.le_of_ble_eq_true rfl⟩, hg _ m_777, hg _ ms_25⟩ (zz_preVW hM hS hA hN hK hP hD 0 rfl rfl) rfl rfl hl.1 rfl (lv_room (Nat.le_of_ble_eq_true rfl)) d_CL_throwWrong_1 ⟨Nat.le_of_ble_eq_true rfl, Nat.le_of_ble_eq_true rfl⟩) hS (fun q _ h => zz_free hD hS hA q h) (zz_free hD hS hA) (fun u1 t H locs ht hvm hp hP1 hz hk1 hS => ?_)
  rw [ht] at hP1
  rw [← hp] at hv hk
  have hD : va_D A (Wc ty h u1 px) := zz_D hD rfl
  have hP := hP1
  exact B4 _ _ _  u1 hv hk (lv_sub hl [] rfl) hP hD hS

-- ClauseLedger$Terms.tooDeep()Z
abbrev b_Te_tooDeep : ByteArray := prog_11_method_15_code
def y_Te_tooDeep : MethodName := ⟨"ClauseLedger$Terms", "tooDeep", "()Z"⟩
theorem hd_Te_tooDeep : y_Te_tooDeep.cls ≠ "java/lang/invoke/MethodHandle" ∧ y_Te_tooDeep.cls ≠ "java/lang/invoke/VarHandle" ∧ (parseMethodDescriptor y_Te_tooDeep.desc).map (fun d => d.parameters.length) = some 0 := by decide +kernel
theorem d_Te_tooDeep_0 : decode b_Te_tooDeep 0 = .ok (.aload_n 0, 1) := by decide +kernel
theorem d_Te_tooDeep_1 : decode b_Te_tooDeep 1 = .ok (.getfield 53, 3) := by decide +kernel
theorem d_Te_tooDeep_4 : decode b_Te_tooDeep 4 = .ok (.ireturn, 1) := by decide +kernel
def f_Te_tooDeep (σ : St) : Int32 := σ.1 6 13
def k_Te_tooDeep (σ : St) : Prop := (narrow .boolean (.int (σ.1 6 13)) = .int (σ.1 6 13)) ∧ True
abbrev w_Te_tooDeep : List Cond := Cond.code y_Te_tooDeep b_Te_tooDeep 1 (some .boolean) :: gw
abbrev rm_Te_tooDeep : Room := { frames := 0, cells := 0, slots := 0, locals := 0 }
set_option maxHeartbeats 4000000 in
set_option maxRecDepth 100000 in
theorem c_Te_tooDeep (l : Launch) (D : va_G) (ty : Nat → ClassId) (h : Nat → Nat) (px : va_W) (sa : Nat → Nat) (σ : St) (hk : k_Te_tooDeep σ) : Met l y_Te_tooDeep w_Te_tooDeep rm_Te_tooDeep (va_Pc [.ref (h 6)] (fun U => va_P D classes (Wc ty h σ px) U.heap ∧ va_K D classes (Ta ty) U ∧ NW U ∧ MK sa (fun _ => False) U U.heap)) (k2_QcV (.int (f_Te_tooDeep σ))) 0 0 (fun _ => False) := by
  refine Met.ofW (cc := b_Te_tooDeep) (maxL := 1) (ret := (some .boolean)) (by decide) rfl ?_
  intro p e s m args below meth c s₁ B hml hv
  obtain ⟨ha, hP, hK, hN, hM⟩ := hv
  have hx := B.exec
  have hb := B.bytes
  have hr := B.returns
  have hg : ∀ w ∈ gw, w.before args s = true := fun w h9 => atoms_spec (ws := w_Te_tooDeep) B.pre w (List.mem_cons_of_mem _ h9)
  have hown : s.vm.findClass "ClauseLedger$Terms" = some m.cls := findClass_of_methodNamed B.named
  have hlocks := B.notSynchronized
  have he : entryFrame m args 1 = entryFrame m ([.ref (h 6)] : List Value).toArray 1 := by rw [ha]
  rw [he, lg_entry_eq]
  have hl := lv_entry ([.ref (h 6)]) (n := 1) (Nat.le_of_ble_eq_true rfl)
  generalize (lg_sl ([.ref (h 6)]) ++ List.replicate (1 - (lg_sl ([.ref (h 6)])).length) Slot.unset).toArray = ls at hl ⊢
  have hl : lv_has ls 1 [(0, .ref (h 6))] := hl
  generalize hv : f_Te_tooDeep σ = v
  replace hv := hv.symm
  unfold f_Te_tooDeep at hv
  unfold k_Te_tooDeep at hk
  refine lv_aload_n hx hb d_Te_tooDeep_0 rfl (lv_at hl 0 rfl) ?_
  refine va_get (v := .int (σ.1 6 13)) (C := R_Te) (T := T_Te) (N := 14) hx hb hg in_Te hown hK hP 6 rfl rfl 13 (by decide) (hg _ m_82) (fun _ h9 => h9) rfl d_Te_tooDeep_1 ?_
  obtain ⟨hk0, hk⟩ := hk
  exact W.zret hx hb hr hk0 (fun t ht hW => ⟨by rw [hv], ht⟩) (fun q h => nomatch h) d_Te_tooDeep_4

-- ClauseLedger.throwTooGreat()I
abbrev b_CL_throwTooGreat : ByteArray := prog_1_method_41_code
def y_CL_throwTooGreat : MethodName := ⟨"ClauseLedger", "throwTooGreat", "()I"⟩
theorem hd_CL_throwTooGreat : y_CL_throwTooGreat.cls ≠ "java/lang/invoke/MethodHandle" ∧ y_CL_throwTooGreat.cls ≠ "java/lang/invoke/VarHandle" ∧ (parseMethodDescriptor y_CL_throwTooGreat.desc).map (fun d => d.parameters.length) = some 0 := by decide +kernel
theorem d_CL_throwTooGreat_0 : decode b_CL_throwTooGreat 0 = .ok (.aload_n 0, 1) := by decide +kernel
theorem d_CL_throwTooGreat_1 : decode b_CL_throwTooGreat 1 = .ok (.invokevirtual 302, 3) := by decide +kernel
theorem d_CL_throwTooGreat_4 : decode b_CL_throwTooGreat 4 = .ok (.new 317, 3) := by decide +kernel
theorem d_CL_throwTooGreat_7 : decode b_CL_throwTooGreat 7 = .ok (.dup, 1) := by decide +kernel
theorem d_CL_throwTooGreat_8 : decode b_CL_throwTooGreat 8 = .ok (.ldc_w 319, 3) := by decide +kernel
theorem d_CL_throwTooGreat_11 : decode b_CL_throwTooGreat 11 = .ok (.invokespecial 321, 3) := by decide +kernel
theorem d_CL_throwTooGreat_14 : decode b_CL_throwTooGreat 14 = .ok (.athrow, 1) := by decide +kernel
def f_CL_throwTooGreat_4 (σ : St) : XR := (.inr 3, σ)
def k_CL_throwTooGreat_4 (σ : St) : Prop := True
def f_CL_throwTooGreat (σ : St) : XR := f_CL_throwTooGreat_4 (f_CL_undo σ)
def k_CL_throwTooGreat (σ : St) : Prop := (k_CL_undo σ) ∧ (k_CL_throwTooGreat_4 (f_CL_undo σ))
abbrev w_CL_throwTooGreat : List Cond := Cond.code y_CL_throwTooGreat b_CL_throwTooGreat 1 (some .int) :: gw
abbrev rm_CL_throwTooGreat : Room := { frames := 6, cells := 1, slots := 6, locals := 100 }
set_option maxHeartbeats 4000000 in
set_option maxRecDepth 100000 in
theorem c_CL_throwTooGreat (l : Launch) (hlt : l.stackTraces = false) (D : va_G) (ty : Nat → ClassId) (h : Nat → Nat) (px : va_W) (sa : Nat → Nat) (σ : St) (sz : Nat) (hk : k_CL_throwTooGreat σ) : xMet l y_CL_throwTooGreat w_CL_throwTooGreat rm_CL_throwTooGreat (va_Pc [.ref (h 0)] (fun U => U.heap.size = sz ∧ va_P D classes (Wc ty h σ px) U.heap ∧ va_K D classes (Ta ty) U ∧ NW U ∧ XK sa (va_A (Wc ty h σ px) sz) U U.heap ∧ MK sa (va_A (Wc ty h σ px) sz) U U.heap ∧ va_D (fun _ => True) (Wc ty h σ px))) (Rx D classes (fun u => Wc ty h u px) (va_A (Wc ty h σ px) sz) (f_CL_throwTooGreat σ)) 1 6 (va_A (Wc ty h σ px) sz) := by
  refine xMet.ofW (cc := b_CL_throwTooGreat) (maxL := 1) (ret := (some .int)) (by decide) rfl ?_
  intro p e s m args below meth c s₁ B hml htab hv
  obtain ⟨ha, hsz, hP, hK, hN, hX, hM, hD0⟩ := hv
  have hx := B.exec
  have hb := B.bytes
  have hr := B.returns
  have hg : ∀ w ∈ gw, w.before args s = true := fun w h9 => atoms_spec (ws := w_CL_throwTooGreat) B.pre w (List.mem_cons_of_mem _ h9)
  have hown : s.vm.findClass "ClauseLedger" = some m.cls := findClass_of_methodNamed B.named
  have hlocks := B.notSynchronized
  subst hsz
  have hD := hD0.self (sz := s.heap.size)
  generalize hAe : va_A (Wc ty h σ px) s.heap.size = A at hD hM hX ⊢
  have hA : ∀ q : Nat, s.heap.size ≤ q → A q := fun q h9 => by rw [← hAe]; exact Or.inr h9
  have hS : va_S A s.heap s.heap [] := va_S.rf
  have he : entryFrame m args 1 = entryFrame m ([.ref (h 0)] : List Value).toArray 1 := by rw [ha]
  rw [he, lg_entry_eq]
  have hl := lv_entry ([.ref (h 0)]) (n := 1) (Nat.le_of_ble_eq_true rfl)
  generalize (lg_sl ([.ref (h 0)]) ++ List.replicate (1 - (lg_sl ([.ref (h 0)])).length) Slot.unset).toArray = ls at hl ⊢
  have hl : lv_has ls 1 [(0, .ref (h 0))] := hl
  generalize hv : f_CL_throwTooGreat σ = v
  replace hv := hv.symm
  have B4 : ∀ (H : Heap) (locs : List Loc) (ls : Array Slot) (σ : St), v = f_CL_throwTooGreat_4 σ → k_CL_throwTooGreat_4 σ → lv_has ls 1 [] → va_P D classes (Wc ty h σ px) H → va_D A (Wc ty h σ px) → va_S A s.heap H locs → W p l e (headSpec w_CL_throwTooGreat rm_CL_throwTooGreat).room s m args below meth c H locs 0 0 (xMQ below (Rx D classes (fun u => Wc ty h u px) A v) args s 1 6 A) (F0 m 4 ls []) := by
    intro H locs ls σ hv hk hl hP hD hS
    unfold f_CL_throwTooGreat_4 at hv
    unfold k_CL_throwTooGreat_4 at hk
    exact x_throw hx hb hlt (hml.trans hl.1.symm) hown hX.1.2.2.1 (by decide +kernel) (by decide +kernel) (hg _ m_859) (hg _ m_860) (hg _ m_24) (x_hat own_3 hg hN hX.2 hS) htab hlocks hS.2.2 (Nat.le_of_ble_eq_true rfl) (Nat.le_of_ble_eq_true rfl) (Nat.le_of_ble_eq_true rfl) (Nat.le_of_ble_eq_true rfl) (Nat.le_of_ble_eq_true rfl) (Nat.le_of_ble_eq_true rfl) d_CL_throwTooGreat_4 d_CL_throwTooGreat_7 d_CL_throwTooGreat_8 d_CL_throwTooGreat_11 d_CL_throwTooGreat_14 (fun t ce hce hvm hcls hz hk9 hal => ⟨zz_xF hS hz hk9, by rw [hv]; exact zz_push hP hk9, 3, ce, by rw [hv], hce, hvm, hcls⟩)
  unfold f_CL_throwTooGreat at hv
  unfold k_CL_throwTooGreat at hk
  refine lv_aload_n hx hb d_CL_throwTooGreat_0 rfl (lv_at hl 0 rfl) ?_
  obtain ⟨hk0, hk⟩ := hk
  refine va_callv (va_runV (As := []) (rest := []) ⟨hx, hb, hml, hown, hg⟩ (c_CL_undo l D ty h px sa σ s.heap.size  hk0) ⟨callB_of 0 hg (gw_C m_778) rfl rfl rfl (hg _ m_1) (hg _ m_775) hd_CL_undo ⟨Nat.le_of_ble_eq_true rfl, Nat.le_of_ble_eq_true rfl⟩, hg _ m_777, hg _ ms_25⟩ (zz_preVW hM hS hA hN hK hP hD 0 rfl rfl) rfl rfl hl.1 rfl (lv_room (Nat.le_of_ble_eq_true rfl)) d_CL_throwTooGreat_1 ⟨Nat.le_of_ble_eq_true rfl, Nat.le_of_ble_eq_true rfl⟩) hS (fun q _ h => zz_free hD hS hA q h) (zz_free hD hS hA) (fun u1 t H locs ht hvm hp hP1 hz hk1 hS => ?_)
  rw [ht] at hP1
  rw [← hp] at hv hk
  have hD : va_D A (Wc ty h u1 px) := zz_D hD rfl
  have hP := hP1
  exact B4 _ _ _  u1 hv hk (lv_sub hl [] rfl) hP hD hS

-- ClauseLedger$Terms.tooMany()Z
abbrev b_Te_tooMany : ByteArray := prog_11_method_16_code
def y_Te_tooMany : MethodName := ⟨"ClauseLedger$Terms", "tooMany", "()Z"⟩
theorem hd_Te_tooMany : y_Te_tooMany.cls ≠ "java/lang/invoke/MethodHandle" ∧ y_Te_tooMany.cls ≠ "java/lang/invoke/VarHandle" ∧ (parseMethodDescriptor y_Te_tooMany.desc).map (fun d => d.parameters.length) = some 0 := by decide +kernel
theorem d_Te_tooMany_0 : decode b_Te_tooMany 0 = .ok (.aload_n 0, 1) := by decide +kernel
theorem d_Te_tooMany_1 : decode b_Te_tooMany 1 = .ok (.getfield 46, 3) := by decide +kernel
theorem d_Te_tooMany_4 : decode b_Te_tooMany 4 = .ok (.bipush 100, 2) := by decide +kernel
theorem d_Te_tooMany_6 : decode b_Te_tooMany 6 = .ok (.if_icmp .le 7, 3) := by decide +kernel
theorem d_Te_tooMany_9 : decode b_Te_tooMany 9 = .ok (.iconst 1, 1) := by decide +kernel
theorem d_Te_tooMany_10 : decode b_Te_tooMany 10 = .ok (.goto 4, 3) := by decide +kernel
theorem d_Te_tooMany_13 : decode b_Te_tooMany 13 = .ok (.iconst 0, 1) := by decide +kernel
theorem d_Te_tooMany_14 : decode b_Te_tooMany 14 = .ok (.ireturn, 1) := by decide +kernel
def f_Te_tooMany_14 (s0 : Int32) (σ : St) : Int32 := s0
def k_Te_tooMany_14 (s0 : Int32) (σ : St) : Prop := (narrow .boolean (.int s0) = .int s0) ∧ True
def f_Te_tooMany (σ : St) : Int32 := if (σ.1 6 11) ≤ 100 then (f_Te_tooMany_14 0 σ) else (f_Te_tooMany_14 1 σ)
def k_Te_tooMany (σ : St) : Prop := ((σ.1 6 11) ≤ 100 → (k_Te_tooMany_14 0 σ)) ∧ (¬ (σ.1 6 11) ≤ 100 → (k_Te_tooMany_14 1 σ))
abbrev w_Te_tooMany : List Cond := Cond.code y_Te_tooMany b_Te_tooMany 1 (some .boolean) :: gw
abbrev rm_Te_tooMany : Room := { frames := 0, cells := 0, slots := 0, locals := 0 }
set_option maxHeartbeats 4000000 in
set_option maxRecDepth 100000 in
theorem c_Te_tooMany (l : Launch) (D : va_G) (ty : Nat → ClassId) (h : Nat → Nat) (px : va_W) (sa : Nat → Nat) (σ : St) (hk : k_Te_tooMany σ) : Met l y_Te_tooMany w_Te_tooMany rm_Te_tooMany (va_Pc [.ref (h 6)] (fun U => va_P D classes (Wc ty h σ px) U.heap ∧ va_K D classes (Ta ty) U ∧ NW U ∧ MK sa (fun _ => False) U U.heap)) (k2_QcV (.int (f_Te_tooMany σ))) 0 0 (fun _ => False) := by
  refine Met.ofW (cc := b_Te_tooMany) (maxL := 1) (ret := (some .boolean)) (by decide) rfl ?_
  intro p e s m args below meth c s₁ B hml hv
  obtain ⟨ha, hP, hK, hN, hM⟩ := hv
  have hx := B.exec
  have hb := B.bytes
  have hr := B.returns
  have hg : ∀ w ∈ gw, w.before args s = true := fun w h9 => atoms_spec (ws := w_Te_tooMany) B.pre w (List.mem_cons_of_mem _ h9)
  have hown : s.vm.findClass "ClauseLedger$Terms" = some m.cls := findClass_of_methodNamed B.named
  have hlocks := B.notSynchronized
  have he : entryFrame m args 1 = entryFrame m ([.ref (h 6)] : List Value).toArray 1 := by rw [ha]
  rw [he, lg_entry_eq]
  have hl := lv_entry ([.ref (h 6)]) (n := 1) (Nat.le_of_ble_eq_true rfl)
  generalize (lg_sl ([.ref (h 6)]) ++ List.replicate (1 - (lg_sl ([.ref (h 6)])).length) Slot.unset).toArray = ls at hl ⊢
  have hl : lv_has ls 1 [(0, .ref (h 6))] := hl
  generalize hv : f_Te_tooMany σ = v
  replace hv := hv.symm
  have B14 : ∀ (ls : Array Slot) (s0 : Int32), v = f_Te_tooMany_14 s0 σ → k_Te_tooMany_14 s0 σ → lv_has ls 1 [] → W p l e (headSpec w_Te_tooMany rm_Te_tooMany).room s m args below meth c s.heap [] 0 0 (MQ below (k2_QcV (.int v)) args s 0 0 (fun _ => False)) (F0 m 14 ls [.int s0]) := by
    intro ls s0 hv hk hl
    unfold f_Te_tooMany_14 at hv
    unfold k_Te_tooMany_14 at hk
    obtain ⟨hk0, hk⟩ := hk
    exact W.zret hx hb hr hk0 (fun t ht hW => ⟨by rw [hv], ht⟩) (fun q h => nomatch h) d_Te_tooMany_14
  unfold f_Te_tooMany at hv
  unfold k_Te_tooMany at hk
  refine lv_aload_n hx hb d_Te_tooMany_0 rfl (lv_at hl 0 rfl) ?_
  refine va_get (v := .int (σ.1 6 11)) (C := R_Te) (T := T_Te) (N := 14) hx hb hg in_Te hown hK hP 6 rfl rfl 11 (by decide) (hg _ m_80) (fun _ h9 => h9) rfl d_Te_tooMany_1 ?_
  refine lv_bipush (v := 100) hx hb d_Te_tooMany_4 (by decide) ?_
  refine lv_icmp_le (tgt := 13) hx hb d_Te_tooMany_6 (by decide) (fun hc => ?_) (fun hc => ?_)
  · have hv := hv.trans (if_pos hc)
    have hk := hk.1 hc
    refine lv_iconst (v := 0) hx hb d_Te_tooMany_13 (by decide) ?_
    exact B14 _ 0 hv hk (lv_sub hl [] rfl)
  · have hv := hv.trans (if_neg hc)
    have hk := hk.2 hc
    refine lv_iconst (v := 1) hx hb d_Te_tooMany_9 (by decide) ?_
    refine lv_goto (tgt := 14) hx hb d_Te_tooMany_10 (by decide) ?_
    exact B14 _ 1 hv hk (lv_sub hl [] rfl)

-- ClauseLedger.throwNoRoom()I
abbrev b_CL_throwNoRoom : ByteArray := prog_1_method_42_code
def y_CL_throwNoRoom : MethodName := ⟨"ClauseLedger", "throwNoRoom", "()I"⟩
theorem hd_CL_throwNoRoom : y_CL_throwNoRoom.cls ≠ "java/lang/invoke/MethodHandle" ∧ y_CL_throwNoRoom.cls ≠ "java/lang/invoke/VarHandle" ∧ (parseMethodDescriptor y_CL_throwNoRoom.desc).map (fun d => d.parameters.length) = some 0 := by decide +kernel
theorem d_CL_throwNoRoom_0 : decode b_CL_throwNoRoom 0 = .ok (.aload_n 0, 1) := by decide +kernel
theorem d_CL_throwNoRoom_1 : decode b_CL_throwNoRoom 1 = .ok (.invokevirtual 302, 3) := by decide +kernel
theorem d_CL_throwNoRoom_4 : decode b_CL_throwNoRoom 4 = .ok (.new 322, 3) := by decide +kernel
theorem d_CL_throwNoRoom_7 : decode b_CL_throwNoRoom 7 = .ok (.dup, 1) := by decide +kernel
theorem d_CL_throwNoRoom_8 : decode b_CL_throwNoRoom 8 = .ok (.ldc_w 324, 3) := by decide +kernel
theorem d_CL_throwNoRoom_11 : decode b_CL_throwNoRoom 11 = .ok (.invokespecial 326, 3) := by decide +kernel
theorem d_CL_throwNoRoom_14 : decode b_CL_throwNoRoom 14 = .ok (.athrow, 1) := by decide +kernel
def f_CL_throwNoRoom_4 (σ : St) : XR := (.inr 4, σ)
def k_CL_throwNoRoom_4 (σ : St) : Prop := True
def f_CL_throwNoRoom (σ : St) : XR := f_CL_throwNoRoom_4 (f_CL_undo σ)
def k_CL_throwNoRoom (σ : St) : Prop := (k_CL_undo σ) ∧ (k_CL_throwNoRoom_4 (f_CL_undo σ))
abbrev w_CL_throwNoRoom : List Cond := Cond.code y_CL_throwNoRoom b_CL_throwNoRoom 1 (some .int) :: gw
abbrev rm_CL_throwNoRoom : Room := { frames := 6, cells := 1, slots := 6, locals := 100 }
set_option maxHeartbeats 4000000 in
set_option maxRecDepth 100000 in
theorem c_CL_throwNoRoom (l : Launch) (hlt : l.stackTraces = false) (D : va_G) (ty : Nat → ClassId) (h : Nat → Nat) (px : va_W) (sa : Nat → Nat) (σ : St) (sz : Nat) (hk : k_CL_throwNoRoom σ) : xMet l y_CL_throwNoRoom w_CL_throwNoRoom rm_CL_throwNoRoom (va_Pc [.ref (h 0)] (fun U => U.heap.size = sz ∧ va_P D classes (Wc ty h σ px) U.heap ∧ va_K D classes (Ta ty) U ∧ NW U ∧ XK sa (va_A (Wc ty h σ px) sz) U U.heap ∧ MK sa (va_A (Wc ty h σ px) sz) U U.heap ∧ va_D (fun _ => True) (Wc ty h σ px))) (Rx D classes (fun u => Wc ty h u px) (va_A (Wc ty h σ px) sz) (f_CL_throwNoRoom σ)) 1 6 (va_A (Wc ty h σ px) sz) := by
  refine xMet.ofW (cc := b_CL_throwNoRoom) (maxL := 1) (ret := (some .int)) (by decide) rfl ?_
  intro p e s m args below meth c s₁ B hml htab hv
  obtain ⟨ha, hsz, hP, hK, hN, hX, hM, hD0⟩ := hv
  have hx := B.exec
  have hb := B.bytes
  have hr := B.returns
  have hg : ∀ w ∈ gw, w.before args s = true := fun w h9 => atoms_spec (ws := w_CL_throwNoRoom) B.pre w (List.mem_cons_of_mem _ h9)
  have hown : s.vm.findClass "ClauseLedger" = some m.cls := findClass_of_methodNamed B.named
  have hlocks := B.notSynchronized
  subst hsz
  have hD := hD0.self (sz := s.heap.size)
  generalize hAe : va_A (Wc ty h σ px) s.heap.size = A at hD hM hX ⊢
  have hA : ∀ q : Nat, s.heap.size ≤ q → A q := fun q h9 => by rw [← hAe]; exact Or.inr h9
  have hS : va_S A s.heap s.heap [] := va_S.rf
  have he : entryFrame m args 1 = entryFrame m ([.ref (h 0)] : List Value).toArray 1 := by rw [ha]
  rw [he, lg_entry_eq]
  have hl := lv_entry ([.ref (h 0)]) (n := 1) (Nat.le_of_ble_eq_true rfl)
  generalize (lg_sl ([.ref (h 0)]) ++ List.replicate (1 - (lg_sl ([.ref (h 0)])).length) Slot.unset).toArray = ls at hl ⊢
  have hl : lv_has ls 1 [(0, .ref (h 0))] := hl
  generalize hv : f_CL_throwNoRoom σ = v
  replace hv := hv.symm
  have B4 : ∀ (H : Heap) (locs : List Loc) (ls : Array Slot) (σ : St), v = f_CL_throwNoRoom_4 σ → k_CL_throwNoRoom_4 σ → lv_has ls 1 [] → va_P D classes (Wc ty h σ px) H → va_D A (Wc ty h σ px) → va_S A s.heap H locs → W p l e (headSpec w_CL_throwNoRoom rm_CL_throwNoRoom).room s m args below meth c H locs 0 0 (xMQ below (Rx D classes (fun u => Wc ty h u px) A v) args s 1 6 A) (F0 m 4 ls []) := by
    intro H locs ls σ hv hk hl hP hD hS
    unfold f_CL_throwNoRoom_4 at hv
    unfold k_CL_throwNoRoom_4 at hk
    exact x_throw hx hb hlt (hml.trans hl.1.symm) hown hX.1.2.2.2 (by decide +kernel) (by decide +kernel) (hg _ m_883) (hg _ m_884) (hg _ m_25) (x_hat own_4 hg hN hX.2 hS) htab hlocks hS.2.2 (Nat.le_of_ble_eq_true rfl) (Nat.le_of_ble_eq_true rfl) (Nat.le_of_ble_eq_true rfl) (Nat.le_of_ble_eq_true rfl) (Nat.le_of_ble_eq_true rfl) (Nat.le_of_ble_eq_true rfl) d_CL_throwNoRoom_4 d_CL_throwNoRoom_7 d_CL_throwNoRoom_8 d_CL_throwNoRoom_11 d_CL_throwNoRoom_14 (fun t ce hce hvm hcls hz hk9 hal => ⟨zz_xF hS hz hk9, by rw [hv]; exact zz_push hP hk9, 4, ce, by rw [hv], hce, hvm, hcls⟩)
  unfold f_CL_throwNoRoom at hv
  unfold k_CL_throwNoRoom at hk
  refine lv_aload_n hx hb d_CL_throwNoRoom_0 rfl (lv_at hl 0 rfl) ?_
  obtain ⟨hk0, hk⟩ := hk
  refine va_callv (va_runV (As := []) (rest := []) ⟨hx, hb, hml, hown, hg⟩ (c_CL_undo l D ty h px sa σ s.heap.size  hk0) ⟨callB_of 0 hg (gw_C m_778) rfl rfl rfl (hg _ m_1) (hg _ m_775) hd_CL_undo ⟨Nat.le_of_ble_eq_true rfl, Nat.le_of_ble_eq_true rfl⟩, hg _ m_777, hg _ ms_25⟩ (zz_preVW hM hS hA hN hK hP hD 0 rfl rfl) rfl rfl hl.1 rfl (lv_room (Nat.le_of_ble_eq_true rfl)) d_CL_throwNoRoom_1 ⟨Nat.le_of_ble_eq_true rfl, Nat.le_of_ble_eq_true rfl⟩) hS (fun q _ h => zz_free hD hS hA q h) (zz_free hD hS hA) (fun u1 t H locs ht hvm hp hP1 hz hk1 hS => ?_)
  rw [ht] at hP1
  rw [← hp] at hv hk
  have hD : va_D A (Wc ty h u1 px) := zz_D hD rfl
  have hP := hP1
  exact B4 _ _ _  u1 hv hk (lv_sub hl [] rfl) hP hD hS

-- ClauseLedger$Terms.keep()V
abbrev b_Te_keep : ByteArray := prog_11_method_17_code
def y_Te_keep : MethodName := ⟨"ClauseLedger$Terms", "keep", "()V"⟩
theorem hd_Te_keep : y_Te_keep.cls ≠ "java/lang/invoke/MethodHandle" ∧ y_Te_keep.cls ≠ "java/lang/invoke/VarHandle" ∧ (parseMethodDescriptor y_Te_keep.desc).map (fun d => d.parameters.length) = some 0 := by decide +kernel
theorem d_Te_keep_0 : decode b_Te_keep 0 = .ok (.aload_n 0, 1) := by decide +kernel
theorem d_Te_keep_1 : decode b_Te_keep 1 = .ok (.aload_n 0, 1) := by decide +kernel
theorem d_Te_keep_2 : decode b_Te_keep 2 = .ok (.getfield 46, 3) := by decide +kernel
theorem d_Te_keep_5 : decode b_Te_keep 5 = .ok (.putfield 50, 3) := by decide +kernel
theorem d_Te_keep_8 : decode b_Te_keep 8 = .ok (.aload_n 0, 1) := by decide +kernel
theorem d_Te_keep_9 : decode b_Te_keep 9 = .ok (.iconst 0, 1) := by decide +kernel
theorem d_Te_keep_10 : decode b_Te_keep 10 = .ok (.putfield 53, 3) := by decide +kernel
theorem d_Te_keep_13 : decode b_Te_keep 13 = .ok (.return_, 1) := by decide +kernel
def f_Te_keep_13 (σ : St) : St := σ
def k_Te_keep_13 (σ : St) : Prop := True
def f_Te_keep_8 (σ : St) : St := f_Te_keep_13 (sF σ 6 13 0)
def k_Te_keep_8 (σ : St) : Prop := k_Te_keep_13 (sF σ 6 13 0)
def f_Te_keep (σ : St) : St := f_Te_keep_8 (sF σ 6 12 (σ.1 6 11))
def k_Te_keep (σ : St) : Prop := k_Te_keep_8 (sF σ 6 12 (σ.1 6 11))
abbrev w_Te_keep : List Cond := Cond.code y_Te_keep b_Te_keep 1 none :: gw
abbrev rm_Te_keep : Room := { frames := 0, cells := 0, slots := 0, locals := 0 }
set_option maxHeartbeats 4000000 in
set_option maxRecDepth 100000 in
theorem c_Te_keep (l : Launch) (D : va_G) (ty : Nat → ClassId) (h : Nat → Nat) (px : va_W) (sa : Nat → Nat) (σ : St) (sz : Nat) (hk : k_Te_keep σ) : Met l y_Te_keep w_Te_keep rm_Te_keep (va_Pc [.ref (h 6)] (fun U => U.heap.size = sz ∧ va_P D classes (Wc ty h σ px) U.heap ∧ va_K D classes (Ta ty) U ∧ NW U ∧ MK sa (va_A (Wc ty h σ px) sz) U U.heap ∧ va_D (fun _ => True) (Wc ty h σ px))) (va_Qv (fun u : St => u = f_Te_keep σ) (fun u t => va_P D classes (Wc ty h u px) t.heap) (va_A (Wc ty h σ px) sz)) 0 0 (va_A (Wc ty h σ px) sz) := by
  refine Met.ofW (cc := b_Te_keep) (maxL := 1) (ret := none) (by decide) rfl ?_
  intro p e s m args below meth c s₁ B hml hv
  obtain ⟨ha, hsz, hP, hK, hN, hM, hD0⟩ := hv
  have hx := B.exec
  have hb := B.bytes
  have hr := B.returns
  have hg : ∀ w ∈ gw, w.before args s = true := fun w h9 => atoms_spec (ws := w_Te_keep) B.pre w (List.mem_cons_of_mem _ h9)
  have hown : s.vm.findClass "ClauseLedger$Terms" = some m.cls := findClass_of_methodNamed B.named
  have hlocks := B.notSynchronized
  subst hsz
  have hD := hD0.self (sz := s.heap.size)
  generalize hAe : va_A (Wc ty h σ px) s.heap.size = A at hD hM ⊢
  have hA : ∀ q : Nat, s.heap.size ≤ q → A q := fun q h9 => by rw [← hAe]; exact Or.inr h9
  have hS : va_S A s.heap s.heap [] := va_S.rf
  have he : entryFrame m args 1 = entryFrame m ([.ref (h 6)] : List Value).toArray 1 := by rw [ha]
  rw [he, lg_entry_eq]
  have hl := lv_entry ([.ref (h 6)]) (n := 1) (Nat.le_of_ble_eq_true rfl)
  generalize (lg_sl ([.ref (h 6)]) ++ List.replicate (1 - (lg_sl ([.ref (h 6)])).length) Slot.unset).toArray = ls at hl ⊢
  have hl : lv_has ls 1 [(0, .ref (h 6))] := hl
  generalize hv : f_Te_keep σ = v
  replace hv := hv.symm
  have B13 : ∀ (H : Heap) (locs : List Loc) (ls : Array Slot) (σ : St), v = f_Te_keep_13 σ → k_Te_keep_13 σ → lv_has ls 1 [] → va_P D classes (Wc ty h σ px) H → va_D A (Wc ty h σ px) → va_S A s.heap H locs → W p l e (headSpec w_Te_keep rm_Te_keep).room s m args below meth c H locs 0 0 (MQ below (va_Qv (fun u : St => u = v) (fun u t => va_P D classes (Wc ty h u px) t.heap) A) args s 0 0 A) (F0 m 13 ls []) := by
    intro H locs ls σ hv hk hl hP hD hS
    unfold f_Te_keep_13 at hv
    unfold k_Te_keep_13 at hk
    exact W.vret hx hb hr (fun t ht hW => ⟨⟨_, rfl, hv.symm, by dsimp only; rw [ht]; exact hP⟩, hS.F ht⟩) hS.2.2 d_Te_keep_13
  have B8 : ∀ (H : Heap) (locs : List Loc) (ls : Array Slot) (σ : St), v = f_Te_keep_8 σ → k_Te_keep_8 σ → lv_has ls 1 [(0, .ref (h 6))] → va_P D classes (Wc ty h σ px) H → va_D A (Wc ty h σ px) → va_S A s.heap H locs → W p l e (headSpec w_Te_keep rm_Te_keep).room s m args below meth c H locs 0 0 (MQ below (va_Qv (fun u : St => u = v) (fun u t => va_P D classes (Wc ty h u px) t.heap) A) args s 0 0 A) (F0 m 8 ls []) := by
    intro H locs ls σ hv hk hl hP hD hS
    unfold f_Te_keep_8 at hv
    unfold k_Te_keep_8 at hk
    refine lv_aload_n hx hb d_Te_keep_8 rfl (lv_at hl 0 rfl) ?_
    refine lv_iconst (v := 0) hx hb d_Te_keep_9 (by decide) ?_
    refine va_put (v := .int 0) (ty := .boolean) (C := R_Te) (T := T_Te) (N := 14) hx hb hg in_Te ty_Te ok_Te nm_Te hown hK hP hD hS 6 rfl rfl 13 (by decide) (hg _ m_82) (fun _ h9 => h9) rfl (by decide +kernel) rfl rfl (Nat.le_of_ble_eq_true rfl) d_Te_keep_10 (fun H locs hP hD hS => ?_)
    have hP : va_P D classes (Wc ty h (sF σ 6 13 0) px) H := hP
    have hD : va_D A (Wc ty h (sF σ 6 13 0) px) := hD
    exact B13 _ _ _  (sF σ 6 13 0) hv hk (lv_sub hl [] rfl) hP hD hS
  unfold f_Te_keep at hv
  unfold k_Te_keep at hk
  refine lv_aload_n hx hb d_Te_keep_0 rfl (lv_at hl 0 rfl) ?_
  refine lv_aload_n hx hb d_Te_keep_1 rfl (lv_at hl 0 rfl) ?_
  refine va_get (v := .int (σ.1 6 11)) (C := R_Te) (T := T_Te) (N := 14) hx hb hg in_Te hown hK hP 6 rfl rfl 11 (by decide) (hg _ m_80) (fun _ h9 => h9) rfl d_Te_keep_2 ?_
  refine va_put (v := .int (σ.1 6 11)) (ty := .int) (C := R_Te) (T := T_Te) (N := 14) hx hb hg in_Te ty_Te ok_Te nm_Te hown hK hP hD hS 6 rfl rfl 12 (by decide) (hg _ m_81) (fun _ h9 => h9) rfl (by decide +kernel) rfl rfl (Nat.le_of_ble_eq_true rfl) d_Te_keep_5 (fun H locs hP hD hS => ?_)
  have hP : va_P D classes (Wc ty h (sF σ 6 12 (σ.1 6 11)) px) H := hP
  have hD : va_D A (Wc ty h (sF σ 6 12 (σ.1 6 11)) px) := hD
  exact B8 _ _ _  (sF σ 6 12 (σ.1 6 11)) hv hk (lv_sub hl [0] rfl) hP hD hS

-- ClauseLedger.term()I
abbrev b_CL_term : ByteArray := prog_1_method_6_code
def y_CL_term : MethodName := ⟨"ClauseLedger", "term", "()I"⟩
theorem hd_CL_term : y_CL_term.cls ≠ "java/lang/invoke/MethodHandle" ∧ y_CL_term.cls ≠ "java/lang/invoke/VarHandle" ∧ (parseMethodDescriptor y_CL_term.desc).map (fun d => d.parameters.length) = some 0 := by decide +kernel
theorem d_CL_term_0 : decode b_CL_term 0 = .ok (.aload_n 0, 1) := by decide +kernel
theorem d_CL_term_1 : decode b_CL_term 1 = .ok (.invokevirtual 102, 3) := by decide +kernel
theorem d_CL_term_4 : decode b_CL_term 4 = .ok (.ifCond .eq 5, 3) := by decide +kernel
theorem d_CL_term_7 : decode b_CL_term 7 = .ok (.iconst (-1), 1) := by decide +kernel
theorem d_CL_term_8 : decode b_CL_term 8 = .ok (.ireturn, 1) := by decide +kernel
theorem d_CL_term_9 : decode b_CL_term 9 = .ok (.aload_n 0, 1) := by decide +kernel
theorem d_CL_term_10 : decode b_CL_term 10 = .ok (.getfield 35, 3) := by decide +kernel
theorem d_CL_term_13 : decode b_CL_term 13 = .ok (.invokevirtual 106, 3) := by decide +kernel
theorem d_CL_term_16 : decode b_CL_term 16 = .ok (.istore_n 1, 1) := by decide +kernel
theorem d_CL_term_17 : decode b_CL_term 17 = .ok (.aload_n 0, 1) := by decide +kernel
theorem d_CL_term_18 : decode b_CL_term 18 = .ok (.getfield 26, 3) := by decide +kernel
theorem d_CL_term_21 : decode b_CL_term 21 = .ok (.invokevirtual 109, 3) := by decide +kernel
theorem d_CL_term_24 : decode b_CL_term 24 = .ok (.iload_n 1, 1) := by decide +kernel
theorem d_CL_term_25 : decode b_CL_term 25 = .ok (.iconst (-1), 1) := by decide +kernel
theorem d_CL_term_26 : decode b_CL_term 26 = .ok (.if_icmp .ne 8, 3) := by decide +kernel
theorem d_CL_term_29 : decode b_CL_term 29 = .ok (.aload_n 0, 1) := by decide +kernel
theorem d_CL_term_30 : decode b_CL_term 30 = .ok (.invokevirtual 112, 3) := by decide +kernel
theorem d_CL_term_33 : decode b_CL_term 33 = .ok (.ireturn, 1) := by decide +kernel
theorem d_CL_term_34 : decode b_CL_term 34 = .ok (.aload_n 0, 1) := by decide +kernel
theorem d_CL_term_35 : decode b_CL_term 35 = .ok (.getfield 19, 3) := by decide +kernel
theorem d_CL_term_38 : decode b_CL_term 38 = .ok (.invokevirtual 115, 3) := by decide +kernel
theorem d_CL_term_41 : decode b_CL_term 41 = .ok (.ifCond .eq 8, 3) := by decide +kernel
theorem d_CL_term_44 : decode b_CL_term 44 = .ok (.aload_n 0, 1) := by decide +kernel
theorem d_CL_term_45 : decode b_CL_term 45 = .ok (.invokevirtual 118, 3) := by decide +kernel
theorem d_CL_term_48 : decode b_CL_term 48 = .ok (.ireturn, 1) := by decide +kernel
theorem d_CL_term_49 : decode b_CL_term 49 = .ok (.aload_n 0, 1) := by decide +kernel
theorem d_CL_term_50 : decode b_CL_term 50 = .ok (.getfield 19, 3) := by decide +kernel
theorem d_CL_term_53 : decode b_CL_term 53 = .ok (.invokevirtual 121, 3) := by decide +kernel
theorem d_CL_term_56 : decode b_CL_term 56 = .ok (.ifCond .eq 8, 3) := by decide +kernel
theorem d_CL_term_59 : decode b_CL_term 59 = .ok (.aload_n 0, 1) := by decide +kernel
theorem d_CL_term_60 : decode b_CL_term 60 = .ok (.invokevirtual 124, 3) := by decide +kernel
theorem d_CL_term_63 : decode b_CL_term 63 = .ok (.ireturn, 1) := by decide +kernel
theorem d_CL_term_64 : decode b_CL_term 64 = .ok (.aload_n 0, 1) := by decide +kernel
theorem d_CL_term_65 : decode b_CL_term 65 = .ok (.getfield 19, 3) := by decide +kernel
theorem d_CL_term_68 : decode b_CL_term 68 = .ok (.invokevirtual 127, 3) := by decide +kernel
theorem d_CL_term_71 : decode b_CL_term 71 = .ok (.iload_n 1, 1) := by decide +kernel
theorem d_CL_term_72 : decode b_CL_term 72 = .ok (.ireturn, 1) := by decide +kernel
def f_CL_term_33 (s0 : Int32) (σ : St) : XR := (.inl s0, σ)
def k_CL_term_33 (s0 : Int32) (σ : St) : Prop := True
def f_CL_term_48 (s0 : Int32) (σ : St) : XR := (.inl s0, σ)
def k_CL_term_48 (s0 : Int32) (σ : St) : Prop := True
def f_CL_term_63 (s0 : Int32) (σ : St) : XR := (.inl s0, σ)
def k_CL_term_63 (s0 : Int32) (σ : St) : Prop := True
def f_CL_term_71 (x1 : Int32) (σ : St) : XR := (.inl x1, σ)
def k_CL_term_71 (x1 : Int32) (σ : St) : Prop := True
def f_CL_term_24 (x1 : Int32) (σ : St) : XR := if x1 = (-1) then (xb (f_CL_throwWrong σ) (fun x u => f_CL_term_33 x u)) else (if (f_Te_tooDeep σ) = 0 then (if (f_Te_tooMany σ) = 0 then (f_CL_term_71 x1 (f_Te_keep σ)) else (xb (f_CL_throwNoRoom σ) (fun x u => f_CL_term_63 x u))) else (xb (f_CL_throwTooGreat σ) (fun x u => f_CL_term_48 x u)))
def k_CL_term_24 (x1 : Int32) (σ : St) : Prop := (x1 = (-1) → ((k_CL_throwWrong σ) ∧ (∀ x, (f_CL_throwWrong σ).1 = .inl x → (k_CL_term_33 x ((f_CL_throwWrong σ).2))))) ∧ (¬ x1 = (-1) → ((k_Te_tooDeep σ) ∧ (((f_Te_tooDeep σ) = 0 → ((k_Te_tooMany σ) ∧ (((f_Te_tooMany σ) = 0 → ((k_Te_keep σ) ∧ (k_CL_term_71 x1 (f_Te_keep σ)))) ∧ (¬ (f_Te_tooMany σ) = 0 → ((k_CL_throwNoRoom σ) ∧ (∀ x, (f_CL_throwNoRoom σ).1 = .inl x → (k_CL_term_63 x ((f_CL_throwNoRoom σ).2)))))))) ∧ (¬ (f_Te_tooDeep σ) = 0 → ((k_CL_throwTooGreat σ) ∧ (∀ x, (f_CL_throwTooGreat σ).1 = .inl x → (k_CL_term_48 x ((f_CL_throwTooGreat σ).2))))))))
def f_CL_term_17 (x1 : Int32) (σ : St) : XR := f_CL_term_24 x1 (f_Dr_wipe σ)
def k_CL_term_17 (x1 : Int32) (σ : St) : Prop := (k_Dr_wipe σ) ∧ (k_CL_term_24 x1 (f_Dr_wipe σ))
def f_CL_term_16 (s0 : Int32) (σ : St) : XR := f_CL_term_17 s0 σ
def k_CL_term_16 (s0 : Int32) (σ : St) : Prop := k_CL_term_17 s0 σ
def f_CL_term (σ : St) : XR := if (f_CL_isShut σ) = 0 then (f_CL_term_16 ((f_Rd_read σ).1) ((f_Rd_read σ).2)) else (.inl (-1), σ)
def k_CL_term (σ : St) : Prop := (k_CL_isShut σ) ∧ (((f_CL_isShut σ) = 0 → ((k_Rd_read σ) ∧ (k_CL_term_16 ((f_Rd_read σ).1) ((f_Rd_read σ).2)))) ∧ (¬ (f_CL_isShut σ) = 0 → True))
abbrev w_CL_term : List Cond := Cond.code y_CL_term b_CL_term 2 (some .int) :: gw
abbrev rm_CL_term : Room := { frames := 88, cells := 1, slots := 6, locals := 2061 }
set_option maxHeartbeats 4000000 in
set_option maxRecDepth 100000 in
theorem c_CL_term (l : Launch) (hlt : l.stackTraces = false) (D : va_G) (ty : Nat → ClassId) (h : Nat → Nat) (px : va_W) (sa : Nat → Nat) (σ : St) (sz : Nat) (hk : k_CL_term σ) : xMet l y_CL_term w_CL_term rm_CL_term (va_Pc [.ref (h 0)] (fun U => U.heap.size = sz ∧ va_P D classes (Wc ty h σ px) U.heap ∧ va_K D classes (Ta ty) U ∧ NW U ∧ XK sa (va_A (Wc ty h σ px) sz) U U.heap ∧ MK sa (va_A (Wc ty h σ px) sz) U U.heap ∧ va_D (fun _ => True) (Wc ty h σ px))) (Rx D classes (fun u => Wc ty h u px) (va_A (Wc ty h σ px) sz) (f_CL_term σ)) 1 6 (va_A (Wc ty h σ px) sz) := by
  refine xMet.ofW (cc := b_CL_term) (maxL := 2) (ret := (some .int)) (by decide) rfl ?_
  intro p e s m args below meth c s₁ B hml htab hv
  obtain ⟨ha, hsz, hP, hK, hN, hX, hM, hD0⟩ := hv
  have hx := B.exec
  have hb := B.bytes
  have hr := B.returns
  have hg : ∀ w ∈ gw, w.before args s = true := fun w h9 => atoms_spec (ws := w_CL_term) B.pre w (List.mem_cons_of_mem _ h9)
  have hown : s.vm.findClass "ClauseLedger" = some m.cls := findClass_of_methodNamed B.named
  have hlocks := B.notSynchronized
  subst hsz
  have hD := hD0.self (sz := s.heap.size)
  generalize hAe : va_A (Wc ty h σ px) s.heap.size = A at hD hM hX ⊢
  have hA : ∀ q : Nat, s.heap.size ≤ q → A q := fun q h9 => by rw [← hAe]; exact Or.inr h9
  have hS : va_S A s.heap s.heap [] := va_S.rf
  have he : entryFrame m args 2 = entryFrame m ([.ref (h 0)] : List Value).toArray 2 := by rw [ha]
  rw [he, lg_entry_eq]
  have hl := lv_entry ([.ref (h 0)]) (n := 2) (Nat.le_of_ble_eq_true rfl)
  generalize (lg_sl ([.ref (h 0)]) ++ List.replicate (2 - (lg_sl ([.ref (h 0)])).length) Slot.unset).toArray = ls at hl ⊢
  have hl : lv_has ls 2 [(0, .ref (h 0))] := hl
  generalize hv : f_CL_term σ = v
  replace hv := hv.symm
  have B33 : ∀ (H : Heap) (locs : List Loc) (ls : Array Slot) (s0 : Int32) (σ : St), v = f_CL_term_33 s0 σ → k_CL_term_33 s0 σ → lv_has ls 2 [] → va_P D classes (Wc ty h σ px) H → va_D A (Wc ty h σ px) → va_S A s.heap H locs → W p l e (headSpec w_CL_term rm_CL_term).room s m args below meth c H locs 1 6 (xMQ below (Rx D classes (fun u => Wc ty h u px) A v) args s 1 6 A) (F0 m 33 ls [.int s0]) := by
    intro H locs ls s0 σ hv hk hl hP hD hS
    unfold f_CL_term_33 at hv
    unfold k_CL_term_33 at hk
    exact x_ret (fun o t hq => by obtain ⟨rfl, ht⟩ := hq; exact ⟨hS.F ht, by rw [ht, hv]; exact hP, _, rfl, by rw [hv]⟩) (Nat.le_of_ble_eq_true rfl) (Nat.le_of_ble_eq_true rfl) (W.iret (Qc := fun _ _ o t => o = .returned (some (.int s0)) ∧ t.heap = H) hx hb hr (fun t ht hW => ⟨rfl, ht⟩) hS.2.2 d_CL_term_33)
  have B48 : ∀ (H : Heap) (locs : List Loc) (ls : Array Slot) (s0 : Int32) (σ : St), v = f_CL_term_48 s0 σ → k_CL_term_48 s0 σ → lv_has ls 2 [] → va_P D classes (Wc ty h σ px) H → va_D A (Wc ty h σ px) → va_S A s.heap H locs → W p l e (headSpec w_CL_term rm_CL_term).room s m args below meth c H locs 1 6 (xMQ below (Rx D classes (fun u => Wc ty h u px) A v) args s 1 6 A) (F0 m 48 ls [.int s0]) := by
    intro H locs ls s0 σ hv hk hl hP hD hS
    unfold f_CL_term_48 at hv
    unfold k_CL_term_48 at hk
    exact x_ret (fun o t hq => by obtain ⟨rfl, ht⟩ := hq; exact ⟨hS.F ht, by rw [ht, hv]; exact hP, _, rfl, by rw [hv]⟩) (Nat.le_of_ble_eq_true rfl) (Nat.le_of_ble_eq_true rfl) (W.iret (Qc := fun _ _ o t => o = .returned (some (.int s0)) ∧ t.heap = H) hx hb hr (fun t ht hW => ⟨rfl, ht⟩) hS.2.2 d_CL_term_48)
  have B63 : ∀ (H : Heap) (locs : List Loc) (ls : Array Slot) (s0 : Int32) (σ : St), v = f_CL_term_63 s0 σ → k_CL_term_63 s0 σ → lv_has ls 2 [] → va_P D classes (Wc ty h σ px) H → va_D A (Wc ty h σ px) → va_S A s.heap H locs → W p l e (headSpec w_CL_term rm_CL_term).room s m args below meth c H locs 1 6 (xMQ below (Rx D classes (fun u => Wc ty h u px) A v) args s 1 6 A) (F0 m 63 ls [.int s0]) := by
    intro H locs ls s0 σ hv hk hl hP hD hS
    unfold f_CL_term_63 at hv
    unfold k_CL_term_63 at hk
    exact x_ret (fun o t hq => by obtain ⟨rfl, ht⟩ := hq; exact ⟨hS.F ht, by rw [ht, hv]; exact hP, _, rfl, by rw [hv]⟩) (Nat.le_of_ble_eq_true rfl) (Nat.le_of_ble_eq_true rfl) (W.iret (Qc := fun _ _ o t => o = .returned (some (.int s0)) ∧ t.heap = H) hx hb hr (fun t ht hW => ⟨rfl, ht⟩) hS.2.2 d_CL_term_63)
  have B71 : ∀ (H : Heap) (locs : List Loc) (ls : Array Slot) (x1 : Int32) (σ : St), v = f_CL_term_71 x1 σ → k_CL_term_71 x1 σ → lv_has ls 2 [(1, .int x1)] → va_P D classes (Wc ty h σ px) H → va_D A (Wc ty h σ px) → va_S A s.heap H locs → W p l e (headSpec w_CL_term rm_CL_term).room s m args below meth c H locs 0 0 (xMQ below (Rx D classes (fun u => Wc ty h u px) A v) args s 1 6 A) (F0 m 71 ls []) := by
    intro H locs ls x1 σ hv hk hl hP hD hS
    unfold f_CL_term_71 at hv
    unfold k_CL_term_71 at hk
    refine lv_iload_n hx hb d_CL_term_71 rfl (lv_at hl 0 rfl) ?_
    exact x_ret (fun o t hq => by obtain ⟨rfl, ht⟩ := hq; exact ⟨hS.F ht, by rw [ht, hv]; exact hP, _, rfl, by rw [hv]⟩) (Nat.le_of_ble_eq_true rfl) (Nat.le_of_ble_eq_true rfl) (W.iret (Qc := fun _ _ o t => o = .returned (some (.int x1)) ∧ t.heap = H) hx hb hr (fun t ht hW => ⟨rfl, ht⟩) hS.2.2 d_CL_term_72)
  have B24 : ∀ (H : Heap) (locs : List Loc) (ls : Array Slot) (x1 : Int32) (σ : St), v = f_CL_term_24 x1 σ → k_CL_term_24 x1 σ → lv_has ls 2 [(0, .ref (h 0)), (1, .int x1)] → va_P D classes (Wc ty h σ px) H → va_D A (Wc ty h σ px) → va_S A s.heap H locs → W p l e (headSpec w_CL_term rm_CL_term).room s m args below meth c H locs 0 0 (xMQ below (Rx D classes (fun u => Wc ty h u px) A v) args s 1 6 A) (F0 m 24 ls []) := by
    intro H locs ls x1 σ hv hk hl hP hD hS
    unfold f_CL_term_24 at hv
    unfold k_CL_term_24 at hk
    refine lv_iload_n hx hb d_CL_term_24 rfl (lv_at hl 1 rfl) ?_
    refine lv_iconst (v := -1) hx hb d_CL_term_25 (by decide) ?_
    refine lv_icmp_ne (tgt := 34) hx hb d_CL_term_26 (by decide) (fun hc => ?_) (fun hc => ?_)
    · have hv := hv.trans (if_neg hc)
      have hk := hk.2 hc
      refine lv_aload_n hx hb d_CL_term_34 rfl (lv_at hl 0 rfl) ?_
      refine va_get (v := .ref (h 6)) (C := R_CL) (T := T_CL) (N := 11) hx hb hg in_CL hown hK hP 0 rfl rfl 1 (by decide) (hg _ m_285) (fun _ h9 => h9) rfl d_CL_term_35 ?_
      obtain ⟨hk0, hk⟩ := hk
      refine zz_callV (va_runV (As := []) (rest := []) ⟨hx, hb, hml, hown, hg⟩ (c_Te_tooDeep l D ty h px sa σ  hk0) ⟨callB_of 0 hg (gw_C m_854) rfl rfl rfl (hg _ m_3) (hg _ m_851) hd_Te_tooDeep ⟨Nat.le_of_ble_eq_true rfl, Nat.le_of_ble_eq_true rfl⟩, hg _ m_852, hg _ m_853⟩ (zz_preV (hM.at hS) hN hK hP 6 rfl rfl) rfl rfl hl.1 rfl (lv_room (Nat.le_of_ble_eq_true rfl)) d_CL_term_38 ⟨Nat.le_of_ble_eq_true rfl, Nat.le_of_ble_eq_true rfl⟩) ?_
      refine lv_if_eq (tgt := 49) hx hb d_CL_term_41 (by decide) (fun hc => ?_) (fun hc => ?_)
      · have hv := hv.trans (if_pos hc)
        have hk := hk.1 hc
        refine lv_aload_n hx hb d_CL_term_49 rfl (lv_at hl 0 rfl) ?_
        refine va_get (v := .ref (h 6)) (C := R_CL) (T := T_CL) (N := 11) hx hb hg in_CL hown hK hP 0 rfl rfl 1 (by decide) (hg _ m_285) (fun _ h9 => h9) rfl d_CL_term_50 ?_
        obtain ⟨hk0, hk⟩ := hk
        refine zz_callV (va_runV (As := []) (rest := []) ⟨hx, hb, hml, hown, hg⟩ (c_Te_tooMany l D ty h px sa σ  hk0) ⟨callB_of 0 hg (gw_C m_878) rfl rfl rfl (hg _ m_3) (hg _ m_875) hd_Te_tooMany ⟨Nat.le_of_ble_eq_true rfl, Nat.le_of_ble_eq_true rfl⟩, hg _ m_876, hg _ m_877⟩ (zz_preV (hM.at hS) hN hK hP 6 rfl rfl) rfl rfl hl.1 rfl (lv_room (Nat.le_of_ble_eq_true rfl)) d_CL_term_53 ⟨Nat.le_of_ble_eq_true rfl, Nat.le_of_ble_eq_true rfl⟩) ?_
        refine lv_if_eq (tgt := 64) hx hb d_CL_term_56 (by decide) (fun hc => ?_) (fun hc => ?_)
        · have hv := hv.trans (if_pos hc)
          have hk := hk.1 hc
          refine lv_aload_n hx hb d_CL_term_64 rfl (lv_at hl 0 rfl) ?_
          refine va_get (v := .ref (h 6)) (C := R_CL) (T := T_CL) (N := 11) hx hb hg in_CL hown hK hP 0 rfl rfl 1 (by decide) (hg _ m_285) (fun _ h9 => h9) rfl d_CL_term_65 ?_
          obtain ⟨hk0, hk⟩ := hk
          refine va_callv (va_runV (As := []) (rest := []) ⟨hx, hb, hml, hown, hg⟩ (c_Te_keep l D ty h px sa σ H.size  hk0) ⟨callB_of 0 hg (gw_C m_902) rfl rfl rfl (hg _ m_3) (hg _ m_899) hd_Te_keep ⟨Nat.le_of_ble_eq_true rfl, Nat.le_of_ble_eq_true rfl⟩, hg _ m_900, hg _ m_901⟩ (zz_preVW hM hS hA hN hK hP hD 6 rfl rfl) rfl rfl hl.1 rfl (lv_room (Nat.le_of_ble_eq_true rfl)) d_CL_term_68 ⟨Nat.le_of_ble_eq_true rfl, Nat.le_of_ble_eq_true rfl⟩) hS (fun q _ h => zz_free hD hS hA q h) (zz_free hD hS hA) (fun u68 t H locs ht hvm hp hP1 hz hk1 hS => ?_)
          rw [ht] at hP1
          rw [← hp] at hv hk
          have hD : va_D A (Wc ty h u68 px) := zz_D hD rfl
          have hP := hP1
          exact B71 _ _ _ x1 u68 hv hk (lv_sub hl [1] rfl) hP hD hS
        · have hv := hv.trans (if_neg hc)
          have hk := hk.2 hc
          refine lv_aload_n hx hb d_CL_term_59 rfl (lv_at hl 0 rfl) ?_
          obtain ⟨hk0, hk⟩ := hk
          refine x_callV (As := []) (rest := []) ⟨hx, hb, hml, hown, hg⟩ (c_CL_throwNoRoom l hlt D ty h px sa σ H.size  hk0) ⟨callB_of 0 hg (gw_C m_882) rfl rfl rfl (hg _ m_1) (hg _ m_879) hd_CL_throwNoRoom ⟨Nat.le_of_ble_eq_true rfl, Nat.le_of_ble_eq_true rfl⟩, hg _ m_881, hg _ ms_28⟩ (zz_preX hM hN hX hS hA hK hP hD 0 rfl rfl) rfl hl.1 rfl (Nat.le_of_ble_eq_true rfl) d_CL_term_60 ⟨Nat.le_of_ble_eq_true rfl, Nat.le_of_ble_eq_true rfl⟩ (fun r9 st9 t9 L9 h09 hal9 hR9 hL9 => ?_) (fun q9 st9 t9 L9 h09 h19 hal9 hR9 hL9 => ?_)
          · obtain ⟨hF9, hP9, x, rfl, hz9⟩ := hR9
            have hv := hv.trans (xb_l hz9)
            have hk := hk _ hz9
            have hS := zz_xS hS h09 hF9 (zz_free hD hS hA) hL9
            have hD : va_D A (Wc ty h (f_CL_throwNoRoom σ).2 px) := zz_D hD rfl
            exact B63 _ _ _ x (f_CL_throwNoRoom σ).2 hv hk (lv_sub hl [] rfl) hP9 hD hS
          · obtain ⟨hF9, hP9, E9, ce9, hz9, hq9, hn9, hc9⟩ := hR9
            have hv := hv.trans (xb_r hz9)
            have hS := zz_xS hS h09 hF9 (zz_free hD hS hA) hL9
            exact x_out htab hlocks (fun t ht hal => ⟨hS.F ht, by rw [ht, hv]; exact hP9, E9, ce9, by rw [hv], by rw [ht]; exact hq9, hn9, by rw [h19.findClass]; exact hc9⟩) hS.2.2 (Nat.le_of_ble_eq_true rfl) (Nat.le_of_ble_eq_true rfl)
      · have hv := hv.trans (if_neg hc)
        have hk := hk.2 hc
        refine lv_aload_n hx hb d_CL_term_44 rfl (lv_at hl 0 rfl) ?_
        obtain ⟨hk0, hk⟩ := hk
        refine x_callV (As := []) (rest := []) ⟨hx, hb, hml, hown, hg⟩ (c_CL_throwTooGreat l hlt D ty h px sa σ H.size  hk0) ⟨callB_of 0 hg (gw_C m_858) rfl rfl rfl (hg _ m_1) (hg _ m_855) hd_CL_throwTooGreat ⟨Nat.le_of_ble_eq_true rfl, Nat.le_of_ble_eq_true rfl⟩, hg _ m_857, hg _ ms_27⟩ (zz_preX hM hN hX hS hA hK hP hD 0 rfl rfl) rfl hl.1 rfl (Nat.le_of_ble_eq_true rfl) d_CL_term_45 ⟨Nat.le_of_ble_eq_true rfl, Nat.le_of_ble_eq_true rfl⟩ (fun r9 st9 t9 L9 h09 hal9 hR9 hL9 => ?_) (fun q9 st9 t9 L9 h09 h19 hal9 hR9 hL9 => ?_)
        · obtain ⟨hF9, hP9, x, rfl, hz9⟩ := hR9
          have hv := hv.trans (xb_l hz9)
          have hk := hk _ hz9
          have hS := zz_xS hS h09 hF9 (zz_free hD hS hA) hL9
          have hD : va_D A (Wc ty h (f_CL_throwTooGreat σ).2 px) := zz_D hD rfl
          exact B48 _ _ _ x (f_CL_throwTooGreat σ).2 hv hk (lv_sub hl [] rfl) hP9 hD hS
        · obtain ⟨hF9, hP9, E9, ce9, hz9, hq9, hn9, hc9⟩ := hR9
          have hv := hv.trans (xb_r hz9)
          have hS := zz_xS hS h09 hF9 (zz_free hD hS hA) hL9
          exact x_out htab hlocks (fun t ht hal => ⟨hS.F ht, by rw [ht, hv]; exact hP9, E9, ce9, by rw [hv], by rw [ht]; exact hq9, hn9, by rw [h19.findClass]; exact hc9⟩) hS.2.2 (Nat.le_of_ble_eq_true rfl) (Nat.le_of_ble_eq_true rfl)
    · have hv := hv.trans (if_pos hc)
      have hk := hk.1 hc
      refine lv_aload_n hx hb d_CL_term_29 rfl (lv_at hl 0 rfl) ?_
      obtain ⟨hk0, hk⟩ := hk
      refine x_callV (As := []) (rest := []) ⟨hx, hb, hml, hown, hg⟩ (c_CL_throwWrong l hlt D ty h px sa σ H.size  hk0) ⟨callB_of 0 hg (gw_C m_774) rfl rfl rfl (hg _ m_1) (hg _ m_771) hd_CL_throwWrong ⟨Nat.le_of_ble_eq_true rfl, Nat.le_of_ble_eq_true rfl⟩, hg _ m_773, hg _ ms_24⟩ (zz_preX hM hN hX hS hA hK hP hD 0 rfl rfl) rfl hl.1 rfl (Nat.le_of_ble_eq_true rfl) d_CL_term_30 ⟨Nat.le_of_ble_eq_true rfl, Nat.le_of_ble_eq_true rfl⟩ (fun r9 st9 t9 L9 h09 hal9 hR9 hL9 => ?_) (fun q9 st9 t9 L9 h09 h19 hal9 hR9 hL9 => ?_)
      · obtain ⟨hF9, hP9, x, rfl, hz9⟩ := hR9
        have hv := hv.trans (xb_l hz9)
        have hk := hk _ hz9
        have hS := zz_xS hS h09 hF9 (zz_free hD hS hA) hL9
        have hD : va_D A (Wc ty h (f_CL_throwWrong σ).2 px) := zz_D hD rfl
        exact B33 _ _ _ x (f_CL_throwWrong σ).2 hv hk (lv_sub hl [] rfl) hP9 hD hS
      · obtain ⟨hF9, hP9, E9, ce9, hz9, hq9, hn9, hc9⟩ := hR9
        have hv := hv.trans (xb_r hz9)
        have hS := zz_xS hS h09 hF9 (zz_free hD hS hA) hL9
        exact x_out htab hlocks (fun t ht hal => ⟨hS.F ht, by rw [ht, hv]; exact hP9, E9, ce9, by rw [hv], by rw [ht]; exact hq9, hn9, by rw [h19.findClass]; exact hc9⟩) hS.2.2 (Nat.le_of_ble_eq_true rfl) (Nat.le_of_ble_eq_true rfl)
  have B17 : ∀ (H : Heap) (locs : List Loc) (ls : Array Slot) (x1 : Int32) (σ : St), v = f_CL_term_17 x1 σ → k_CL_term_17 x1 σ → lv_has ls 2 [(0, .ref (h 0)), (1, .int x1)] → va_P D classes (Wc ty h σ px) H → va_D A (Wc ty h σ px) → va_S A s.heap H locs → W p l e (headSpec w_CL_term rm_CL_term).room s m args below meth c H locs 0 0 (xMQ below (Rx D classes (fun u => Wc ty h u px) A v) args s 1 6 A) (F0 m 17 ls []) := by
    intro H locs ls x1 σ hv hk hl hP hD hS
    unfold f_CL_term_17 at hv
    unfold k_CL_term_17 at hk
    refine lv_aload_n hx hb d_CL_term_17 rfl (lv_at hl 0 rfl) ?_
    refine va_get (v := .ref (h 18)) (C := R_CL) (T := T_CL) (N := 11) hx hb hg in_CL hown hK hP 0 rfl rfl 2 (by decide) (hg _ m_286) (fun _ h9 => h9) rfl d_CL_term_18 ?_
    obtain ⟨hk0, hk⟩ := hk
    refine va_callv (va_runV (As := []) (rest := []) ⟨hx, hb, hml, hown, hg⟩ (c_Dr_wipe l D ty h px sa σ H.size  hk0) ⟨callB_of 0 hg (gw_C m_770) rfl rfl rfl (hg _ m_4) (hg _ m_767) hd_Dr_wipe ⟨Nat.le_of_ble_eq_true rfl, Nat.le_of_ble_eq_true rfl⟩, hg _ m_768, hg _ m_769⟩ (zz_preVW hM hS hA hN hK hP hD 18 rfl rfl) rfl rfl hl.1 rfl (lv_room (Nat.le_of_ble_eq_true rfl)) d_CL_term_21 ⟨Nat.le_of_ble_eq_true rfl, Nat.le_of_ble_eq_true rfl⟩) hS (fun q _ h => zz_free hD hS hA q h) (zz_free hD hS hA) (fun u21 t H locs ht hvm hp hP1 hz hk1 hS => ?_)
    rw [ht] at hP1
    rw [← hp] at hv hk
    have hD : va_D A (Wc ty h u21 px) := zz_D hD rfl
    have hP := hP1
    exact B24 _ _ _ x1 u21 hv hk (lv_sub hl [0, 1] rfl) hP hD hS
  have B16 : ∀ (H : Heap) (locs : List Loc) (ls : Array Slot) (s0 : Int32) (σ : St), v = f_CL_term_16 s0 σ → k_CL_term_16 s0 σ → lv_has ls 2 [(0, .ref (h 0))] → va_P D classes (Wc ty h σ px) H → va_D A (Wc ty h σ px) → va_S A s.heap H locs → W p l e (headSpec w_CL_term rm_CL_term).room s m args below meth c H locs 0 0 (xMQ below (Rx D classes (fun u => Wc ty h u px) A v) args s 1 6 A) (F0 m 16 ls [.int s0]) := by
    intro H locs ls s0 σ hv hk hl hP hD hS
    unfold f_CL_term_16 at hv
    unfold k_CL_term_16 at hk
    refine lv_istore_n (lv' := [(1, .int s0), (0, .ref (h 0))]) hx hb d_CL_term_16 rfl hl (by decide) rfl (fun ls hl => ?_)
    exact B17 _ _ _ s0 σ hv hk (lv_sub hl [1, 0] rfl) hP hD hS
  unfold f_CL_term at hv
  unfold k_CL_term at hk
  refine lv_aload_n hx hb d_CL_term_0 rfl (lv_at hl 0 rfl) ?_
  obtain ⟨hk0, hk⟩ := hk
  refine zz_callV (va_runV (As := []) (rest := []) ⟨hx, hb, hml, hown, hg⟩ (c_CL_isShut l D ty h px sa σ  hk0) ⟨callB_of 0 hg (gw_C m_571) rfl rfl rfl (hg _ m_1) (hg _ m_568) hd_CL_isShut ⟨Nat.le_of_ble_eq_true rfl, Nat.le_of_ble_eq_true rfl⟩, hg _ m_570, hg _ ms_8⟩ (zz_preV (hM.at hS) hN hK hP 0 rfl rfl) rfl rfl hl.1 rfl (lv_room (Nat.le_of_ble_eq_true rfl)) d_CL_term_1 ⟨Nat.le_of_ble_eq_true rfl, Nat.le_of_ble_eq_true rfl⟩) ?_
  refine lv_if_eq (tgt := 9) hx hb d_CL_term_4 (by decide) (fun hc => ?_) (fun hc => ?_)
  · have hv := hv.trans (if_pos hc)
    have hk := hk.1 hc
    refine lv_aload_n hx hb d_CL_term_9 rfl (lv_at hl 0 rfl) ?_
    refine va_get (v := .ref (h 20)) (C := R_CL) (T := T_CL) (N := 11) hx hb hg in_CL hown hK hP 0 rfl rfl 3 (by decide) (hg _ m_287) (fun _ h9 => h9) rfl d_CL_term_10 ?_
    obtain ⟨hk0, hk⟩ := hk
    refine va_calli (va_runV (As := []) (rest := []) ⟨hx, hb, hml, hown, hg⟩ (c_Rd_read l D ty h px sa σ s.heap.size  hk0) ⟨callB_of 0 hg (gw_C m_575) rfl rfl rfl (hg _ m_5) (hg _ m_572) hd_Rd_read ⟨Nat.le_of_ble_eq_true rfl, Nat.le_of_ble_eq_true rfl⟩, hg _ m_573, hg _ m_574⟩ (zz_preVW hM hS hA hN hK hP hD 20 rfl rfl) rfl rfl hl.1 rfl (lv_room (Nat.le_of_ble_eq_true rfl)) d_CL_term_13 ⟨Nat.le_of_ble_eq_true rfl, Nat.le_of_ble_eq_true rfl⟩) hS (fun q _ h => zz_free hD hS hA q h) (zz_free hD hS hA) (fun r13 u13 t H locs ht hvm hp hP1 hz hk1 hS => ?_)
    rw [ht] at hP1
    rw [← hp] at hv hk
    have hD : va_D A (Wc ty h u13 px) := zz_D hD rfl
    have hP := hP1
    exact B16 _ _ _ r13 u13 hv hk (lv_sub hl [0] rfl) hP hD hS
  · have hv := hv.trans (if_neg hc)
    have hk := hk.2 hc
    refine lv_iconst (v := -1) hx hb d_CL_term_7 (by decide) ?_
    exact x_ret (fun o t hq => by obtain ⟨rfl, ht⟩ := hq; exact ⟨hS.F ht, by rw [ht, hv]; exact hP, _, rfl, by rw [hv]⟩) (Nat.le_of_ble_eq_true rfl) (Nat.le_of_ble_eq_true rfl) (W.iret (Qc := fun _ _ o t => o = .returned (some (.int (-1))) ∧ t.heap = s.heap) hx hb hr (fun t ht hW => ⟨rfl, ht⟩) hS.2.2 d_CL_term_8)

-- ClauseLedger.throwMissing()I
abbrev b_CL_throwMissing : ByteArray := prog_1_method_39_code
def y_CL_throwMissing : MethodName := ⟨"ClauseLedger", "throwMissing", "()I"⟩
theorem hd_CL_throwMissing : y_CL_throwMissing.cls ≠ "java/lang/invoke/MethodHandle" ∧ y_CL_throwMissing.cls ≠ "java/lang/invoke/VarHandle" ∧ (parseMethodDescriptor y_CL_throwMissing.desc).map (fun d => d.parameters.length) = some 0 := by decide +kernel
theorem d_CL_throwMissing_0 : decode b_CL_throwMissing 0 = .ok (.aload_n 0, 1) := by decide +kernel
theorem d_CL_throwMissing_1 : decode b_CL_throwMissing 1 = .ok (.invokevirtual 302, 3) := by decide +kernel
theorem d_CL_throwMissing_4 : decode b_CL_throwMissing 4 = .ok (.new 305, 3) := by decide +kernel
theorem d_CL_throwMissing_7 : decode b_CL_throwMissing 7 = .ok (.dup, 1) := by decide +kernel
theorem d_CL_throwMissing_8 : decode b_CL_throwMissing 8 = .ok (.ldc_w 307, 3) := by decide +kernel
theorem d_CL_throwMissing_11 : decode b_CL_throwMissing 11 = .ok (.invokespecial 309, 3) := by decide +kernel
theorem d_CL_throwMissing_14 : decode b_CL_throwMissing 14 = .ok (.athrow, 1) := by decide +kernel
def f_CL_throwMissing_4 (σ : St) : XR := (.inr 1, σ)
def k_CL_throwMissing_4 (σ : St) : Prop := True
def f_CL_throwMissing (σ : St) : XR := f_CL_throwMissing_4 (f_CL_undo σ)
def k_CL_throwMissing (σ : St) : Prop := (k_CL_undo σ) ∧ (k_CL_throwMissing_4 (f_CL_undo σ))
abbrev w_CL_throwMissing : List Cond := Cond.code y_CL_throwMissing b_CL_throwMissing 1 (some .int) :: gw
abbrev rm_CL_throwMissing : Room := { frames := 6, cells := 1, slots := 6, locals := 100 }
set_option maxHeartbeats 4000000 in
set_option maxRecDepth 100000 in
theorem c_CL_throwMissing (l : Launch) (hlt : l.stackTraces = false) (D : va_G) (ty : Nat → ClassId) (h : Nat → Nat) (px : va_W) (sa : Nat → Nat) (σ : St) (sz : Nat) (hk : k_CL_throwMissing σ) : xMet l y_CL_throwMissing w_CL_throwMissing rm_CL_throwMissing (va_Pc [.ref (h 0)] (fun U => U.heap.size = sz ∧ va_P D classes (Wc ty h σ px) U.heap ∧ va_K D classes (Ta ty) U ∧ NW U ∧ XK sa (va_A (Wc ty h σ px) sz) U U.heap ∧ MK sa (va_A (Wc ty h σ px) sz) U U.heap ∧ va_D (fun _ => True) (Wc ty h σ px))) (Rx D classes (fun u => Wc ty h u px) (va_A (Wc ty h σ px) sz) (f_CL_throwMissing σ)) 1 6 (va_A (Wc ty h σ px) sz) := by
  refine xMet.ofW (cc := b_CL_throwMissing) (maxL := 1) (ret := (some .int)) (by decide) rfl ?_
  intro p e s m args below meth c s₁ B hml htab hv
  obtain ⟨ha, hsz, hP, hK, hN, hX, hM, hD0⟩ := hv
  have hx := B.exec
  have hb := B.bytes
  have hr := B.returns
  have hg : ∀ w ∈ gw, w.before args s = true := fun w h9 => atoms_spec (ws := w_CL_throwMissing) B.pre w (List.mem_cons_of_mem _ h9)
  have hown : s.vm.findClass "ClauseLedger" = some m.cls := findClass_of_methodNamed B.named
  have hlocks := B.notSynchronized
  subst hsz
  have hD := hD0.self (sz := s.heap.size)
  generalize hAe : va_A (Wc ty h σ px) s.heap.size = A at hD hM hX ⊢
  have hA : ∀ q : Nat, s.heap.size ≤ q → A q := fun q h9 => by rw [← hAe]; exact Or.inr h9
  have hS : va_S A s.heap s.heap [] := va_S.rf
  have he : entryFrame m args 1 = entryFrame m ([.ref (h 0)] : List Value).toArray 1 := by rw [ha]
  rw [he, lg_entry_eq]
  have hl := lv_entry ([.ref (h 0)]) (n := 1) (Nat.le_of_ble_eq_true rfl)
  generalize (lg_sl ([.ref (h 0)]) ++ List.replicate (1 - (lg_sl ([.ref (h 0)])).length) Slot.unset).toArray = ls at hl ⊢
  have hl : lv_has ls 1 [(0, .ref (h 0))] := hl
  generalize hv : f_CL_throwMissing σ = v
  replace hv := hv.symm
  have B4 : ∀ (H : Heap) (locs : List Loc) (ls : Array Slot) (σ : St), v = f_CL_throwMissing_4 σ → k_CL_throwMissing_4 σ → lv_has ls 1 [] → va_P D classes (Wc ty h σ px) H → va_D A (Wc ty h σ px) → va_S A s.heap H locs → W p l e (headSpec w_CL_throwMissing rm_CL_throwMissing).room s m args below meth c H locs 0 0 (xMQ below (Rx D classes (fun u => Wc ty h u px) A v) args s 1 6 A) (F0 m 4 ls []) := by
    intro H locs ls σ hv hk hl hP hD hS
    unfold f_CL_throwMissing_4 at hv
    unfold k_CL_throwMissing_4 at hk
    exact x_throw hx hb hlt (hml.trans hl.1.symm) hown hX.1.1 (by decide +kernel) (by decide +kernel) (hg _ m_915) (hg _ m_916) (hg _ m_26) (x_hat own_1 hg hN hX.2 hS) htab hlocks hS.2.2 (Nat.le_of_ble_eq_true rfl) (Nat.le_of_ble_eq_true rfl) (Nat.le_of_ble_eq_true rfl) (Nat.le_of_ble_eq_true rfl) (Nat.le_of_ble_eq_true rfl) (Nat.le_of_ble_eq_true rfl) d_CL_throwMissing_4 d_CL_throwMissing_7 d_CL_throwMissing_8 d_CL_throwMissing_11 d_CL_throwMissing_14 (fun t ce hce hvm hcls hz hk9 hal => ⟨zz_xF hS hz hk9, by rw [hv]; exact zz_push hP hk9, 1, ce, by rw [hv], hce, hvm, hcls⟩)
  unfold f_CL_throwMissing at hv
  unfold k_CL_throwMissing at hk
  refine lv_aload_n hx hb d_CL_throwMissing_0 rfl (lv_at hl 0 rfl) ?_
  obtain ⟨hk0, hk⟩ := hk
  refine va_callv (va_runV (As := []) (rest := []) ⟨hx, hb, hml, hown, hg⟩ (c_CL_undo l D ty h px sa σ s.heap.size  hk0) ⟨callB_of 0 hg (gw_C m_778) rfl rfl rfl (hg _ m_1) (hg _ m_775) hd_CL_undo ⟨Nat.le_of_ble_eq_true rfl, Nat.le_of_ble_eq_true rfl⟩, hg _ m_777, hg _ ms_25⟩ (zz_preVW hM hS hA hN hK hP hD 0 rfl rfl) rfl rfl hl.1 rfl (lv_room (Nat.le_of_ble_eq_true rfl)) d_CL_throwMissing_1 ⟨Nat.le_of_ble_eq_true rfl, Nat.le_of_ble_eq_true rfl⟩) hS (fun q _ h => zz_free hD hS hA q h) (zz_free hD hS hA) (fun u1 t H locs ht hvm hp hP1 hz hk1 hS => ?_)
  rw [ht] at hP1
  rw [← hp] at hv hk
  have hD : va_D A (Wc ty h u1 px) := zz_D hD rfl
  have hP := hP1
  exact B4 _ _ _  u1 hv hk (lv_sub hl [] rfl) hP hD hS

-- ClauseLedger$Row.wipe()V
abbrev b_Ro_wipe : ByteArray := prog_6_method_4_code
def y_Ro_wipe : MethodName := ⟨"ClauseLedger$Row", "wipe", "()V"⟩
theorem hd_Ro_wipe : y_Ro_wipe.cls ≠ "java/lang/invoke/MethodHandle" ∧ y_Ro_wipe.cls ≠ "java/lang/invoke/VarHandle" ∧ (parseMethodDescriptor y_Ro_wipe.desc).map (fun d => d.parameters.length) = some 0 := by decide +kernel
theorem d_Ro_wipe_0 : decode b_Ro_wipe 0 = .ok (.aload_n 0, 1) := by decide +kernel
theorem d_Ro_wipe_1 : decode b_Ro_wipe 1 = .ok (.iconst 0, 1) := by decide +kernel
theorem d_Ro_wipe_2 : decode b_Ro_wipe 2 = .ok (.putfield 15, 3) := by decide +kernel
theorem d_Ro_wipe_5 : decode b_Ro_wipe 5 = .ok (.return_, 1) := by decide +kernel
def f_Ro_wipe_5 (σ : St) : St := σ
def k_Ro_wipe_5 (σ : St) : Prop := True
def f_Ro_wipe (σ : St) : St := f_Ro_wipe_5 (sF σ 25 1 0)
def k_Ro_wipe (σ : St) : Prop := k_Ro_wipe_5 (sF σ 25 1 0)
abbrev w_Ro_wipe : List Cond := Cond.code y_Ro_wipe b_Ro_wipe 1 none :: gw
abbrev rm_Ro_wipe : Room := { frames := 0, cells := 0, slots := 0, locals := 0 }
set_option maxHeartbeats 4000000 in
set_option maxRecDepth 100000 in
theorem c_Ro_wipe (l : Launch) (D : va_G) (ty : Nat → ClassId) (h : Nat → Nat) (px : va_W) (sa : Nat → Nat) (σ : St) (sz : Nat) (hk : k_Ro_wipe σ) : Met l y_Ro_wipe w_Ro_wipe rm_Ro_wipe (va_Pc [.ref (h 25)] (fun U => U.heap.size = sz ∧ va_P D classes (Wc ty h σ px) U.heap ∧ va_K D classes (Ta ty) U ∧ NW U ∧ MK sa (va_A (Wc ty h σ px) sz) U U.heap ∧ va_D (fun _ => True) (Wc ty h σ px))) (va_Qv (fun u : St => u = f_Ro_wipe σ) (fun u t => va_P D classes (Wc ty h u px) t.heap) (va_A (Wc ty h σ px) sz)) 0 0 (va_A (Wc ty h σ px) sz) := by
  refine Met.ofW (cc := b_Ro_wipe) (maxL := 1) (ret := none) (by decide) rfl ?_
  intro p e s m args below meth c s₁ B hml hv
  obtain ⟨ha, hsz, hP, hK, hN, hM, hD0⟩ := hv
  have hx := B.exec
  have hb := B.bytes
  have hr := B.returns
  have hg : ∀ w ∈ gw, w.before args s = true := fun w h9 => atoms_spec (ws := w_Ro_wipe) B.pre w (List.mem_cons_of_mem _ h9)
  have hown : s.vm.findClass "ClauseLedger$Row" = some m.cls := findClass_of_methodNamed B.named
  have hlocks := B.notSynchronized
  subst hsz
  have hD := hD0.self (sz := s.heap.size)
  generalize hAe : va_A (Wc ty h σ px) s.heap.size = A at hD hM ⊢
  have hA : ∀ q : Nat, s.heap.size ≤ q → A q := fun q h9 => by rw [← hAe]; exact Or.inr h9
  have hS : va_S A s.heap s.heap [] := va_S.rf
  have he : entryFrame m args 1 = entryFrame m ([.ref (h 25)] : List Value).toArray 1 := by rw [ha]
  rw [he, lg_entry_eq]
  have hl := lv_entry ([.ref (h 25)]) (n := 1) (Nat.le_of_ble_eq_true rfl)
  generalize (lg_sl ([.ref (h 25)]) ++ List.replicate (1 - (lg_sl ([.ref (h 25)])).length) Slot.unset).toArray = ls at hl ⊢
  have hl : lv_has ls 1 [(0, .ref (h 25))] := hl
  generalize hv : f_Ro_wipe σ = v
  replace hv := hv.symm
  have B5 : ∀ (H : Heap) (locs : List Loc) (ls : Array Slot) (σ : St), v = f_Ro_wipe_5 σ → k_Ro_wipe_5 σ → lv_has ls 1 [] → va_P D classes (Wc ty h σ px) H → va_D A (Wc ty h σ px) → va_S A s.heap H locs → W p l e (headSpec w_Ro_wipe rm_Ro_wipe).room s m args below meth c H locs 0 0 (MQ below (va_Qv (fun u : St => u = v) (fun u t => va_P D classes (Wc ty h u px) t.heap) A) args s 0 0 A) (F0 m 5 ls []) := by
    intro H locs ls σ hv hk hl hP hD hS
    unfold f_Ro_wipe_5 at hv
    unfold k_Ro_wipe_5 at hk
    exact W.vret hx hb hr (fun t ht hW => ⟨⟨_, rfl, hv.symm, by dsimp only; rw [ht]; exact hP⟩, hS.F ht⟩) hS.2.2 d_Ro_wipe_5
  unfold f_Ro_wipe at hv
  unfold k_Ro_wipe at hk
  refine lv_aload_n hx hb d_Ro_wipe_0 rfl (lv_at hl 0 rfl) ?_
  refine lv_iconst (v := 0) hx hb d_Ro_wipe_1 (by decide) ?_
  refine va_put (v := .int 0) (ty := .int) (C := R_Ro) (T := T_Ro) (N := 2) hx hb hg in_Ro ty_Ro ok_Ro nm_Ro hown hK hP hD hS 25 rfl rfl 1 (by decide) (hg _ m_233) (fun _ h9 => h9) rfl (by decide +kernel) rfl rfl (Nat.le_of_ble_eq_true rfl) d_Ro_wipe_2 (fun H locs hP hD hS => ?_)
  have hP : va_P D classes (Wc ty h (sF σ 25 1 0) px) H := hP
  have hD : va_D A (Wc ty h (sF σ 25 1 0) px) := hD
  exact B5 _ _ _  (sF σ 25 1 0) hv hk (lv_sub hl [] rfl) hP hD hS

-- ClauseLedger$Row.join(I)V
abbrev b_Ro_join : ByteArray := prog_6_method_5_code
def y_Ro_join : MethodName := ⟨"ClauseLedger$Row", "join", "(I)V"⟩
theorem hd_Ro_join : y_Ro_join.cls ≠ "java/lang/invoke/MethodHandle" ∧ y_Ro_join.cls ≠ "java/lang/invoke/VarHandle" ∧ (parseMethodDescriptor y_Ro_join.desc).map (fun d => d.parameters.length) = some 1 := by decide +kernel
theorem d_Ro_join_0 : decode b_Ro_join 0 = .ok (.iload_n 1, 1) := by decide +kernel
theorem d_Ro_join_1 : decode b_Ro_join 1 = .ok (.iconst (-1), 1) := by decide +kernel
theorem d_Ro_join_2 : decode b_Ro_join 2 = .ok (.if_icmp .eq 15, 3) := by decide +kernel
theorem d_Ro_join_5 : decode b_Ro_join 5 = .ok (.aload_n 0, 1) := by decide +kernel
theorem d_Ro_join_6 : decode b_Ro_join 6 = .ok (.getfield 15, 3) := by decide +kernel
theorem d_Ro_join_9 : decode b_Ro_join 9 = .ok (.aload_n 0, 1) := by decide +kernel
theorem d_Ro_join_10 : decode b_Ro_join 10 = .ok (.getfield 9, 3) := by decide +kernel
theorem d_Ro_join_13 : decode b_Ro_join 13 = .ok (.arraylength, 1) := by decide +kernel
theorem d_Ro_join_14 : decode b_Ro_join 14 = .ok (.if_icmp .lt 4, 3) := by decide +kernel
theorem d_Ro_join_17 : decode b_Ro_join 17 = .ok (.return_, 1) := by decide +kernel
theorem d_Ro_join_18 : decode b_Ro_join 18 = .ok (.iconst 0, 1) := by decide +kernel
theorem d_Ro_join_19 : decode b_Ro_join 19 = .ok (.istore_n 2, 1) := by decide +kernel
theorem d_Ro_join_20 : decode b_Ro_join 20 = .ok (.iload_n 2, 1) := by decide +kernel
theorem d_Ro_join_21 : decode b_Ro_join 21 = .ok (.aload_n 0, 1) := by decide +kernel
theorem d_Ro_join_22 : decode b_Ro_join 22 = .ok (.getfield 15, 3) := by decide +kernel
theorem d_Ro_join_25 : decode b_Ro_join 25 = .ok (.if_icmp .ge 20, 3) := by decide +kernel
theorem d_Ro_join_28 : decode b_Ro_join 28 = .ok (.aload_n 0, 1) := by decide +kernel
theorem d_Ro_join_29 : decode b_Ro_join 29 = .ok (.getfield 9, 3) := by decide +kernel
theorem d_Ro_join_32 : decode b_Ro_join 32 = .ok (.iload_n 2, 1) := by decide +kernel
theorem d_Ro_join_33 : decode b_Ro_join 33 = .ok (.iaload, 1) := by decide +kernel
theorem d_Ro_join_34 : decode b_Ro_join 34 = .ok (.iload_n 1, 1) := by decide +kernel
theorem d_Ro_join_35 : decode b_Ro_join 35 = .ok (.if_icmp .ne 4, 3) := by decide +kernel
theorem d_Ro_join_38 : decode b_Ro_join 38 = .ok (.return_, 1) := by decide +kernel
theorem d_Ro_join_39 : decode b_Ro_join 39 = .ok (.iinc 2 1, 3) := by decide +kernel
theorem d_Ro_join_42 : decode b_Ro_join 42 = .ok (.goto (-22), 3) := by decide +kernel
theorem d_Ro_join_45 : decode b_Ro_join 45 = .ok (.aload_n 0, 1) := by decide +kernel
theorem d_Ro_join_46 : decode b_Ro_join 46 = .ok (.getfield 9, 3) := by decide +kernel
theorem d_Ro_join_49 : decode b_Ro_join 49 = .ok (.aload_n 0, 1) := by decide +kernel
theorem d_Ro_join_50 : decode b_Ro_join 50 = .ok (.getfield 15, 3) := by decide +kernel
theorem d_Ro_join_53 : decode b_Ro_join 53 = .ok (.iload_n 1, 1) := by decide +kernel
theorem d_Ro_join_54 : decode b_Ro_join 54 = .ok (.iastore, 1) := by decide +kernel
theorem d_Ro_join_55 : decode b_Ro_join 55 = .ok (.aload_n 0, 1) := by decide +kernel
theorem d_Ro_join_56 : decode b_Ro_join 56 = .ok (.dup, 1) := by decide +kernel
theorem d_Ro_join_57 : decode b_Ro_join 57 = .ok (.getfield 15, 3) := by decide +kernel
theorem d_Ro_join_60 : decode b_Ro_join 60 = .ok (.iconst 1, 1) := by decide +kernel
theorem d_Ro_join_61 : decode b_Ro_join 61 = .ok (.iadd, 1) := by decide +kernel
theorem d_Ro_join_62 : decode b_Ro_join 62 = .ok (.putfield 15, 3) := by decide +kernel
theorem d_Ro_join_65 : decode b_Ro_join 65 = .ok (.return_, 1) := by decide +kernel
def f_Ro_join_17 (σ : St) : St := σ
def k_Ro_join_17 (σ : St) : Prop := True
def f_Ro_join_65 (σ : St) : St := σ
def k_Ro_join_65 (σ : St) : Prop := True
def f_Ro_join_55 (σ : St) : St := f_Ro_join_65 (sF σ 25 1 ((σ.1 25 1) + 1))
def k_Ro_join_55 (σ : St) : Prop := k_Ro_join_65 (sF σ 25 1 ((σ.1 25 1) + 1))
def f_Ro_join_20 : Nat → Int32 → Int32 → St → St
  | 0, _, _, σ => σ
  | n + 1, x1, x2, σ => if (σ.1 25 1) ≤ x2 then (f_Ro_join_55 (sA σ 26 (σ.1 25 1) x1)) else (if (σ.1 26 x2.toNatClampNeg) = x1 then σ else ((f_Ro_join_20 n) x1 (x2 + 1) σ))
def k_Ro_join_20 : Nat → Int32 → Int32 → St → Prop
  | 0, _, _, _ => False
  | n + 1, x1, x2, σ => ((σ.1 25 1) ≤ x2 → (vp_in (σ.1 25 1) 68 ∧ (k_Ro_join_55 (sA σ 26 (σ.1 25 1) x1)))) ∧ (¬ (σ.1 25 1) ≤ x2 → (vp_in x2 68 ∧ (((σ.1 26 x2.toNatClampNeg) = x1 → True) ∧ (¬ (σ.1 26 x2.toNatClampNeg) = x1 → ((k_Ro_join_20 n) x1 (x2 + 1) σ)))))
def f_Ro_join (a1 : Int32) (σ : St) : St := if a1 = (-1) then (f_Ro_join_17 σ) else (if (σ.1 25 1) < 68 then (f_Ro_join_20 1000 a1 0 σ) else (f_Ro_join_17 σ))
def k_Ro_join (a1 : Int32) (σ : St) : Prop := (a1 = (-1) → (k_Ro_join_17 σ)) ∧ (¬ a1 = (-1) → (((σ.1 25 1) < 68 → (k_Ro_join_20 1000 a1 0 σ)) ∧ (¬ (σ.1 25 1) < 68 → (k_Ro_join_17 σ))))
abbrev w_Ro_join : List Cond := Cond.code y_Ro_join b_Ro_join 3 none :: gw
abbrev rm_Ro_join : Room := { frames := 0, cells := 0, slots := 0, locals := 0 }
set_option maxHeartbeats 4000000 in
set_option maxRecDepth 100000 in
theorem c_Ro_join (l : Launch) (D : va_G) (ty : Nat → ClassId) (h : Nat → Nat) (px : va_W) (sa : Nat → Nat) (σ : St) (sz : Nat) (a1 : Int32) (hk : k_Ro_join a1 σ) : Met l y_Ro_join w_Ro_join rm_Ro_join (va_Pc [.ref (h 25), .int a1] (fun U => U.heap.size = sz ∧ va_P D classes (Wc ty h σ px) U.heap ∧ va_K D classes (Ta ty) U ∧ NW U ∧ MK sa (va_A (Wc ty h σ px) sz) U U.heap ∧ va_D (fun _ => True) (Wc ty h σ px))) (va_Qv (fun u : St => u = f_Ro_join a1 σ) (fun u t => va_P D classes (Wc ty h u px) t.heap) (va_A (Wc ty h σ px) sz)) 0 0 (va_A (Wc ty h σ px) sz) := by
  refine Met.ofW (cc := b_Ro_join) (maxL := 3) (ret := none) (by decide) rfl ?_
  intro p e s m args below meth c s₁ B hml hv
  obtain ⟨ha, hsz, hP, hK, hN, hM, hD0⟩ := hv
  have hx := B.exec
  have hb := B.bytes
  have hr := B.returns
  have hg : ∀ w ∈ gw, w.before args s = true := fun w h9 => atoms_spec (ws := w_Ro_join) B.pre w (List.mem_cons_of_mem _ h9)
  have hown : s.vm.findClass "ClauseLedger$Row" = some m.cls := findClass_of_methodNamed B.named
  have hlocks := B.notSynchronized
  subst hsz
  have hD := hD0.self (sz := s.heap.size)
  generalize hAe : va_A (Wc ty h σ px) s.heap.size = A at hD hM ⊢
  have hA : ∀ q : Nat, s.heap.size ≤ q → A q := fun q h9 => by rw [← hAe]; exact Or.inr h9
  have hS : va_S A s.heap s.heap [] := va_S.rf
  have he : entryFrame m args 3 = entryFrame m ([.ref (h 25), .int a1] : List Value).toArray 3 := by rw [ha]
  rw [he, lg_entry_eq]
  have hl := lv_entry ([.ref (h 25), .int a1]) (n := 3) (Nat.le_of_ble_eq_true rfl)
  generalize (lg_sl ([.ref (h 25), .int a1]) ++ List.replicate (3 - (lg_sl ([.ref (h 25), .int a1])).length) Slot.unset).toArray = ls at hl ⊢
  have hl : lv_has ls 3 [(0, .ref (h 25)), (1, .int a1)] := hl
  generalize hv : f_Ro_join a1 σ = v
  replace hv := hv.symm
  have B17 : ∀ (H : Heap) (locs : List Loc) (ls : Array Slot) (σ : St), v = f_Ro_join_17 σ → k_Ro_join_17 σ → lv_has ls 3 [] → va_P D classes (Wc ty h σ px) H → va_D A (Wc ty h σ px) → va_S A s.heap H locs → W p l e (headSpec w_Ro_join rm_Ro_join).room s m args below meth c H locs 0 0 (MQ below (va_Qv (fun u : St => u = v) (fun u t => va_P D classes (Wc ty h u px) t.heap) A) args s 0 0 A) (F0 m 17 ls []) := by
    intro H locs ls σ hv hk hl hP hD hS
    unfold f_Ro_join_17 at hv
    unfold k_Ro_join_17 at hk
    exact W.vret hx hb hr (fun t ht hW => ⟨⟨_, rfl, hv.symm, by dsimp only; rw [ht]; exact hP⟩, hS.F ht⟩) hS.2.2 d_Ro_join_17
  have B65 : ∀ (H : Heap) (locs : List Loc) (ls : Array Slot) (σ : St), v = f_Ro_join_65 σ → k_Ro_join_65 σ → lv_has ls 3 [] → va_P D classes (Wc ty h σ px) H → va_D A (Wc ty h σ px) → va_S A s.heap H locs → W p l e (headSpec w_Ro_join rm_Ro_join).room s m args below meth c H locs 0 0 (MQ below (va_Qv (fun u : St => u = v) (fun u t => va_P D classes (Wc ty h u px) t.heap) A) args s 0 0 A) (F0 m 65 ls []) := by
    intro H locs ls σ hv hk hl hP hD hS
    unfold f_Ro_join_65 at hv
    unfold k_Ro_join_65 at hk
    exact W.vret hx hb hr (fun t ht hW => ⟨⟨_, rfl, hv.symm, by dsimp only; rw [ht]; exact hP⟩, hS.F ht⟩) hS.2.2 d_Ro_join_65
  have B55 : ∀ (H : Heap) (locs : List Loc) (ls : Array Slot) (σ : St), v = f_Ro_join_55 σ → k_Ro_join_55 σ → lv_has ls 3 [(0, .ref (h 25))] → va_P D classes (Wc ty h σ px) H → va_D A (Wc ty h σ px) → va_S A s.heap H locs → W p l e (headSpec w_Ro_join rm_Ro_join).room s m args below meth c H locs 0 0 (MQ below (va_Qv (fun u : St => u = v) (fun u t => va_P D classes (Wc ty h u px) t.heap) A) args s 0 0 A) (F0 m 55 ls []) := by
    intro H locs ls σ hv hk hl hP hD hS
    unfold f_Ro_join_55 at hv
    unfold k_Ro_join_55 at hk
    refine lv_aload_n hx hb d_Ro_join_55 rfl (lv_at hl 0 rfl) ?_
    refine lv_dup hx hb d_Ro_join_56 rfl ?_
    refine va_get (v := .int (σ.1 25 1)) (C := R_Ro) (T := T_Ro) (N := 2) hx hb hg in_Ro hown hK hP 25 rfl rfl 1 (by decide) (hg _ m_233) (fun _ h9 => h9) rfl d_Ro_join_57 ?_
    refine lv_iconst (v := 1) hx hb d_Ro_join_60 (by decide) ?_
    refine lv_iadd hx hb d_Ro_join_61 ?_
    refine va_put (v := .int ((σ.1 25 1) + 1)) (ty := .int) (C := R_Ro) (T := T_Ro) (N := 2) hx hb hg in_Ro ty_Ro ok_Ro nm_Ro hown hK hP hD hS 25 rfl rfl 1 (by decide) (hg _ m_233) (fun _ h9 => h9) rfl (by decide +kernel) rfl rfl (Nat.le_of_ble_eq_true rfl) d_Ro_join_62 (fun H locs hP hD hS => ?_)
    have hP : va_P D classes (Wc ty h (sF σ 25 1 ((σ.1 25 1) + 1)) px) H := hP
    have hD : va_D A (Wc ty h (sF σ 25 1 ((σ.1 25 1) + 1)) px) := hD
    exact B65 _ _ _  (sF σ 25 1 ((σ.1 25 1) + 1)) hv hk (lv_sub hl [] rfl) hP hD hS
  have B20 : ∀ (n20 : Nat) (H : Heap) (locs : List Loc) (ls : Array Slot) (x1 : Int32) (x2 : Int32) (σ : St), v = f_Ro_join_20 n20 x1 x2 σ → k_Ro_join_20 n20 x1 x2 σ → lv_has ls 3 [(0, .ref (h 25)), (1, .int x1), (2, .int x2)] → va_P D classes (Wc ty h σ px) H → va_D A (Wc ty h σ px) → va_S A s.heap H locs → W p l e (headSpec w_Ro_join rm_Ro_join).room s m args below meth c H locs 0 0 (MQ below (va_Qv (fun u : St => u = v) (fun u t => va_P D classes (Wc ty h u px) t.heap) A) args s 0 0 A) (F0 m 20 ls []) := by
    intro n20
    induction n20 with
    | zero => intro H locs ls x1 x2 σ hv hk hl hP hD hS; exact hk.elim
    | succ n20 ih20 =>
      intro H locs ls x1 x2 σ hv hk hl hP hD hS
      rw [f_Ro_join_20] at hv
      rw [k_Ro_join_20] at hk
      refine lv_iload_n hx hb d_Ro_join_20 rfl (lv_at hl 2 rfl) ?_
      refine lv_aload_n hx hb d_Ro_join_21 rfl (lv_at hl 0 rfl) ?_
      refine va_get (v := .int (σ.1 25 1)) (C := R_Ro) (T := T_Ro) (N := 2) hx hb hg in_Ro hown hK hP 25 rfl rfl 1 (by decide) (hg _ m_233) (fun _ h9 => h9) rfl d_Ro_join_22 ?_
      refine lv_icmp_ge (tgt := 45) hx hb d_Ro_join_25 (by decide) (fun hc => ?_) (fun hc => ?_)
      · have hv := hv.trans (if_pos hc)
        have hk := hk.1 hc
        refine lv_aload_n hx hb d_Ro_join_45 rfl (lv_at hl 0 rfl) ?_
        refine va_get (v := .ref (h 26)) (C := R_Ro) (T := T_Ro) (N := 2) hx hb hg in_Ro hown hK hP 25 rfl rfl 0 (by decide) (hg _ m_232) (fun _ h9 => h9) rfl d_Ro_join_46 ?_
        refine lv_aload_n hx hb d_Ro_join_49 rfl (lv_at hl 0 rfl) ?_
        refine va_get (v := .int (σ.1 25 1)) (C := R_Ro) (T := T_Ro) (N := 2) hx hb hg in_Ro hown hK hP 25 rfl rfl 1 (by decide) (hg _ m_233) (fun _ h9 => h9) rfl d_Ro_join_50 ?_
        refine lv_iload_n hx hb d_Ro_join_53 rfl (lv_at hl 1 rfl) ?_
        obtain ⟨hk0, hk⟩ := hk
        refine va_iast hx hb hK hP hD hS 26 0 rfl rfl hk0 d_Ro_join_54 (fun H locs hP hD hS => ?_)
        have hP : va_P D classes (Wc ty h (sA σ 26 (σ.1 25 1) x1) px) H := hP
        have hD : va_D A (Wc ty h (sA σ 26 (σ.1 25 1) x1) px) := hD
        exact B55 _ _ _  (sA σ 26 (σ.1 25 1) x1) hv hk (lv_sub hl [0] rfl) hP hD hS
      · have hv := hv.trans (if_neg hc)
        have hk := hk.2 hc
        refine lv_aload_n hx hb d_Ro_join_28 rfl (lv_at hl 0 rfl) ?_
        refine va_get (v := .ref (h 26)) (C := R_Ro) (T := T_Ro) (N := 2) hx hb hg in_Ro hown hK hP 25 rfl rfl 0 (by decide) (hg _ m_232) (fun _ h9 => h9) rfl d_Ro_join_29 ?_
        refine lv_iload_n hx hb d_Ro_join_32 rfl (lv_at hl 2 rfl) ?_
        obtain ⟨hk0, hk⟩ := hk
        refine va_iald hx hb hK hP 26 0 rfl rfl hk0 d_Ro_join_33 ?_
        refine lv_iload_n hx hb d_Ro_join_34 rfl (lv_at hl 1 rfl) ?_
        refine lv_icmp_ne (tgt := 39) hx hb d_Ro_join_35 (by decide) (fun hc => ?_) (fun hc => ?_)
        · have hv := hv.trans (if_neg hc)
          have hk := hk.2 hc
          refine lv_iinc (k := 2) (v := x2 + 1) (lv' := [(2, .int (x2 + 1)), (0, .ref (h 25)), (1, .int x1)]) hx hb d_Ro_join_39 hl rfl (by first | rfl | simp [lit1, litm1]) (by decide) rfl (fun ls hl => ?_)
          refine lv_goto (tgt := 20) hx hb d_Ro_join_42 (by decide) ?_
          exact ih20 _ _ _ x1 (x2 + 1) σ hv hk (lv_sub hl [1, 2, 0] rfl) hP hD hS
        · have hv := hv.trans (if_pos hc)
          have hk := hk.1 hc
          exact W.vret hx hb hr (fun t ht hW => ⟨⟨_, rfl, hv.symm, by dsimp only; rw [ht]; exact hP⟩, hS.F ht⟩) hS.2.2 d_Ro_join_38
  unfold f_Ro_join at hv
  unfold k_Ro_join at hk
  refine lv_iload_n hx hb d_Ro_join_0 rfl (lv_at hl 1 rfl) ?_
  refine lv_iconst (v := -1) hx hb d_Ro_join_1 (by decide) ?_
  refine lv_icmp_eq (tgt := 17) hx hb d_Ro_join_2 (by decide) (fun hc => ?_) (fun hc => ?_)
  · have hv := hv.trans (if_pos hc)
    have hk := hk.1 hc
    exact B17 _ _ _  σ hv hk (lv_sub hl [] rfl) hP hD hS
  · have hv := hv.trans (if_neg hc)
    have hk := hk.2 hc
    refine lv_aload_n hx hb d_Ro_join_5 rfl (lv_at hl 0 rfl) ?_
    refine va_get (v := .int (σ.1 25 1)) (C := R_Ro) (T := T_Ro) (N := 2) hx hb hg in_Ro hown hK hP 25 rfl rfl 1 (by decide) (hg _ m_233) (fun _ h9 => h9) rfl d_Ro_join_6 ?_
    refine lv_aload_n hx hb d_Ro_join_9 rfl (lv_at hl 0 rfl) ?_
    refine va_get (v := .ref (h 26)) (C := R_Ro) (T := T_Ro) (N := 2) hx hb hg in_Ro hown hK hP 25 rfl rfl 0 (by decide) (hg _ m_232) (fun _ h9 => h9) rfl d_Ro_join_10 ?_
    refine va_alen (v := 68) hx hb hK hP 26 0 rfl rfl rfl d_Ro_join_13 ?_
    refine lv_icmp_lt (tgt := 18) hx hb d_Ro_join_14 (by decide) (fun hc => ?_) (fun hc => ?_)
    · have hv := hv.trans (if_pos hc)
      have hk := hk.1 hc
      refine lv_iconst (v := 0) hx hb d_Ro_join_18 (by decide) ?_
      refine lv_istore_n (lv' := [(2, .int 0), (0, .ref (h 25)), (1, .int a1)]) hx hb d_Ro_join_19 rfl hl (by decide) rfl (fun ls hl => ?_)
      exact B20 1000 _ _ _ a1 0 σ hv hk (lv_sub hl [1, 2, 0] rfl) hP hD hS
    · have hv := hv.trans (if_neg hc)
      have hk := hk.2 hc
      exact B17 _ _ _  σ hv hk (lv_sub hl [] rfl) hP hD hS

-- ClauseLedger$Scopes.innermost()I
abbrev b_Sc_innermost : ByteArray := prog_7_method_2_code
def y_Sc_innermost : MethodName := ⟨"ClauseLedger$Scopes", "innermost", "()I"⟩
theorem hd_Sc_innermost : y_Sc_innermost.cls ≠ "java/lang/invoke/MethodHandle" ∧ y_Sc_innermost.cls ≠ "java/lang/invoke/VarHandle" ∧ (parseMethodDescriptor y_Sc_innermost.desc).map (fun d => d.parameters.length) = some 0 := by decide +kernel
theorem d_Sc_innermost_0 : decode b_Sc_innermost 0 = .ok (.aload_n 0, 1) := by decide +kernel
theorem d_Sc_innermost_1 : decode b_Sc_innermost 1 = .ok (.getfield 26, 3) := by decide +kernel
theorem d_Sc_innermost_4 : decode b_Sc_innermost 4 = .ok (.ireturn, 1) := by decide +kernel
def f_Sc_innermost (σ : St) : Int32 := σ.1 27 4
def k_Sc_innermost (σ : St) : Prop := True
abbrev w_Sc_innermost : List Cond := Cond.code y_Sc_innermost b_Sc_innermost 1 (some .int) :: gw
abbrev rm_Sc_innermost : Room := { frames := 0, cells := 0, slots := 0, locals := 0 }
set_option maxHeartbeats 4000000 in
set_option maxRecDepth 100000 in
theorem c_Sc_innermost (l : Launch) (D : va_G) (ty : Nat → ClassId) (h : Nat → Nat) (px : va_W) (sa : Nat → Nat) (σ : St) (hk : k_Sc_innermost σ) : Met l y_Sc_innermost w_Sc_innermost rm_Sc_innermost (va_Pc [.ref (h 27)] (fun U => va_P D classes (Wc ty h σ px) U.heap ∧ va_K D classes (Ta ty) U ∧ NW U ∧ MK sa (fun _ => False) U U.heap)) (k2_QcV (.int (f_Sc_innermost σ))) 0 0 (fun _ => False) := by
  refine Met.ofW (cc := b_Sc_innermost) (maxL := 1) (ret := (some .int)) (by decide) rfl ?_
  intro p e s m args below meth c s₁ B hml hv
  obtain ⟨ha, hP, hK, hN, hM⟩ := hv
  have hx := B.exec
  have hb := B.bytes
  have hr := B.returns
  have hg : ∀ w ∈ gw, w.before args s = true := fun w h9 => atoms_spec (ws := w_Sc_innermost) B.pre w (List.mem_cons_of_mem _ h9)
  have hown : s.vm.findClass "ClauseLedger$Scopes" = some m.cls := findClass_of_methodNamed B.named
  have hlocks := B.notSynchronized
  have he : entryFrame m args 1 = entryFrame m ([.ref (h 27)] : List Value).toArray 1 := by rw [ha]
  rw [he, lg_entry_eq]
  have hl := lv_entry ([.ref (h 27)]) (n := 1) (Nat.le_of_ble_eq_true rfl)
  generalize (lg_sl ([.ref (h 27)]) ++ List.replicate (1 - (lg_sl ([.ref (h 27)])).length) Slot.unset).toArray = ls at hl ⊢
  have hl : lv_has ls 1 [(0, .ref (h 27))] := hl
  generalize hv : f_Sc_innermost σ = v
  replace hv := hv.symm
  unfold f_Sc_innermost at hv
  unfold k_Sc_innermost at hk
  refine lv_aload_n hx hb d_Sc_innermost_0 rfl (lv_at hl 0 rfl) ?_
  refine va_get (v := .int (σ.1 27 4)) (C := R_Sc) (T := T_Sc) (N := 5) hx hb hg in_Sc hown hK hP 27 rfl rfl 4 (by decide) (hg _ m_249) (fun _ h9 => h9) rfl d_Sc_innermost_1 ?_
  exact W.iret hx hb hr (fun t ht hW => ⟨by rw [hv], ht⟩) (fun q h => nomatch h) d_Sc_innermost_4

-- ClauseLedger$Row.size()I
abbrev b_Ro_size : ByteArray := prog_6_method_2_code
def y_Ro_size : MethodName := ⟨"ClauseLedger$Row", "size", "()I"⟩
theorem hd_Ro_size : y_Ro_size.cls ≠ "java/lang/invoke/MethodHandle" ∧ y_Ro_size.cls ≠ "java/lang/invoke/VarHandle" ∧ (parseMethodDescriptor y_Ro_size.desc).map (fun d => d.parameters.length) = some 0 := by decide +kernel
theorem d_Ro_size_0 : decode b_Ro_size 0 = .ok (.aload_n 0, 1) := by decide +kernel
theorem d_Ro_size_1 : decode b_Ro_size 1 = .ok (.getfield 15, 3) := by decide +kernel
theorem d_Ro_size_4 : decode b_Ro_size 4 = .ok (.ireturn, 1) := by decide +kernel
def f_Ro_size (σ : St) : Int32 := σ.1 25 1
def k_Ro_size (σ : St) : Prop := True
abbrev w_Ro_size : List Cond := Cond.code y_Ro_size b_Ro_size 1 (some .int) :: gw
abbrev rm_Ro_size : Room := { frames := 0, cells := 0, slots := 0, locals := 0 }
set_option maxHeartbeats 4000000 in
set_option maxRecDepth 100000 in
theorem c_Ro_size (l : Launch) (D : va_G) (ty : Nat → ClassId) (h : Nat → Nat) (px : va_W) (sa : Nat → Nat) (σ : St) (hk : k_Ro_size σ) : Met l y_Ro_size w_Ro_size rm_Ro_size (va_Pc [.ref (h 25)] (fun U => va_P D classes (Wc ty h σ px) U.heap ∧ va_K D classes (Ta ty) U ∧ NW U ∧ MK sa (fun _ => False) U U.heap)) (k2_QcV (.int (f_Ro_size σ))) 0 0 (fun _ => False) := by
  refine Met.ofW (cc := b_Ro_size) (maxL := 1) (ret := (some .int)) (by decide) rfl ?_
  intro p e s m args below meth c s₁ B hml hv
  obtain ⟨ha, hP, hK, hN, hM⟩ := hv
  have hx := B.exec
  have hb := B.bytes
  have hr := B.returns
  have hg : ∀ w ∈ gw, w.before args s = true := fun w h9 => atoms_spec (ws := w_Ro_size) B.pre w (List.mem_cons_of_mem _ h9)
  have hown : s.vm.findClass "ClauseLedger$Row" = some m.cls := findClass_of_methodNamed B.named
  have hlocks := B.notSynchronized
  have he : entryFrame m args 1 = entryFrame m ([.ref (h 25)] : List Value).toArray 1 := by rw [ha]
  rw [he, lg_entry_eq]
  have hl := lv_entry ([.ref (h 25)]) (n := 1) (Nat.le_of_ble_eq_true rfl)
  generalize (lg_sl ([.ref (h 25)]) ++ List.replicate (1 - (lg_sl ([.ref (h 25)])).length) Slot.unset).toArray = ls at hl ⊢
  have hl : lv_has ls 1 [(0, .ref (h 25))] := hl
  generalize hv : f_Ro_size σ = v
  replace hv := hv.symm
  unfold f_Ro_size at hv
  unfold k_Ro_size at hk
  refine lv_aload_n hx hb d_Ro_size_0 rfl (lv_at hl 0 rfl) ?_
  refine va_get (v := .int (σ.1 25 1)) (C := R_Ro) (T := T_Ro) (N := 2) hx hb hg in_Ro hown hK hP 25 rfl rfl 1 (by decide) (hg _ m_233) (fun _ h9 => h9) rfl d_Ro_size_1 ?_
  exact W.iret hx hb hr (fun t ht hW => ⟨by rw [hv], ht⟩) (fun q h => nomatch h) d_Ro_size_4

-- ClauseLedger$Steps.isFull()Z
abbrev b_St_isFull : ByteArray := prog_9_method_3_code
def y_St_isFull : MethodName := ⟨"ClauseLedger$Steps", "isFull", "()Z"⟩
theorem hd_St_isFull : y_St_isFull.cls ≠ "java/lang/invoke/MethodHandle" ∧ y_St_isFull.cls ≠ "java/lang/invoke/VarHandle" ∧ (parseMethodDescriptor y_St_isFull.desc).map (fun d => d.parameters.length) = some 0 := by decide +kernel
theorem d_St_isFull_0 : decode b_St_isFull 0 = .ok (.aload_n 0, 1) := by decide +kernel
theorem d_St_isFull_1 : decode b_St_isFull 1 = .ok (.getfield 25, 3) := by decide +kernel
theorem d_St_isFull_4 : decode b_St_isFull 4 = .ok (.bipush 60, 2) := by decide +kernel
theorem d_St_isFull_6 : decode b_St_isFull 6 = .ok (.if_icmp .lt 7, 3) := by decide +kernel
theorem d_St_isFull_9 : decode b_St_isFull 9 = .ok (.iconst 1, 1) := by decide +kernel
theorem d_St_isFull_10 : decode b_St_isFull 10 = .ok (.goto 4, 3) := by decide +kernel
theorem d_St_isFull_13 : decode b_St_isFull 13 = .ok (.iconst 0, 1) := by decide +kernel
theorem d_St_isFull_14 : decode b_St_isFull 14 = .ok (.ireturn, 1) := by decide +kernel
def f_St_isFull_14 (s0 : Int32) (σ : St) : Int32 := s0
def k_St_isFull_14 (s0 : Int32) (σ : St) : Prop := (narrow .boolean (.int s0) = .int s0) ∧ True
def f_St_isFull (σ : St) : Int32 := if (σ.1 31 4) < 60 then (f_St_isFull_14 0 σ) else (f_St_isFull_14 1 σ)
def k_St_isFull (σ : St) : Prop := ((σ.1 31 4) < 60 → (k_St_isFull_14 0 σ)) ∧ (¬ (σ.1 31 4) < 60 → (k_St_isFull_14 1 σ))
abbrev w_St_isFull : List Cond := Cond.code y_St_isFull b_St_isFull 1 (some .boolean) :: gw
abbrev rm_St_isFull : Room := { frames := 0, cells := 0, slots := 0, locals := 0 }
set_option maxHeartbeats 4000000 in
set_option maxRecDepth 100000 in
theorem c_St_isFull (l : Launch) (D : va_G) (ty : Nat → ClassId) (h : Nat → Nat) (px : va_W) (sa : Nat → Nat) (σ : St) (hk : k_St_isFull σ) : Met l y_St_isFull w_St_isFull rm_St_isFull (va_Pc [.ref (h 31)] (fun U => va_P D classes (Wc ty h σ px) U.heap ∧ va_K D classes (Ta ty) U ∧ NW U ∧ MK sa (fun _ => False) U U.heap)) (k2_QcV (.int (f_St_isFull σ))) 0 0 (fun _ => False) := by
  refine Met.ofW (cc := b_St_isFull) (maxL := 1) (ret := (some .boolean)) (by decide) rfl ?_
  intro p e s m args below meth c s₁ B hml hv
  obtain ⟨ha, hP, hK, hN, hM⟩ := hv
  have hx := B.exec
  have hb := B.bytes
  have hr := B.returns
  have hg : ∀ w ∈ gw, w.before args s = true := fun w h9 => atoms_spec (ws := w_St_isFull) B.pre w (List.mem_cons_of_mem _ h9)
  have hown : s.vm.findClass "ClauseLedger$Steps" = some m.cls := findClass_of_methodNamed B.named
  have hlocks := B.notSynchronized
  have he : entryFrame m args 1 = entryFrame m ([.ref (h 31)] : List Value).toArray 1 := by rw [ha]
  rw [he, lg_entry_eq]
  have hl := lv_entry ([.ref (h 31)]) (n := 1) (Nat.le_of_ble_eq_true rfl)
  generalize (lg_sl ([.ref (h 31)]) ++ List.replicate (1 - (lg_sl ([.ref (h 31)])).length) Slot.unset).toArray = ls at hl ⊢
  have hl : lv_has ls 1 [(0, .ref (h 31))] := hl
  generalize hv : f_St_isFull σ = v
  replace hv := hv.symm
  have B14 : ∀ (ls : Array Slot) (s0 : Int32), v = f_St_isFull_14 s0 σ → k_St_isFull_14 s0 σ → lv_has ls 1 [] → W p l e (headSpec w_St_isFull rm_St_isFull).room s m args below meth c s.heap [] 0 0 (MQ below (k2_QcV (.int v)) args s 0 0 (fun _ => False)) (F0 m 14 ls [.int s0]) := by
    intro ls s0 hv hk hl
    unfold f_St_isFull_14 at hv
    unfold k_St_isFull_14 at hk
    obtain ⟨hk0, hk⟩ := hk
    exact W.zret hx hb hr hk0 (fun t ht hW => ⟨by rw [hv], ht⟩) (fun q h => nomatch h) d_St_isFull_14
  unfold f_St_isFull at hv
  unfold k_St_isFull at hk
  refine lv_aload_n hx hb d_St_isFull_0 rfl (lv_at hl 0 rfl) ?_
  refine va_get (v := .int (σ.1 31 4)) (C := R_St) (T := T_St) (N := 5) hx hb hg in_St hown hK hP 31 rfl rfl 4 (by decide) (hg _ m_272) (fun _ h9 => h9) rfl d_St_isFull_1 ?_
  refine lv_bipush (v := 60) hx hb d_St_isFull_4 (by decide) ?_
  refine lv_icmp_lt (tgt := 13) hx hb d_St_isFull_6 (by decide) (fun hc => ?_) (fun hc => ?_)
  · have hv := hv.trans (if_pos hc)
    have hk := hk.1 hc
    refine lv_iconst (v := 0) hx hb d_St_isFull_13 (by decide) ?_
    exact B14 _ 0 hv hk (lv_sub hl [] rfl)
  · have hv := hv.trans (if_neg hc)
    have hk := hk.2 hc
    refine lv_iconst (v := 1) hx hb d_St_isFull_9 (by decide) ?_
    refine lv_goto (tgt := 14) hx hb d_St_isFull_10 (by decide) ?_
    exact B14 _ 1 hv hk (lv_sub hl [] rfl)

-- ClauseLedger$Row.truth(I)I
abbrev b_Ro_truth : ByteArray := prog_6_method_3_code
def y_Ro_truth : MethodName := ⟨"ClauseLedger$Row", "truth", "(I)I"⟩
theorem hd_Ro_truth : y_Ro_truth.cls ≠ "java/lang/invoke/MethodHandle" ∧ y_Ro_truth.cls ≠ "java/lang/invoke/VarHandle" ∧ (parseMethodDescriptor y_Ro_truth.desc).map (fun d => d.parameters.length) = some 1 := by decide +kernel
theorem d_Ro_truth_0 : decode b_Ro_truth 0 = .ok (.iload_n 1, 1) := by decide +kernel
theorem d_Ro_truth_1 : decode b_Ro_truth 1 = .ok (.ifCond .lt 20, 3) := by decide +kernel
theorem d_Ro_truth_4 : decode b_Ro_truth 4 = .ok (.iload_n 1, 1) := by decide +kernel
theorem d_Ro_truth_5 : decode b_Ro_truth 5 = .ok (.aload_n 0, 1) := by decide +kernel
theorem d_Ro_truth_6 : decode b_Ro_truth 6 = .ok (.getfield 15, 3) := by decide +kernel
theorem d_Ro_truth_9 : decode b_Ro_truth 9 = .ok (.if_icmp .ge 12, 3) := by decide +kernel
theorem d_Ro_truth_12 : decode b_Ro_truth 12 = .ok (.aload_n 0, 1) := by decide +kernel
theorem d_Ro_truth_13 : decode b_Ro_truth 13 = .ok (.getfield 9, 3) := by decide +kernel
theorem d_Ro_truth_16 : decode b_Ro_truth 16 = .ok (.iload_n 1, 1) := by decide +kernel
theorem d_Ro_truth_17 : decode b_Ro_truth 17 = .ok (.iaload, 1) := by decide +kernel
theorem d_Ro_truth_18 : decode b_Ro_truth 18 = .ok (.goto 4, 3) := by decide +kernel
theorem d_Ro_truth_21 : decode b_Ro_truth 21 = .ok (.iconst (-1), 1) := by decide +kernel
theorem d_Ro_truth_22 : decode b_Ro_truth 22 = .ok (.ireturn, 1) := by decide +kernel
def f_Ro_truth_22 (s0 : Int32) (σ : St) : Int32 := s0
def k_Ro_truth_22 (s0 : Int32) (σ : St) : Prop := True
def f_Ro_truth_21 (σ : St) : Int32 := f_Ro_truth_22 (-1) σ
def k_Ro_truth_21 (σ : St) : Prop := k_Ro_truth_22 (-1) σ
def f_Ro_truth (a1 : Int32) (σ : St) : Int32 := if a1 < 0 then (f_Ro_truth_21 σ) else (if (σ.1 25 1) ≤ a1 then (f_Ro_truth_21 σ) else (f_Ro_truth_22 (σ.1 26 a1.toNatClampNeg) σ))
def k_Ro_truth (a1 : Int32) (σ : St) : Prop := (a1 < 0 → (k_Ro_truth_21 σ)) ∧ (¬ a1 < 0 → (((σ.1 25 1) ≤ a1 → (k_Ro_truth_21 σ)) ∧ (¬ (σ.1 25 1) ≤ a1 → (vp_in a1 68 ∧ (k_Ro_truth_22 (σ.1 26 a1.toNatClampNeg) σ)))))
abbrev w_Ro_truth : List Cond := Cond.code y_Ro_truth b_Ro_truth 2 (some .int) :: gw
abbrev rm_Ro_truth : Room := { frames := 0, cells := 0, slots := 0, locals := 0 }
set_option maxHeartbeats 4000000 in
set_option maxRecDepth 100000 in
theorem c_Ro_truth (l : Launch) (D : va_G) (ty : Nat → ClassId) (h : Nat → Nat) (px : va_W) (sa : Nat → Nat) (σ : St) (a1 : Int32) (hk : k_Ro_truth a1 σ) : Met l y_Ro_truth w_Ro_truth rm_Ro_truth (va_Pc [.ref (h 25), .int a1] (fun U => va_P D classes (Wc ty h σ px) U.heap ∧ va_K D classes (Ta ty) U ∧ NW U ∧ MK sa (fun _ => False) U U.heap)) (k2_QcV (.int (f_Ro_truth a1 σ))) 0 0 (fun _ => False) := by
  refine Met.ofW (cc := b_Ro_truth) (maxL := 2) (ret := (some .int)) (by decide) rfl ?_
  intro p e s m args below meth c s₁ B hml hv
  obtain ⟨ha, hP, hK, hN, hM⟩ := hv
  have hx := B.exec
  have hb := B.bytes
  have hr := B.returns
  have hg : ∀ w ∈ gw, w.before args s = true := fun w h9 => atoms_spec (ws := w_Ro_truth) B.pre w (List.mem_cons_of_mem _ h9)
  have hown : s.vm.findClass "ClauseLedger$Row" = some m.cls := findClass_of_methodNamed B.named
  have hlocks := B.notSynchronized
  have he : entryFrame m args 2 = entryFrame m ([.ref (h 25), .int a1] : List Value).toArray 2 := by rw [ha]
  rw [he, lg_entry_eq]
  have hl := lv_entry ([.ref (h 25), .int a1]) (n := 2) (Nat.le_of_ble_eq_true rfl)
  generalize (lg_sl ([.ref (h 25), .int a1]) ++ List.replicate (2 - (lg_sl ([.ref (h 25), .int a1])).length) Slot.unset).toArray = ls at hl ⊢
  have hl : lv_has ls 2 [(0, .ref (h 25)), (1, .int a1)] := hl
  generalize hv : f_Ro_truth a1 σ = v
  replace hv := hv.symm
  have B22 : ∀ (ls : Array Slot) (s0 : Int32), v = f_Ro_truth_22 s0 σ → k_Ro_truth_22 s0 σ → lv_has ls 2 [] → W p l e (headSpec w_Ro_truth rm_Ro_truth).room s m args below meth c s.heap [] 0 0 (MQ below (k2_QcV (.int v)) args s 0 0 (fun _ => False)) (F0 m 22 ls [.int s0]) := by
    intro ls s0 hv hk hl
    unfold f_Ro_truth_22 at hv
    unfold k_Ro_truth_22 at hk
    exact W.iret hx hb hr (fun t ht hW => ⟨by rw [hv], ht⟩) (fun q h => nomatch h) d_Ro_truth_22
  have B21 : ∀ (ls : Array Slot), v = f_Ro_truth_21 σ → k_Ro_truth_21 σ → lv_has ls 2 [] → W p l e (headSpec w_Ro_truth rm_Ro_truth).room s m args below meth c s.heap [] 0 0 (MQ below (k2_QcV (.int v)) args s 0 0 (fun _ => False)) (F0 m 21 ls []) := by
    intro ls hv hk hl
    unfold f_Ro_truth_21 at hv
    unfold k_Ro_truth_21 at hk
    refine lv_iconst (v := -1) hx hb d_Ro_truth_21 (by decide) ?_
    exact B22 _ (-1) hv hk (lv_sub hl [] rfl)
  unfold f_Ro_truth at hv
  unfold k_Ro_truth at hk
  refine lv_iload_n hx hb d_Ro_truth_0 rfl (lv_at hl 1 rfl) ?_
  refine lv_if_lt (tgt := 21) hx hb d_Ro_truth_1 (by decide) (fun hc => ?_) (fun hc => ?_)
  · have hv := hv.trans (if_pos hc)
    have hk := hk.1 hc
    exact B21 _  hv hk (lv_sub hl [] rfl)
  · have hv := hv.trans (if_neg hc)
    have hk := hk.2 hc
    refine lv_iload_n hx hb d_Ro_truth_4 rfl (lv_at hl 1 rfl) ?_
    refine lv_aload_n hx hb d_Ro_truth_5 rfl (lv_at hl 0 rfl) ?_
    refine va_get (v := .int (σ.1 25 1)) (C := R_Ro) (T := T_Ro) (N := 2) hx hb hg in_Ro hown hK hP 25 rfl rfl 1 (by decide) (hg _ m_233) (fun _ h9 => h9) rfl d_Ro_truth_6 ?_
    refine lv_icmp_ge (tgt := 21) hx hb d_Ro_truth_9 (by decide) (fun hc => ?_) (fun hc => ?_)
    · have hv := hv.trans (if_pos hc)
      have hk := hk.1 hc
      exact B21 _  hv hk (lv_sub hl [] rfl)
    · have hv := hv.trans (if_neg hc)
      have hk := hk.2 hc
      refine lv_aload_n hx hb d_Ro_truth_12 rfl (lv_at hl 0 rfl) ?_
      refine va_get (v := .ref (h 26)) (C := R_Ro) (T := T_Ro) (N := 2) hx hb hg in_Ro hown hK hP 25 rfl rfl 0 (by decide) (hg _ m_232) (fun _ h9 => h9) rfl d_Ro_truth_13 ?_
      refine lv_iload_n hx hb d_Ro_truth_16 rfl (lv_at hl 1 rfl) ?_
      obtain ⟨hk0, hk⟩ := hk
      refine va_iald hx hb hK hP 26 0 rfl rfl hk0 d_Ro_truth_17 ?_
      refine lv_goto (tgt := 22) hx hb d_Ro_truth_18 (by decide) ?_
      exact B22 _ (σ.1 26 a1.toNatClampNeg) hv hk (lv_sub hl [] rfl)

-- ClauseLedger$Steps.add(LClauseLedger$Row;IZ)I
abbrev b_St_add : ByteArray := prog_9_method_11_code
def y_St_add : MethodName := ⟨"ClauseLedger$Steps", "add", "(LClauseLedger$Row;IZ)I"⟩
theorem hd_St_add : y_St_add.cls ≠ "java/lang/invoke/MethodHandle" ∧ y_St_add.cls ≠ "java/lang/invoke/VarHandle" ∧ (parseMethodDescriptor y_St_add.desc).map (fun d => d.parameters.length) = some 3 := by decide +kernel
theorem d_St_add_0 : decode b_St_add 0 = .ok (.aload_n 0, 1) := by decide +kernel
theorem d_St_add_1 : decode b_St_add 1 = .ok (.invokevirtual 41, 3) := by decide +kernel
theorem d_St_add_4 : decode b_St_add 4 = .ok (.ifCond .eq 5, 3) := by decide +kernel
theorem d_St_add_7 : decode b_St_add 7 = .ok (.iconst (-1), 1) := by decide +kernel
theorem d_St_add_8 : decode b_St_add 8 = .ok (.ireturn, 1) := by decide +kernel
theorem d_St_add_9 : decode b_St_add 9 = .ok (.aload_n 0, 1) := by decide +kernel
theorem d_St_add_10 : decode b_St_add 10 = .ok (.getfield 25, 3) := by decide +kernel
theorem d_St_add_13 : decode b_St_add 13 = .ok (.istore 4, 2) := by decide +kernel
theorem d_St_add_15 : decode b_St_add 15 = .ok (.aload_n 1, 1) := by decide +kernel
theorem d_St_add_16 : decode b_St_add 16 = .ok (.invokevirtual 45, 3) := by decide +kernel
theorem d_St_add_19 : decode b_St_add 19 = .ok (.bipush 8, 2) := by decide +kernel
theorem d_St_add_21 : decode b_St_add 21 = .ok (.invokestatic 51, 3) := by decide +kernel
theorem d_St_add_24 : decode b_St_add 24 = .ok (.istore 5, 2) := by decide +kernel
theorem d_St_add_26 : decode b_St_add 26 = .ok (.iconst 0, 1) := by decide +kernel
theorem d_St_add_27 : decode b_St_add 27 = .ok (.istore 6, 2) := by decide +kernel
theorem d_St_add_29 : decode b_St_add 29 = .ok (.iload 6, 2) := by decide +kernel
theorem d_St_add_31 : decode b_St_add 31 = .ok (.iload 5, 2) := by decide +kernel
theorem d_St_add_33 : decode b_St_add 33 = .ok (.if_icmp .ge 28, 3) := by decide +kernel
theorem d_St_add_36 : decode b_St_add 36 = .ok (.aload_n 0, 1) := by decide +kernel
theorem d_St_add_37 : decode b_St_add 37 = .ok (.getfield 9, 3) := by decide +kernel
theorem d_St_add_40 : decode b_St_add 40 = .ok (.iload 4, 2) := by decide +kernel
theorem d_St_add_42 : decode b_St_add 42 = .ok (.bipush 8, 2) := by decide +kernel
theorem d_St_add_44 : decode b_St_add 44 = .ok (.imul, 1) := by decide +kernel
theorem d_St_add_45 : decode b_St_add 45 = .ok (.iload 6, 2) := by decide +kernel
theorem d_St_add_47 : decode b_St_add 47 = .ok (.iadd, 1) := by decide +kernel
theorem d_St_add_48 : decode b_St_add 48 = .ok (.aload_n 1, 1) := by decide +kernel
theorem d_St_add_49 : decode b_St_add 49 = .ok (.iload 6, 2) := by decide +kernel
theorem d_St_add_51 : decode b_St_add 51 = .ok (.invokevirtual 56, 3) := by decide +kernel
theorem d_St_add_54 : decode b_St_add 54 = .ok (.iastore, 1) := by decide +kernel
theorem d_St_add_55 : decode b_St_add 55 = .ok (.iinc 6 1, 3) := by decide +kernel
theorem d_St_add_58 : decode b_St_add 58 = .ok (.goto (-29), 3) := by decide +kernel
theorem d_St_add_61 : decode b_St_add 61 = .ok (.aload_n 0, 1) := by decide +kernel
theorem d_St_add_62 : decode b_St_add 62 = .ok (.getfield 15, 3) := by decide +kernel
theorem d_St_add_65 : decode b_St_add 65 = .ok (.iload 4, 2) := by decide +kernel
theorem d_St_add_67 : decode b_St_add 67 = .ok (.iload 5, 2) := by decide +kernel
theorem d_St_add_69 : decode b_St_add 69 = .ok (.iastore, 1) := by decide +kernel
theorem d_St_add_70 : decode b_St_add 70 = .ok (.aload_n 0, 1) := by decide +kernel
theorem d_St_add_71 : decode b_St_add 71 = .ok (.getfield 18, 3) := by decide +kernel
theorem d_St_add_74 : decode b_St_add 74 = .ok (.iload 4, 2) := by decide +kernel
theorem d_St_add_76 : decode b_St_add 76 = .ok (.iload_n 2, 1) := by decide +kernel
theorem d_St_add_77 : decode b_St_add 77 = .ok (.iastore, 1) := by decide +kernel
theorem d_St_add_78 : decode b_St_add 78 = .ok (.aload_n 0, 1) := by decide +kernel
theorem d_St_add_79 : decode b_St_add 79 = .ok (.getfield 21, 3) := by decide +kernel
theorem d_St_add_82 : decode b_St_add 82 = .ok (.iload 4, 2) := by decide +kernel
theorem d_St_add_84 : decode b_St_add 84 = .ok (.iload_n 3, 1) := by decide +kernel
theorem d_St_add_85 : decode b_St_add 85 = .ok (.bastore, 1) := by decide +kernel
theorem d_St_add_86 : decode b_St_add 86 = .ok (.aload_n 0, 1) := by decide +kernel
theorem d_St_add_87 : decode b_St_add 87 = .ok (.dup, 1) := by decide +kernel
theorem d_St_add_88 : decode b_St_add 88 = .ok (.getfield 25, 3) := by decide +kernel
theorem d_St_add_91 : decode b_St_add 91 = .ok (.iconst 1, 1) := by decide +kernel
theorem d_St_add_92 : decode b_St_add 92 = .ok (.iadd, 1) := by decide +kernel
theorem d_St_add_93 : decode b_St_add 93 = .ok (.putfield 25, 3) := by decide +kernel
theorem d_St_add_96 : decode b_St_add 96 = .ok (.iload 4, 2) := by decide +kernel
theorem d_St_add_98 : decode b_St_add 98 = .ok (.ireturn, 1) := by decide +kernel
def f_St_add_55 (F29 : (Int32 → Int32 → Int32 → Int32 → Int32 → St → Int32 × St)) (x2 : Int32) (x3 : Int32) (x4 : Int32) (x5 : Int32) (x6 : Int32) (σ : St) : Int32 × St := F29 x2 x3 x4 x5 (x6 + 1) σ
def k_St_add_55 (K29 : (Int32 → Int32 → Int32 → Int32 → Int32 → St → Prop)) (x2 : Int32) (x3 : Int32) (x4 : Int32) (x5 : Int32) (x6 : Int32) (σ : St) : Prop := K29 x2 x3 x4 x5 (x6 + 1) σ
def f_St_add_96 (x4 : Int32) (σ : St) : Int32 × St := (x4, σ)
def k_St_add_96 (x4 : Int32) (σ : St) : Prop := True
def f_St_add_86 (x4 : Int32) (σ : St) : Int32 × St := f_St_add_96 x4 (sF σ 31 4 ((σ.1 31 4) + 1))
def k_St_add_86 (x4 : Int32) (σ : St) : Prop := k_St_add_96 x4 (sF σ 31 4 ((σ.1 31 4) + 1))
def f_St_add_78 (x3 : Int32) (x4 : Int32) (σ : St) : Int32 × St := f_St_add_86 x4 (sA σ 35 x4 (vp_nar .boolean x3))
def k_St_add_78 (x3 : Int32) (x4 : Int32) (σ : St) : Prop := vp_in x4 60 ∧ (k_St_add_86 x4 (sA σ 35 x4 (vp_nar .boolean x3)))
def f_St_add_70 (x2 : Int32) (x3 : Int32) (x4 : Int32) (σ : St) : Int32 × St := f_St_add_78 x3 x4 (sA σ 34 x4 x2)
def k_St_add_70 (x2 : Int32) (x3 : Int32) (x4 : Int32) (σ : St) : Prop := vp_in x4 60 ∧ (k_St_add_78 x3 x4 (sA σ 34 x4 x2))
def f_St_add_29 : Nat → Int32 → Int32 → Int32 → Int32 → Int32 → St → Int32 × St
  | 0, _, _, _, _, _, σ => (0, σ)
  | n + 1, x2, x3, x4, x5, x6, σ => if x5 ≤ x6 then (f_St_add_70 x2 x3 x4 (sA σ 33 x4 x5)) else (f_St_add_55 (f_St_add_29 n) x2 x3 x4 x5 x6 (sA σ 32 ((x4 * 8) + x6) (f_Ro_truth x6 σ)))
def k_St_add_29 : Nat → Int32 → Int32 → Int32 → Int32 → Int32 → St → Prop
  | 0, _, _, _, _, _, _ => False
  | n + 1, x2, x3, x4, x5, x6, σ => (x5 ≤ x6 → (vp_in x4 60 ∧ (k_St_add_70 x2 x3 x4 (sA σ 33 x4 x5)))) ∧ (¬ x5 ≤ x6 → ((k_Ro_truth x6 σ) ∧ (vp_in ((x4 * 8) + x6) 480 ∧ (k_St_add_55 (k_St_add_29 n) x2 x3 x4 x5 x6 (sA σ 32 ((x4 * 8) + x6) (f_Ro_truth x6 σ))))))
def f_St_add_26 (x2 : Int32) (x3 : Int32) (x4 : Int32) (x5 : Int32) (σ : St) : Int32 × St := f_St_add_29 1000 x2 x3 x4 x5 0 σ
def k_St_add_26 (x2 : Int32) (x3 : Int32) (x4 : Int32) (x5 : Int32) (σ : St) : Prop := k_St_add_29 1000 x2 x3 x4 x5 0 σ
def f_St_add_15 (x2 : Int32) (x3 : Int32) (x4 : Int32) (σ : St) : Int32 × St := f_St_add_26 x2 x3 x4 (if 8 < (f_Ro_size σ) then 8 else (f_Ro_size σ)) σ
def k_St_add_15 (x2 : Int32) (x3 : Int32) (x4 : Int32) (σ : St) : Prop := (k_Ro_size σ) ∧ (k_St_add_26 x2 x3 x4 (if 8 < (f_Ro_size σ) then 8 else (f_Ro_size σ)) σ)
def f_St_add (a2 : Int32) (a3 : Int32) (σ : St) : Int32 × St := if (f_St_isFull σ) = 0 then (f_St_add_15 a2 a3 (σ.1 31 4) σ) else ((-1), σ)
def k_St_add (a2 : Int32) (a3 : Int32) (σ : St) : Prop := (k_St_isFull σ) ∧ (((f_St_isFull σ) = 0 → (k_St_add_15 a2 a3 (σ.1 31 4) σ)) ∧ (¬ (f_St_isFull σ) = 0 → True))
abbrev w_St_add : List Cond := Cond.code y_St_add b_St_add 7 (some .int) :: gw
abbrev rm_St_add : Room := { frames := 1, cells := 0, slots := 0, locals := 21 }
set_option maxHeartbeats 4000000 in
set_option maxRecDepth 100000 in
theorem c_St_add (l : Launch) (D : va_G) (ty : Nat → ClassId) (h : Nat → Nat) (px : va_W) (sa : Nat → Nat) (σ : St) (sz : Nat) (a2 : Int32) (a3 : Int32) (hk : k_St_add a2 a3 σ) : Met l y_St_add w_St_add rm_St_add (va_Pc [.ref (h 31), .ref (h 25), .int a2, .int a3] (fun U => U.heap.size = sz ∧ va_P D classes (Wc ty h σ px) U.heap ∧ va_K D classes (Ta ty) U ∧ NW U ∧ MK sa (va_A (Wc ty h σ px) sz) U U.heap ∧ va_D (fun _ => True) (Wc ty h σ px))) (va_Qi (fun r (u : St) => (r, u) = f_St_add a2 a3 σ) (fun u t => va_P D classes (Wc ty h u px) t.heap) (va_A (Wc ty h σ px) sz)) 0 0 (va_A (Wc ty h σ px) sz) := by
  refine Met.ofW (cc := b_St_add) (maxL := 7) (ret := (some .int)) (by decide) rfl ?_
  intro p e s m args below meth c s₁ B hml hv
  obtain ⟨ha, hsz, hP, hK, hN, hM, hD0⟩ := hv
  have hx := B.exec
  have hb := B.bytes
  have hr := B.returns
  have hg : ∀ w ∈ gw, w.before args s = true := fun w h9 => atoms_spec (ws := w_St_add) B.pre w (List.mem_cons_of_mem _ h9)
  have hown : s.vm.findClass "ClauseLedger$Steps" = some m.cls := findClass_of_methodNamed B.named
  have hlocks := B.notSynchronized
  subst hsz
  have hD := hD0.self (sz := s.heap.size)
  generalize hAe : va_A (Wc ty h σ px) s.heap.size = A at hD hM ⊢
  have hA : ∀ q : Nat, s.heap.size ≤ q → A q := fun q h9 => by rw [← hAe]; exact Or.inr h9
  have hS : va_S A s.heap s.heap [] := va_S.rf
  have he : entryFrame m args 7 = entryFrame m ([.ref (h 31), .ref (h 25), .int a2, .int a3] : List Value).toArray 7 := by rw [ha]
  rw [he, lg_entry_eq]
  have hl := lv_entry ([.ref (h 31), .ref (h 25), .int a2, .int a3]) (n := 7) (Nat.le_of_ble_eq_true rfl)
  generalize (lg_sl ([.ref (h 31), .ref (h 25), .int a2, .int a3]) ++ List.replicate (7 - (lg_sl ([.ref (h 31), .ref (h 25), .int a2, .int a3])).length) Slot.unset).toArray = ls at hl ⊢
  have hl : lv_has ls 7 [(0, .ref (h 31)), (1, .ref (h 25)), (2, .int a2), (3, .int a3)] := hl
  generalize hv : f_St_add a2 a3 σ = v
  replace hv := hv.symm
  have B96 : ∀ (H : Heap) (locs : List Loc) (ls : Array Slot) (x4 : Int32) (σ : St), v = f_St_add_96 x4 σ → k_St_add_96 x4 σ → lv_has ls 7 [(4, .int x4)] → va_P D classes (Wc ty h σ px) H → va_D A (Wc ty h σ px) → va_S A s.heap H locs → W p l e (headSpec w_St_add rm_St_add).room s m args below meth c H locs 0 0 (MQ below (va_Qi (fun r (u : St) => (r, u) = v) (fun u t => va_P D classes (Wc ty h u px) t.heap) A) args s 0 0 A) (F0 m 96 ls []) := by
    intro H locs ls x4 σ hv hk hl hP hD hS
    unfold f_St_add_96 at hv
    unfold k_St_add_96 at hk
    refine lv_iload hx hb d_St_add_96 (lv_at hl 0 rfl) ?_
    exact W.iret hx hb hr (fun t ht hW => ⟨⟨_, _, rfl, hv.symm, by dsimp only; rw [ht]; exact hP⟩, hS.F ht⟩) hS.2.2 d_St_add_98
  have B86 : ∀ (H : Heap) (locs : List Loc) (ls : Array Slot) (x4 : Int32) (σ : St), v = f_St_add_86 x4 σ → k_St_add_86 x4 σ → lv_has ls 7 [(0, .ref (h 31)), (4, .int x4)] → va_P D classes (Wc ty h σ px) H → va_D A (Wc ty h σ px) → va_S A s.heap H locs → W p l e (headSpec w_St_add rm_St_add).room s m args below meth c H locs 0 0 (MQ below (va_Qi (fun r (u : St) => (r, u) = v) (fun u t => va_P D classes (Wc ty h u px) t.heap) A) args s 0 0 A) (F0 m 86 ls []) := by
    intro H locs ls x4 σ hv hk hl hP hD hS
    unfold f_St_add_86 at hv
    unfold k_St_add_86 at hk
    refine lv_aload_n hx hb d_St_add_86 rfl (lv_at hl 0 rfl) ?_
    refine lv_dup hx hb d_St_add_87 rfl ?_
    refine va_get (v := .int (σ.1 31 4)) (C := R_St) (T := T_St) (N := 5) hx hb hg in_St hown hK hP 31 rfl rfl 4 (by decide) (hg _ m_272) (fun _ h9 => h9) rfl d_St_add_88 ?_
    refine lv_iconst (v := 1) hx hb d_St_add_91 (by decide) ?_
    refine lv_iadd hx hb d_St_add_92 ?_
    refine va_put (v := .int ((σ.1 31 4) + 1)) (ty := .int) (C := R_St) (T := T_St) (N := 5) hx hb hg in_St ty_St ok_St nm_St hown hK hP hD hS 31 rfl rfl 4 (by decide) (hg _ m_272) (fun _ h9 => h9) rfl (by decide +kernel) rfl rfl (Nat.le_of_ble_eq_true rfl) d_St_add_93 (fun H locs hP hD hS => ?_)
    have hP : va_P D classes (Wc ty h (sF σ 31 4 ((σ.1 31 4) + 1)) px) H := hP
    have hD : va_D A (Wc ty h (sF σ 31 4 ((σ.1 31 4) + 1)) px) := hD
    exact B96 _ _ _ x4 (sF σ 31 4 ((σ.1 31 4) + 1)) hv hk (lv_sub hl [1] rfl) hP hD hS
  have B78 : ∀ (H : Heap) (locs : List Loc) (ls : Array Slot) (x3 : Int32) (x4 : Int32) (σ : St), v = f_St_add_78 x3 x4 σ → k_St_add_78 x3 x4 σ → lv_has ls 7 [(0, .ref (h 31)), (3, .int x3), (4, .int x4)] → va_P D classes (Wc ty h σ px) H → va_D A (Wc ty h σ px) → va_S A s.heap H locs → W p l e (headSpec w_St_add rm_St_add).room s m args below meth c H locs 0 0 (MQ below (va_Qi (fun r (u : St) => (r, u) = v) (fun u t => va_P D classes (Wc ty h u px) t.heap) A) args s 0 0 A) (F0 m 78 ls []) := by
    intro H locs ls x3 x4 σ hv hk hl hP hD hS
    unfold f_St_add_78 at hv
    unfold k_St_add_78 at hk
    refine lv_aload_n hx hb d_St_add_78 rfl (lv_at hl 0 rfl) ?_
    refine va_get (v := .ref (h 35)) (C := R_St) (T := T_St) (N := 5) hx hb hg in_St hown hK hP 31 rfl rfl 3 (by decide) (hg _ m_271) (fun _ h9 => h9) rfl d_St_add_79 ?_
    refine lv_iload hx hb d_St_add_82 (lv_at hl 2 rfl) ?_
    refine lv_iload_n hx hb d_St_add_84 rfl (lv_at hl 1 rfl) ?_
    obtain ⟨hk0, hk⟩ := hk
    refine va_zast hx hb hK hP hD hS 35 3 rfl rfl hk0 d_St_add_85 (fun H locs hP hD hS => ?_)
    have hP : va_P D classes (Wc ty h (sA σ 35 x4 (vp_nar .boolean x3)) px) H := hP
    have hD : va_D A (Wc ty h (sA σ 35 x4 (vp_nar .boolean x3)) px) := hD
    exact B86 _ _ _ x4 (sA σ 35 x4 (vp_nar .boolean x3)) hv hk (lv_sub hl [0, 2] rfl) hP hD hS
  have B70 : ∀ (H : Heap) (locs : List Loc) (ls : Array Slot) (x2 : Int32) (x3 : Int32) (x4 : Int32) (σ : St), v = f_St_add_70 x2 x3 x4 σ → k_St_add_70 x2 x3 x4 σ → lv_has ls 7 [(0, .ref (h 31)), (2, .int x2), (3, .int x3), (4, .int x4)] → va_P D classes (Wc ty h σ px) H → va_D A (Wc ty h σ px) → va_S A s.heap H locs → W p l e (headSpec w_St_add rm_St_add).room s m args below meth c H locs 0 0 (MQ below (va_Qi (fun r (u : St) => (r, u) = v) (fun u t => va_P D classes (Wc ty h u px) t.heap) A) args s 0 0 A) (F0 m 70 ls []) := by
    intro H locs ls x2 x3 x4 σ hv hk hl hP hD hS
    unfold f_St_add_70 at hv
    unfold k_St_add_70 at hk
    refine lv_aload_n hx hb d_St_add_70 rfl (lv_at hl 0 rfl) ?_
    refine va_get (v := .ref (h 34)) (C := R_St) (T := T_St) (N := 5) hx hb hg in_St hown hK hP 31 rfl rfl 2 (by decide) (hg _ m_270) (fun _ h9 => h9) rfl d_St_add_71 ?_
    refine lv_iload hx hb d_St_add_74 (lv_at hl 3 rfl) ?_
    refine lv_iload_n hx hb d_St_add_76 rfl (lv_at hl 1 rfl) ?_
    obtain ⟨hk0, hk⟩ := hk
    refine va_iast hx hb hK hP hD hS 34 0 rfl rfl hk0 d_St_add_77 (fun H locs hP hD hS => ?_)
    have hP : va_P D classes (Wc ty h (sA σ 34 x4 x2) px) H := hP
    have hD : va_D A (Wc ty h (sA σ 34 x4 x2) px) := hD
    exact B78 _ _ _ x3 x4 (sA σ 34 x4 x2) hv hk (lv_sub hl [0, 2, 3] rfl) hP hD hS
  have B29 : ∀ (n29 : Nat) (H : Heap) (locs : List Loc) (ls : Array Slot) (x2 : Int32) (x3 : Int32) (x4 : Int32) (x5 : Int32) (x6 : Int32) (σ : St), v = f_St_add_29 n29 x2 x3 x4 x5 x6 σ → k_St_add_29 n29 x2 x3 x4 x5 x6 σ → lv_has ls 7 [(0, .ref (h 31)), (1, .ref (h 25)), (2, .int x2), (3, .int x3), (4, .int x4), (5, .int x5), (6, .int x6)] → va_P D classes (Wc ty h σ px) H → va_D A (Wc ty h σ px) → va_S A s.heap H locs → W p l e (headSpec w_St_add rm_St_add).room s m args below meth c H locs 0 0 (MQ below (va_Qi (fun r (u : St) => (r, u) = v) (fun u t => va_P D classes (Wc ty h u px) t.heap) A) args s 0 0 A) (F0 m 29 ls []) := by
    intro n29
    induction n29 with
    | zero => intro H locs ls x2 x3 x4 x5 x6 σ hv hk hl hP hD hS; exact hk.elim
    | succ n29 ih29 =>
      have B55 : ∀ (H : Heap) (locs : List Loc) (ls : Array Slot) (x2 : Int32) (x3 : Int32) (x4 : Int32) (x5 : Int32) (x6 : Int32) (σ : St), v = f_St_add_55 (f_St_add_29 n29) x2 x3 x4 x5 x6 σ → k_St_add_55 (k_St_add_29 n29) x2 x3 x4 x5 x6 σ → lv_has ls 7 [(0, .ref (h 31)), (1, .ref (h 25)), (2, .int x2), (3, .int x3), (4, .int x4), (5, .int x5), (6, .int x6)] → va_P D classes (Wc ty h σ px) H → va_D A (Wc ty h σ px) → va_S A s.heap H locs → W p l e (headSpec w_St_add rm_St_add).room s m args below meth c H locs 0 0 (MQ below (va_Qi (fun r (u : St) => (r, u) = v) (fun u t => va_P D classes (Wc ty h u px) t.heap) A) args s 0 0 A) (F0 m 55 ls []) := by
        intro H locs ls x2 x3 x4 x5 x6 σ hv hk hl hP hD hS
        unfold f_St_add_55 at hv
        unfold k_St_add_55 at hk
        refine lv_iinc (k := 6) (v := x6 + 1) (lv' := [(6, .int (x6 + 1)), (0, .ref (h 31)), (1, .ref (h 25)), (2, .int x2), (3, .int x3), (4, .int x4), (5, .int x5)]) hx hb d_St_add_55 hl rfl (by first | rfl | simp [lit1, litm1]) (by decide) rfl (fun ls hl => ?_)
        refine lv_goto (tgt := 29) hx hb d_St_add_58 (by decide) ?_
        exact ih29 _ _ _ x2 x3 x4 x5 (x6 + 1) σ hv hk (lv_sub hl [1, 2, 3, 4, 5, 6, 0] rfl) hP hD hS
      intro H locs ls x2 x3 x4 x5 x6 σ hv hk hl hP hD hS
      rw [f_St_add_29] at hv
      rw [k_St_add_29] at hk
      refine lv_iload hx hb d_St_add_29 (lv_at hl 6 rfl) ?_
      refine lv_iload hx hb d_St_add_31 (lv_at hl 5 rfl) ?_
      refine lv_icmp_ge (tgt := 61) hx hb d_St_add_33 (by decide) (fun hc => ?_) (fun hc => ?_)
      · have hv := hv.trans (if_pos hc)
        have hk := hk.1 hc
        refine lv_aload_n hx hb d_St_add_61 rfl (lv_at hl 0 rfl) ?_
        refine va_get (v := .ref (h 33)) (C := R_St) (T := T_St) (N := 5) hx hb hg in_St hown hK hP 31 rfl rfl 1 (by decide) (hg _ m_269) (fun _ h9 => h9) rfl d_St_add_62 ?_
        refine lv_iload hx hb d_St_add_65 (lv_at hl 4 rfl) ?_
        refine lv_iload hx hb d_St_add_67 (lv_at hl 5 rfl) ?_
        obtain ⟨hk0, hk⟩ := hk
        refine va_iast hx hb hK hP hD hS 33 0 rfl rfl hk0 d_St_add_69 (fun H locs hP hD hS => ?_)
        have hP : va_P D classes (Wc ty h (sA σ 33 x4 x5) px) H := hP
        have hD : va_D A (Wc ty h (sA σ 33 x4 x5) px) := hD
        exact B70 _ _ _ x2 x3 x4 (sA σ 33 x4 x5) hv hk (lv_sub hl [0, 2, 3, 4] rfl) hP hD hS
      · have hv := hv.trans (if_neg hc)
        have hk := hk.2 hc
        refine lv_aload_n hx hb d_St_add_36 rfl (lv_at hl 0 rfl) ?_
        refine va_get (v := .ref (h 32)) (C := R_St) (T := T_St) (N := 5) hx hb hg in_St hown hK hP 31 rfl rfl 0 (by decide) (hg _ m_268) (fun _ h9 => h9) rfl d_St_add_37 ?_
        refine lv_iload hx hb d_St_add_40 (lv_at hl 4 rfl) ?_
        refine lv_bipush (v := 8) hx hb d_St_add_42 (by decide) ?_
        refine lv_imul hx hb d_St_add_44 ?_
        refine lv_iload hx hb d_St_add_45 (lv_at hl 6 rfl) ?_
        refine lv_iadd hx hb d_St_add_47 ?_
        refine lv_aload_n hx hb d_St_add_48 rfl (lv_at hl 1 rfl) ?_
        refine lv_iload hx hb d_St_add_49 (lv_at hl 6 rfl) ?_
        obtain ⟨hk0, hk⟩ := hk
        refine zz_callV (va_runV (As := [.int x6]) (rest := [.int ((x4 * 8) + x6), .ref (h 32)]) ⟨hx, hb, hml, hown, hg⟩ (c_Ro_truth l D ty h px sa σ x6 hk0) ⟨callB_of 1 hg (gw_C m_966) rfl rfl rfl (hg _ m_10) (hg _ m_963) hd_Ro_truth ⟨Nat.le_of_ble_eq_true rfl, Nat.le_of_ble_eq_true rfl⟩, hg _ m_964, hg _ m_965⟩ (zz_preV (hM.at hS) hN hK hP 25 rfl rfl) rfl rfl hl.1 rfl (lv_room (Nat.le_of_ble_eq_true rfl)) d_St_add_51 ⟨Nat.le_of_ble_eq_true rfl, Nat.le_of_ble_eq_true rfl⟩) ?_
        obtain ⟨hk0, hk⟩ := hk
        refine va_iast hx hb hK hP hD hS 32 0 rfl rfl hk0 d_St_add_54 (fun H locs hP hD hS => ?_)
        have hP : va_P D classes (Wc ty h (sA σ 32 ((x4 * 8) + x6) (f_Ro_truth x6 σ)) px) H := hP
        have hD : va_D A (Wc ty h (sA σ 32 ((x4 * 8) + x6) (f_Ro_truth x6 σ)) px) := hD
        exact B55 _ _ _ x2 x3 x4 x5 x6 (sA σ 32 ((x4 * 8) + x6) (f_Ro_truth x6 σ)) hv hk (lv_sub hl [0, 1, 2, 3, 4, 5, 6] rfl) hP hD hS
  have B26 : ∀ (H : Heap) (locs : List Loc) (ls : Array Slot) (x2 : Int32) (x3 : Int32) (x4 : Int32) (x5 : Int32) (σ : St), v = f_St_add_26 x2 x3 x4 x5 σ → k_St_add_26 x2 x3 x4 x5 σ → lv_has ls 7 [(0, .ref (h 31)), (1, .ref (h 25)), (2, .int x2), (3, .int x3), (4, .int x4), (5, .int x5)] → va_P D classes (Wc ty h σ px) H → va_D A (Wc ty h σ px) → va_S A s.heap H locs → W p l e (headSpec w_St_add rm_St_add).room s m args below meth c H locs 0 0 (MQ below (va_Qi (fun r (u : St) => (r, u) = v) (fun u t => va_P D classes (Wc ty h u px) t.heap) A) args s 0 0 A) (F0 m 26 ls []) := by
    intro H locs ls x2 x3 x4 x5 σ hv hk hl hP hD hS
    unfold f_St_add_26 at hv
    unfold k_St_add_26 at hk
    refine lv_iconst (v := 0) hx hb d_St_add_26 (by decide) ?_
    refine lv_istore (lv' := [(6, .int 0), (0, .ref (h 31)), (1, .ref (h 25)), (2, .int x2), (3, .int x3), (4, .int x4), (5, .int x5)]) hx hb d_St_add_27 hl (by decide) rfl (fun ls hl => ?_)
    exact B29 1000 _ _ _ x2 x3 x4 x5 0 σ hv hk (lv_sub hl [1, 2, 3, 4, 5, 6, 0] rfl) hP hD hS
  have B15 : ∀ (H : Heap) (locs : List Loc) (ls : Array Slot) (x2 : Int32) (x3 : Int32) (x4 : Int32) (σ : St), v = f_St_add_15 x2 x3 x4 σ → k_St_add_15 x2 x3 x4 σ → lv_has ls 7 [(0, .ref (h 31)), (1, .ref (h 25)), (2, .int x2), (3, .int x3), (4, .int x4)] → va_P D classes (Wc ty h σ px) H → va_D A (Wc ty h σ px) → va_S A s.heap H locs → W p l e (headSpec w_St_add rm_St_add).room s m args below meth c H locs 0 0 (MQ below (va_Qi (fun r (u : St) => (r, u) = v) (fun u t => va_P D classes (Wc ty h u px) t.heap) A) args s 0 0 A) (F0 m 15 ls []) := by
    intro H locs ls x2 x3 x4 σ hv hk hl hP hD hS
    unfold f_St_add_15 at hv
    unfold k_St_add_15 at hk
    refine lv_aload_n hx hb d_St_add_15 rfl (lv_at hl 1 rfl) ?_
    obtain ⟨hk0, hk⟩ := hk
    refine zz_callV (va_runV (As := []) (rest := []) ⟨hx, hb, hml, hown, hg⟩ (c_Ro_size l D ty h px sa σ  hk0) ⟨callB_of 0 hg (gw_C m_951) rfl rfl rfl (hg _ m_10) (hg _ m_961) hd_Ro_size ⟨Nat.le_of_ble_eq_true rfl, Nat.le_of_ble_eq_true rfl⟩, hg _ m_949, hg _ m_950⟩ (zz_preV (hM.at hS) hN hK hP 25 rfl rfl) rfl rfl hl.1 rfl (lv_room (Nat.le_of_ble_eq_true rfl)) d_St_add_16 ⟨Nat.le_of_ble_eq_true rfl, Nat.le_of_ble_eq_true rfl⟩) ?_
    refine lv_bipush (v := 8) hx hb d_St_add_19 (by decide) ?_
    refine va_mmin hx hb (hml.trans hl.1.symm) hown (hg _ m_962) (hg _ m_640) (hg _ m_14) (hg _ m_641) (Nat.le_of_ble_eq_true rfl) (Nat.le_of_ble_eq_true rfl) (Nat.le_of_ble_eq_true rfl) (Nat.le_of_ble_eq_true rfl) d_St_add_21 ?_
    refine lv_istore (lv' := [(5, .int (if 8 < (f_Ro_size σ) then 8 else (f_Ro_size σ))), (0, .ref (h 31)), (1, .ref (h 25)), (2, .int x2), (3, .int x3), (4, .int x4)]) hx hb d_St_add_24 hl (by decide) rfl (fun ls hl => ?_)
    exact B26 _ _ _ x2 x3 x4 (if 8 < (f_Ro_size σ) then 8 else (f_Ro_size σ)) σ hv hk (lv_sub hl [1, 2, 3, 4, 5, 0] rfl) hP hD hS
  unfold f_St_add at hv
  unfold k_St_add at hk
  refine lv_aload_n hx hb d_St_add_0 rfl (lv_at hl 0 rfl) ?_
  obtain ⟨hk0, hk⟩ := hk
  refine zz_callV (va_runV (As := []) (rest := []) ⟨hx, hb, hml, hown, hg⟩ (c_St_isFull l D ty h px sa σ  hk0) ⟨callB_of 0 hg (gw_C m_955) rfl rfl rfl (hg _ m_12) (hg _ m_960) hd_St_isFull ⟨Nat.le_of_ble_eq_true rfl, Nat.le_of_ble_eq_true rfl⟩, hg _ m_953, hg _ m_954⟩ (zz_preV (hM.at hS) hN hK hP 31 rfl rfl) rfl rfl hl.1 rfl (lv_room (Nat.le_of_ble_eq_true rfl)) d_St_add_1 ⟨Nat.le_of_ble_eq_true rfl, Nat.le_of_ble_eq_true rfl⟩) ?_
  refine lv_if_eq (tgt := 9) hx hb d_St_add_4 (by decide) (fun hc => ?_) (fun hc => ?_)
  · have hv := hv.trans (if_pos hc)
    have hk := hk.1 hc
    refine lv_aload_n hx hb d_St_add_9 rfl (lv_at hl 0 rfl) ?_
    refine va_get (v := .int (σ.1 31 4)) (C := R_St) (T := T_St) (N := 5) hx hb hg in_St hown hK hP 31 rfl rfl 4 (by decide) (hg _ m_272) (fun _ h9 => h9) rfl d_St_add_10 ?_
    refine lv_istore (lv' := [(4, .int (σ.1 31 4)), (0, .ref (h 31)), (1, .ref (h 25)), (2, .int a2), (3, .int a3)]) hx hb d_St_add_13 hl (by decide) rfl (fun ls hl => ?_)
    exact B15 _ _ _ a2 a3 (σ.1 31 4) σ hv hk (lv_sub hl [1, 2, 3, 4, 0] rfl) hP hD hS
  · have hv := hv.trans (if_neg hc)
    have hk := hk.2 hc
    refine lv_iconst (v := -1) hx hb d_St_add_7 (by decide) ?_
    exact W.iret hx hb hr (fun t ht hW => ⟨⟨_, _, rfl, hv.symm, by dsimp only; rw [ht]; exact hP⟩, hS.F ht⟩) hS.2.2 d_St_add_8

-- ClauseLedger.enterRow(IZ)I
abbrev b_CL_enterRow : ByteArray := prog_1_method_37_code
def y_CL_enterRow : MethodName := ⟨"ClauseLedger", "enterRow", "(IZ)I"⟩
theorem hd_CL_enterRow : y_CL_enterRow.cls ≠ "java/lang/invoke/MethodHandle" ∧ y_CL_enterRow.cls ≠ "java/lang/invoke/VarHandle" ∧ (parseMethodDescriptor y_CL_enterRow.desc).map (fun d => d.parameters.length) = some 2 := by decide +kernel
theorem d_CL_enterRow_0 : decode b_CL_enterRow 0 = .ok (.aload_n 0, 1) := by decide +kernel
theorem d_CL_enterRow_1 : decode b_CL_enterRow 1 = .ok (.getfield 19, 3) := by decide +kernel
theorem d_CL_enterRow_4 : decode b_CL_enterRow 4 = .ok (.invokevirtual 115, 3) := by decide +kernel
theorem d_CL_enterRow_7 : decode b_CL_enterRow 7 = .ok (.ifCond .eq 8, 3) := by decide +kernel
theorem d_CL_enterRow_10 : decode b_CL_enterRow 10 = .ok (.aload_n 0, 1) := by decide +kernel
theorem d_CL_enterRow_11 : decode b_CL_enterRow 11 = .ok (.invokevirtual 118, 3) := by decide +kernel
theorem d_CL_enterRow_14 : decode b_CL_enterRow 14 = .ok (.ireturn, 1) := by decide +kernel
theorem d_CL_enterRow_15 : decode b_CL_enterRow 15 = .ok (.aload_n 0, 1) := by decide +kernel
theorem d_CL_enterRow_16 : decode b_CL_enterRow 16 = .ok (.getfield 19, 3) := by decide +kernel
theorem d_CL_enterRow_19 : decode b_CL_enterRow 19 = .ok (.invokevirtual 121, 3) := by decide +kernel
theorem d_CL_enterRow_22 : decode b_CL_enterRow 22 = .ok (.ifCond .ne 25, 3) := by decide +kernel
theorem d_CL_enterRow_25 : decode b_CL_enterRow 25 = .ok (.aload_n 0, 1) := by decide +kernel
theorem d_CL_enterRow_26 : decode b_CL_enterRow 26 = .ok (.getfield 65, 3) := by decide +kernel
theorem d_CL_enterRow_29 : decode b_CL_enterRow 29 = .ok (.invokevirtual 291, 3) := by decide +kernel
theorem d_CL_enterRow_32 : decode b_CL_enterRow 32 = .ok (.bipush 8, 2) := by decide +kernel
theorem d_CL_enterRow_34 : decode b_CL_enterRow 34 = .ok (.if_icmp .gt 13, 3) := by decide +kernel
theorem d_CL_enterRow_37 : decode b_CL_enterRow 37 = .ok (.aload_n 0, 1) := by decide +kernel
theorem d_CL_enterRow_38 : decode b_CL_enterRow 38 = .ok (.getfield 79, 3) := by decide +kernel
theorem d_CL_enterRow_41 : decode b_CL_enterRow 41 = .ok (.invokevirtual 294, 3) := by decide +kernel
theorem d_CL_enterRow_44 : decode b_CL_enterRow 44 = .ok (.ifCond .eq 8, 3) := by decide +kernel
theorem d_CL_enterRow_47 : decode b_CL_enterRow 47 = .ok (.aload_n 0, 1) := by decide +kernel
theorem d_CL_enterRow_48 : decode b_CL_enterRow 48 = .ok (.invokevirtual 124, 3) := by decide +kernel
theorem d_CL_enterRow_51 : decode b_CL_enterRow 51 = .ok (.ireturn, 1) := by decide +kernel
theorem d_CL_enterRow_52 : decode b_CL_enterRow 52 = .ok (.aload_n 0, 1) := by decide +kernel
theorem d_CL_enterRow_53 : decode b_CL_enterRow 53 = .ok (.getfield 19, 3) := by decide +kernel
theorem d_CL_enterRow_56 : decode b_CL_enterRow 56 = .ok (.invokevirtual 127, 3) := by decide +kernel
theorem d_CL_enterRow_59 : decode b_CL_enterRow 59 = .ok (.aload_n 0, 1) := by decide +kernel
theorem d_CL_enterRow_60 : decode b_CL_enterRow 60 = .ok (.getfield 79, 3) := by decide +kernel
theorem d_CL_enterRow_63 : decode b_CL_enterRow 63 = .ok (.aload_n 0, 1) := by decide +kernel
theorem d_CL_enterRow_64 : decode b_CL_enterRow 64 = .ok (.getfield 65, 3) := by decide +kernel
theorem d_CL_enterRow_67 : decode b_CL_enterRow 67 = .ok (.iload_n 1, 1) := by decide +kernel
theorem d_CL_enterRow_68 : decode b_CL_enterRow 68 = .ok (.iload_n 2, 1) := by decide +kernel
theorem d_CL_enterRow_69 : decode b_CL_enterRow 69 = .ok (.invokevirtual 295, 3) := by decide +kernel
theorem d_CL_enterRow_72 : decode b_CL_enterRow 72 = .ok (.ireturn, 1) := by decide +kernel
def f_CL_enterRow_14 (s0 : Int32) (σ : St) : XR := (.inl s0, σ)
def k_CL_enterRow_14 (s0 : Int32) (σ : St) : Prop := True
def f_CL_enterRow_51 (s0 : Int32) (σ : St) : XR := (.inl s0, σ)
def k_CL_enterRow_51 (s0 : Int32) (σ : St) : Prop := True
def f_CL_enterRow_47 (σ : St) : XR := xb (f_CL_throwNoRoom σ) (fun x u => f_CL_enterRow_51 x u)
def k_CL_enterRow_47 (σ : St) : Prop := (k_CL_throwNoRoom σ) ∧ (∀ x, (f_CL_throwNoRoom σ).1 = .inl x → (k_CL_enterRow_51 x ((f_CL_throwNoRoom σ).2)))
def f_CL_enterRow_72 (s0 : Int32) (σ : St) : XR := (.inl s0, σ)
def k_CL_enterRow_72 (s0 : Int32) (σ : St) : Prop := True
def f_CL_enterRow_59 (x1 : Int32) (x2 : Int32) (σ : St) : XR := f_CL_enterRow_72 ((f_St_add x1 x2 σ).1) ((f_St_add x1 x2 σ).2)
def k_CL_enterRow_59 (x1 : Int32) (x2 : Int32) (σ : St) : Prop := (k_St_add x1 x2 σ) ∧ (k_CL_enterRow_72 ((f_St_add x1 x2 σ).1) ((f_St_add x1 x2 σ).2))
def f_CL_enterRow (a1 : Int32) (a2 : Int32) (σ : St) : XR := if (f_Te_tooDeep σ) = 0 then (if (f_Te_tooMany σ) = 0 then (if 8 < (f_Ro_size σ) then (f_CL_enterRow_47 σ) else (if (f_St_isFull σ) = 0 then (f_CL_enterRow_59 a1 a2 (f_Te_keep σ)) else (f_CL_enterRow_47 σ))) else (f_CL_enterRow_47 σ)) else (xb (f_CL_throwTooGreat σ) (fun x u => f_CL_enterRow_14 x u))
def k_CL_enterRow (a1 : Int32) (a2 : Int32) (σ : St) : Prop := (k_Te_tooDeep σ) ∧ (((f_Te_tooDeep σ) = 0 → ((k_Te_tooMany σ) ∧ (((f_Te_tooMany σ) = 0 → ((k_Ro_size σ) ∧ ((8 < (f_Ro_size σ) → (k_CL_enterRow_47 σ)) ∧ (¬ 8 < (f_Ro_size σ) → ((k_St_isFull σ) ∧ (((f_St_isFull σ) = 0 → ((k_Te_keep σ) ∧ (k_CL_enterRow_59 a1 a2 (f_Te_keep σ)))) ∧ (¬ (f_St_isFull σ) = 0 → (k_CL_enterRow_47 σ)))))))) ∧ (¬ (f_Te_tooMany σ) = 0 → (k_CL_enterRow_47 σ))))) ∧ (¬ (f_Te_tooDeep σ) = 0 → ((k_CL_throwTooGreat σ) ∧ (∀ x, (f_CL_throwTooGreat σ).1 = .inl x → (k_CL_enterRow_14 x ((f_CL_throwTooGreat σ).2))))))
abbrev w_CL_enterRow : List Cond := Cond.code y_CL_enterRow b_CL_enterRow 3 (some .int) :: gw
abbrev rm_CL_enterRow : Room := { frames := 7, cells := 1, slots := 6, locals := 120 }
set_option maxHeartbeats 4000000 in
set_option maxRecDepth 100000 in
theorem c_CL_enterRow (l : Launch) (hlt : l.stackTraces = false) (D : va_G) (ty : Nat → ClassId) (h : Nat → Nat) (px : va_W) (sa : Nat → Nat) (σ : St) (sz : Nat) (a1 : Int32) (a2 : Int32) (hk : k_CL_enterRow a1 a2 σ) : xMet l y_CL_enterRow w_CL_enterRow rm_CL_enterRow (va_Pc [.ref (h 0), .int a1, .int a2] (fun U => U.heap.size = sz ∧ va_P D classes (Wc ty h σ px) U.heap ∧ va_K D classes (Ta ty) U ∧ NW U ∧ XK sa (va_A (Wc ty h σ px) sz) U U.heap ∧ MK sa (va_A (Wc ty h σ px) sz) U U.heap ∧ va_D (fun _ => True) (Wc ty h σ px))) (Rx D classes (fun u => Wc ty h u px) (va_A (Wc ty h σ px) sz) (f_CL_enterRow a1 a2 σ)) 1 6 (va_A (Wc ty h σ px) sz) := by
  refine xMet.ofW (cc := b_CL_enterRow) (maxL := 3) (ret := (some .int)) (by decide) rfl ?_
  intro p e s m args below meth c s₁ B hml htab hv
  obtain ⟨ha, hsz, hP, hK, hN, hX, hM, hD0⟩ := hv
  have hx := B.exec
  have hb := B.bytes
  have hr := B.returns
  have hg : ∀ w ∈ gw, w.before args s = true := fun w h9 => atoms_spec (ws := w_CL_enterRow) B.pre w (List.mem_cons_of_mem _ h9)
  have hown : s.vm.findClass "ClauseLedger" = some m.cls := findClass_of_methodNamed B.named
  have hlocks := B.notSynchronized
  subst hsz
  have hD := hD0.self (sz := s.heap.size)
  generalize hAe : va_A (Wc ty h σ px) s.heap.size = A at hD hM hX ⊢
  have hA : ∀ q : Nat, s.heap.size ≤ q → A q := fun q h9 => by rw [← hAe]; exact Or.inr h9
  have hS : va_S A s.heap s.heap [] := va_S.rf
  have he : entryFrame m args 3 = entryFrame m ([.ref (h 0), .int a1, .int a2] : List Value).toArray 3 := by rw [ha]
  rw [he, lg_entry_eq]
  have hl := lv_entry ([.ref (h 0), .int a1, .int a2]) (n := 3) (Nat.le_of_ble_eq_true rfl)
  generalize (lg_sl ([.ref (h 0), .int a1, .int a2]) ++ List.replicate (3 - (lg_sl ([.ref (h 0), .int a1, .int a2])).length) Slot.unset).toArray = ls at hl ⊢
  have hl : lv_has ls 3 [(0, .ref (h 0)), (1, .int a1), (2, .int a2)] := hl
  generalize hv : f_CL_enterRow a1 a2 σ = v
  replace hv := hv.symm
  have B14 : ∀ (H : Heap) (locs : List Loc) (ls : Array Slot) (s0 : Int32) (σ : St), v = f_CL_enterRow_14 s0 σ → k_CL_enterRow_14 s0 σ → lv_has ls 3 [] → va_P D classes (Wc ty h σ px) H → va_D A (Wc ty h σ px) → va_S A s.heap H locs → W p l e (headSpec w_CL_enterRow rm_CL_enterRow).room s m args below meth c H locs 1 6 (xMQ below (Rx D classes (fun u => Wc ty h u px) A v) args s 1 6 A) (F0 m 14 ls [.int s0]) := by
    intro H locs ls s0 σ hv hk hl hP hD hS
    unfold f_CL_enterRow_14 at hv
    unfold k_CL_enterRow_14 at hk
    exact x_ret (fun o t hq => by obtain ⟨rfl, ht⟩ := hq; exact ⟨hS.F ht, by rw [ht, hv]; exact hP, _, rfl, by rw [hv]⟩) (Nat.le_of_ble_eq_true rfl) (Nat.le_of_ble_eq_true rfl) (W.iret (Qc := fun _ _ o t => o = .returned (some (.int s0)) ∧ t.heap = H) hx hb hr (fun t ht hW => ⟨rfl, ht⟩) hS.2.2 d_CL_enterRow_14)
  have B51 : ∀ (H : Heap) (locs : List Loc) (ls : Array Slot) (s0 : Int32) (σ : St), v = f_CL_enterRow_51 s0 σ → k_CL_enterRow_51 s0 σ → lv_has ls 3 [] → va_P D classes (Wc ty h σ px) H → va_D A (Wc ty h σ px) → va_S A s.heap H locs → W p l e (headSpec w_CL_enterRow rm_CL_enterRow).room s m args below meth c H locs 1 6 (xMQ below (Rx D classes (fun u => Wc ty h u px) A v) args s 1 6 A) (F0 m 51 ls [.int s0]) := by
    intro H locs ls s0 σ hv hk hl hP hD hS
    unfold f_CL_enterRow_51 at hv
    unfold k_CL_enterRow_51 at hk
    exact x_ret (fun o t hq => by obtain ⟨rfl, ht⟩ := hq; exact ⟨hS.F ht, by rw [ht, hv]; exact hP, _, rfl, by rw [hv]⟩) (Nat.le_of_ble_eq_true rfl) (Nat.le_of_ble_eq_true rfl) (W.iret (Qc := fun _ _ o t => o = .returned (some (.int s0)) ∧ t.heap = H) hx hb hr (fun t ht hW => ⟨rfl, ht⟩) hS.2.2 d_CL_enterRow_51)
  have B47 : ∀ (H : Heap) (locs : List Loc) (ls : Array Slot) (σ : St), v = f_CL_enterRow_47 σ → k_CL_enterRow_47 σ → lv_has ls 3 [(0, .ref (h 0))] → va_P D classes (Wc ty h σ px) H → va_D A (Wc ty h σ px) → va_S A s.heap H locs → W p l e (headSpec w_CL_enterRow rm_CL_enterRow).room s m args below meth c H locs 0 0 (xMQ below (Rx D classes (fun u => Wc ty h u px) A v) args s 1 6 A) (F0 m 47 ls []) := by
    intro H locs ls σ hv hk hl hP hD hS
    unfold f_CL_enterRow_47 at hv
    unfold k_CL_enterRow_47 at hk
    refine lv_aload_n hx hb d_CL_enterRow_47 rfl (lv_at hl 0 rfl) ?_
    obtain ⟨hk0, hk⟩ := hk
    refine x_callV (As := []) (rest := []) ⟨hx, hb, hml, hown, hg⟩ (c_CL_throwNoRoom l hlt D ty h px sa σ H.size  hk0) ⟨callB_of 0 hg (gw_C m_882) rfl rfl rfl (hg _ m_1) (hg _ m_879) hd_CL_throwNoRoom ⟨Nat.le_of_ble_eq_true rfl, Nat.le_of_ble_eq_true rfl⟩, hg _ m_881, hg _ ms_28⟩ (zz_preX hM hN hX hS hA hK hP hD 0 rfl rfl) rfl hl.1 rfl (Nat.le_of_ble_eq_true rfl) d_CL_enterRow_48 ⟨Nat.le_of_ble_eq_true rfl, Nat.le_of_ble_eq_true rfl⟩ (fun r9 st9 t9 L9 h09 hal9 hR9 hL9 => ?_) (fun q9 st9 t9 L9 h09 h19 hal9 hR9 hL9 => ?_)
    · obtain ⟨hF9, hP9, x, rfl, hz9⟩ := hR9
      have hv := hv.trans (xb_l hz9)
      have hk := hk _ hz9
      have hS := zz_xS hS h09 hF9 (zz_free hD hS hA) hL9
      have hD : va_D A (Wc ty h (f_CL_throwNoRoom σ).2 px) := zz_D hD rfl
      exact B51 _ _ _ x (f_CL_throwNoRoom σ).2 hv hk (lv_sub hl [] rfl) hP9 hD hS
    · obtain ⟨hF9, hP9, E9, ce9, hz9, hq9, hn9, hc9⟩ := hR9
      have hv := hv.trans (xb_r hz9)
      have hS := zz_xS hS h09 hF9 (zz_free hD hS hA) hL9
      exact x_out htab hlocks (fun t ht hal => ⟨hS.F ht, by rw [ht, hv]; exact hP9, E9, ce9, by rw [hv], by rw [ht]; exact hq9, hn9, by rw [h19.findClass]; exact hc9⟩) hS.2.2 (Nat.le_of_ble_eq_true rfl) (Nat.le_of_ble_eq_true rfl)
  have B72 : ∀ (H : Heap) (locs : List Loc) (ls : Array Slot) (s0 : Int32) (σ : St), v = f_CL_enterRow_72 s0 σ → k_CL_enterRow_72 s0 σ → lv_has ls 3 [] → va_P D classes (Wc ty h σ px) H → va_D A (Wc ty h σ px) → va_S A s.heap H locs → W p l e (headSpec w_CL_enterRow rm_CL_enterRow).room s m args below meth c H locs 0 0 (xMQ below (Rx D classes (fun u => Wc ty h u px) A v) args s 1 6 A) (F0 m 72 ls [.int s0]) := by
    intro H locs ls s0 σ hv hk hl hP hD hS
    unfold f_CL_enterRow_72 at hv
    unfold k_CL_enterRow_72 at hk
    exact x_ret (fun o t hq => by obtain ⟨rfl, ht⟩ := hq; exact ⟨hS.F ht, by rw [ht, hv]; exact hP, _, rfl, by rw [hv]⟩) (Nat.le_of_ble_eq_true rfl) (Nat.le_of_ble_eq_true rfl) (W.iret (Qc := fun _ _ o t => o = .returned (some (.int s0)) ∧ t.heap = H) hx hb hr (fun t ht hW => ⟨rfl, ht⟩) hS.2.2 d_CL_enterRow_72)
  have B59 : ∀ (H : Heap) (locs : List Loc) (ls : Array Slot) (x1 : Int32) (x2 : Int32) (σ : St), v = f_CL_enterRow_59 x1 x2 σ → k_CL_enterRow_59 x1 x2 σ → lv_has ls 3 [(0, .ref (h 0)), (1, .int x1), (2, .int x2)] → va_P D classes (Wc ty h σ px) H → va_D A (Wc ty h σ px) → va_S A s.heap H locs → W p l e (headSpec w_CL_enterRow rm_CL_enterRow).room s m args below meth c H locs 0 0 (xMQ below (Rx D classes (fun u => Wc ty h u px) A v) args s 1 6 A) (F0 m 59 ls []) := by
    intro H locs ls x1 x2 σ hv hk hl hP hD hS
    unfold f_CL_enterRow_59 at hv
    unfold k_CL_enterRow_59 at hk
    refine lv_aload_n hx hb d_CL_enterRow_59 rfl (lv_at hl 0 rfl) ?_
    refine va_get (v := .ref (h 31)) (C := R_CL) (T := T_CL) (N := 11) hx hb hg in_CL hown hK hP 0 rfl rfl 9 (by decide) (hg _ m_293) (fun _ h9 => h9) rfl d_CL_enterRow_60 ?_
    refine lv_aload_n hx hb d_CL_enterRow_63 rfl (lv_at hl 0 rfl) ?_
    refine va_get (v := .ref (h 25)) (C := R_CL) (T := T_CL) (N := 11) hx hb hg in_CL hown hK hP 0 rfl rfl 7 (by decide) (hg _ m_291) (fun _ h9 => h9) rfl d_CL_enterRow_64 ?_
    refine lv_iload_n hx hb d_CL_enterRow_67 rfl (lv_at hl 1 rfl) ?_
    refine lv_iload_n hx hb d_CL_enterRow_68 rfl (lv_at hl 2 rfl) ?_
    obtain ⟨hk0, hk⟩ := hk
    refine va_calli (va_runV (As := [.ref (h 25), .int x1, .int x2]) (rest := []) ⟨hx, hb, hml, hown, hg⟩ (c_St_add l D ty h px sa σ H.size x1 x2 hk0) ⟨callB_of 3 hg (gw_C m_959) rfl rfl rfl (hg _ m_12) (hg _ m_956) hd_St_add ⟨Nat.le_of_ble_eq_true rfl, Nat.le_of_ble_eq_true rfl⟩, hg _ m_957, hg _ m_958⟩ (zz_preVW hM hS hA hN hK hP hD 31 rfl rfl) rfl rfl hl.1 rfl (lv_room (Nat.le_of_ble_eq_true rfl)) d_CL_enterRow_69 ⟨Nat.le_of_ble_eq_true rfl, Nat.le_of_ble_eq_true rfl⟩) hS (fun q _ h => zz_free hD hS hA q h) (zz_free hD hS hA) (fun r69 u69 t H locs ht hvm hp hP1 hz hk1 hS => ?_)
    rw [ht] at hP1
    rw [← hp] at hv hk
    have hD : va_D A (Wc ty h u69 px) := zz_D hD rfl
    have hP := hP1
    exact B72 _ _ _ r69 u69 hv hk (lv_sub hl [] rfl) hP hD hS
  unfold f_CL_enterRow at hv
  unfold k_CL_enterRow at hk
  refine lv_aload_n hx hb d_CL_enterRow_0 rfl (lv_at hl 0 rfl) ?_
  refine va_get (v := .ref (h 6)) (C := R_CL) (T := T_CL) (N := 11) hx hb hg in_CL hown hK hP 0 rfl rfl 1 (by decide) (hg _ m_285) (fun _ h9 => h9) rfl d_CL_enterRow_1 ?_
  obtain ⟨hk0, hk⟩ := hk
  refine zz_callV (va_runV (As := []) (rest := []) ⟨hx, hb, hml, hown, hg⟩ (c_Te_tooDeep l D ty h px sa σ  hk0) ⟨callB_of 0 hg (gw_C m_854) rfl rfl rfl (hg _ m_3) (hg _ m_851) hd_Te_tooDeep ⟨Nat.le_of_ble_eq_true rfl, Nat.le_of_ble_eq_true rfl⟩, hg _ m_852, hg _ m_853⟩ (zz_preV (hM.at hS) hN hK hP 6 rfl rfl) rfl rfl hl.1 rfl (lv_room (Nat.le_of_ble_eq_true rfl)) d_CL_enterRow_4 ⟨Nat.le_of_ble_eq_true rfl, Nat.le_of_ble_eq_true rfl⟩) ?_
  refine lv_if_eq (tgt := 15) hx hb d_CL_enterRow_7 (by decide) (fun hc => ?_) (fun hc => ?_)
  · have hv := hv.trans (if_pos hc)
    have hk := hk.1 hc
    refine lv_aload_n hx hb d_CL_enterRow_15 rfl (lv_at hl 0 rfl) ?_
    refine va_get (v := .ref (h 6)) (C := R_CL) (T := T_CL) (N := 11) hx hb hg in_CL hown hK hP 0 rfl rfl 1 (by decide) (hg _ m_285) (fun _ h9 => h9) rfl d_CL_enterRow_16 ?_
    obtain ⟨hk0, hk⟩ := hk
    refine zz_callV (va_runV (As := []) (rest := []) ⟨hx, hb, hml, hown, hg⟩ (c_Te_tooMany l D ty h px sa σ  hk0) ⟨callB_of 0 hg (gw_C m_878) rfl rfl rfl (hg _ m_3) (hg _ m_875) hd_Te_tooMany ⟨Nat.le_of_ble_eq_true rfl, Nat.le_of_ble_eq_true rfl⟩, hg _ m_876, hg _ m_877⟩ (zz_preV (hM.at hS) hN hK hP 6 rfl rfl) rfl rfl hl.1 rfl (lv_room (Nat.le_of_ble_eq_true rfl)) d_CL_enterRow_19 ⟨Nat.le_of_ble_eq_true rfl, Nat.le_of_ble_eq_true rfl⟩) ?_
    refine lv_if_ne (tgt := 47) hx hb d_CL_enterRow_22 (by decide) (fun hc => ?_) (fun hc => ?_)
    · have hv := hv.trans (if_neg hc)
      have hk := hk.2 hc
      exact B47 _ _ _  σ hv hk (lv_sub hl [0] rfl) hP hD hS
    · have hv := hv.trans (if_pos hc)
      have hk := hk.1 hc
      refine lv_aload_n hx hb d_CL_enterRow_25 rfl (lv_at hl 0 rfl) ?_
      refine va_get (v := .ref (h 25)) (C := R_CL) (T := T_CL) (N := 11) hx hb hg in_CL hown hK hP 0 rfl rfl 7 (by decide) (hg _ m_291) (fun _ h9 => h9) rfl d_CL_enterRow_26 ?_
      obtain ⟨hk0, hk⟩ := hk
      refine zz_callV (va_runV (As := []) (rest := []) ⟨hx, hb, hml, hown, hg⟩ (c_Ro_size l D ty h px sa σ  hk0) ⟨callB_of 0 hg (gw_C m_951) rfl rfl rfl (hg _ m_10) (hg _ m_948) hd_Ro_size ⟨Nat.le_of_ble_eq_true rfl, Nat.le_of_ble_eq_true rfl⟩, hg _ m_949, hg _ m_950⟩ (zz_preV (hM.at hS) hN hK hP 25 rfl rfl) rfl rfl hl.1 rfl (lv_room (Nat.le_of_ble_eq_true rfl)) d_CL_enterRow_29 ⟨Nat.le_of_ble_eq_true rfl, Nat.le_of_ble_eq_true rfl⟩) ?_
      refine lv_bipush (v := 8) hx hb d_CL_enterRow_32 (by decide) ?_
      refine lv_icmp_gt (tgt := 47) hx hb d_CL_enterRow_34 (by decide) (fun hc => ?_) (fun hc => ?_)
      · have hv := hv.trans (if_pos hc)
        have hk := hk.1 hc
        exact B47 _ _ _  σ hv hk (lv_sub hl [0] rfl) hP hD hS
      · have hv := hv.trans (if_neg hc)
        have hk := hk.2 hc
        refine lv_aload_n hx hb d_CL_enterRow_37 rfl (lv_at hl 0 rfl) ?_
        refine va_get (v := .ref (h 31)) (C := R_CL) (T := T_CL) (N := 11) hx hb hg in_CL hown hK hP 0 rfl rfl 9 (by decide) (hg _ m_293) (fun _ h9 => h9) rfl d_CL_enterRow_38 ?_
        obtain ⟨hk0, hk⟩ := hk
        refine zz_callV (va_runV (As := []) (rest := []) ⟨hx, hb, hml, hown, hg⟩ (c_St_isFull l D ty h px sa σ  hk0) ⟨callB_of 0 hg (gw_C m_955) rfl rfl rfl (hg _ m_12) (hg _ m_952) hd_St_isFull ⟨Nat.le_of_ble_eq_true rfl, Nat.le_of_ble_eq_true rfl⟩, hg _ m_953, hg _ m_954⟩ (zz_preV (hM.at hS) hN hK hP 31 rfl rfl) rfl rfl hl.1 rfl (lv_room (Nat.le_of_ble_eq_true rfl)) d_CL_enterRow_41 ⟨Nat.le_of_ble_eq_true rfl, Nat.le_of_ble_eq_true rfl⟩) ?_
        refine lv_if_eq (tgt := 52) hx hb d_CL_enterRow_44 (by decide) (fun hc => ?_) (fun hc => ?_)
        · have hv := hv.trans (if_pos hc)
          have hk := hk.1 hc
          refine lv_aload_n hx hb d_CL_enterRow_52 rfl (lv_at hl 0 rfl) ?_
          refine va_get (v := .ref (h 6)) (C := R_CL) (T := T_CL) (N := 11) hx hb hg in_CL hown hK hP 0 rfl rfl 1 (by decide) (hg _ m_285) (fun _ h9 => h9) rfl d_CL_enterRow_53 ?_
          obtain ⟨hk0, hk⟩ := hk
          refine va_callv (va_runV (As := []) (rest := []) ⟨hx, hb, hml, hown, hg⟩ (c_Te_keep l D ty h px sa σ s.heap.size  hk0) ⟨callB_of 0 hg (gw_C m_902) rfl rfl rfl (hg _ m_3) (hg _ m_899) hd_Te_keep ⟨Nat.le_of_ble_eq_true rfl, Nat.le_of_ble_eq_true rfl⟩, hg _ m_900, hg _ m_901⟩ (zz_preVW hM hS hA hN hK hP hD 6 rfl rfl) rfl rfl hl.1 rfl (lv_room (Nat.le_of_ble_eq_true rfl)) d_CL_enterRow_56 ⟨Nat.le_of_ble_eq_true rfl, Nat.le_of_ble_eq_true rfl⟩) hS (fun q _ h => zz_free hD hS hA q h) (zz_free hD hS hA) (fun u56 t H locs ht hvm hp hP1 hz hk1 hS => ?_)
          rw [ht] at hP1
          rw [← hp] at hv hk
          have hD : va_D A (Wc ty h u56 px) := zz_D hD rfl
          have hP := hP1
          exact B59 _ _ _ a1 a2 u56 hv hk (lv_sub hl [0, 1, 2] rfl) hP hD hS
        · have hv := hv.trans (if_neg hc)
          have hk := hk.2 hc
          exact B47 _ _ _  σ hv hk (lv_sub hl [0] rfl) hP hD hS
  · have hv := hv.trans (if_neg hc)
    have hk := hk.2 hc
    refine lv_aload_n hx hb d_CL_enterRow_10 rfl (lv_at hl 0 rfl) ?_
    obtain ⟨hk0, hk⟩ := hk
    refine x_callV (As := []) (rest := []) ⟨hx, hb, hml, hown, hg⟩ (c_CL_throwTooGreat l hlt D ty h px sa σ s.heap.size  hk0) ⟨callB_of 0 hg (gw_C m_858) rfl rfl rfl (hg _ m_1) (hg _ m_855) hd_CL_throwTooGreat ⟨Nat.le_of_ble_eq_true rfl, Nat.le_of_ble_eq_true rfl⟩, hg _ m_857, hg _ ms_27⟩ (zz_preX hM hN hX hS hA hK hP hD 0 rfl rfl) rfl hl.1 rfl (Nat.le_of_ble_eq_true rfl) d_CL_enterRow_11 ⟨Nat.le_of_ble_eq_true rfl, Nat.le_of_ble_eq_true rfl⟩ (fun r9 st9 t9 L9 h09 hal9 hR9 hL9 => ?_) (fun q9 st9 t9 L9 h09 h19 hal9 hR9 hL9 => ?_)
    · obtain ⟨hF9, hP9, x, rfl, hz9⟩ := hR9
      have hv := hv.trans (xb_l hz9)
      have hk := hk _ hz9
      have hS := zz_xS hS h09 hF9 (zz_free hD hS hA) hL9
      have hD : va_D A (Wc ty h (f_CL_throwTooGreat σ).2 px) := zz_D hD rfl
      exact B14 _ _ _ x (f_CL_throwTooGreat σ).2 hv hk (lv_sub hl [] rfl) hP9 hD hS
    · obtain ⟨hF9, hP9, E9, ce9, hz9, hq9, hn9, hc9⟩ := hR9
      have hv := hv.trans (xb_r hz9)
      have hS := zz_xS hS h09 hF9 (zz_free hD hS hA) hL9
      exact x_out htab hlocks (fun t ht hal => ⟨hS.F ht, by rw [ht, hv]; exact hP9, E9, ce9, by rw [hv], by rw [ht]; exact hq9, hn9, by rw [h19.findClass]; exact hc9⟩) hS.2.2 (Nat.le_of_ble_eq_true rfl) (Nat.le_of_ble_eq_true rfl)

-- ClauseLedger.assume(I)I
abbrev b_CL_assume : ByteArray := prog_1_method_7_code
def y_CL_assume : MethodName := ⟨"ClauseLedger", "assume", "(I)I"⟩
theorem hd_CL_assume : y_CL_assume.cls ≠ "java/lang/invoke/MethodHandle" ∧ y_CL_assume.cls ≠ "java/lang/invoke/VarHandle" ∧ (parseMethodDescriptor y_CL_assume.desc).map (fun d => d.parameters.length) = some 1 := by decide +kernel
theorem d_CL_assume_0 : decode b_CL_assume 0 = .ok (.aload_n 0, 1) := by decide +kernel
theorem d_CL_assume_1 : decode b_CL_assume 1 = .ok (.invokevirtual 102, 3) := by decide +kernel
theorem d_CL_assume_4 : decode b_CL_assume 4 = .ok (.ifCond .eq 5, 3) := by decide +kernel
theorem d_CL_assume_7 : decode b_CL_assume 7 = .ok (.iconst (-1), 1) := by decide +kernel
theorem d_CL_assume_8 : decode b_CL_assume 8 = .ok (.ireturn, 1) := by decide +kernel
theorem d_CL_assume_9 : decode b_CL_assume 9 = .ok (.aload_n 0, 1) := by decide +kernel
theorem d_CL_assume_10 : decode b_CL_assume 10 = .ok (.getfield 19, 3) := by decide +kernel
theorem d_CL_assume_13 : decode b_CL_assume 13 = .ok (.iload_n 1, 1) := by decide +kernel
theorem d_CL_assume_14 : decode b_CL_assume 14 = .ok (.invokevirtual 130, 3) := by decide +kernel
theorem d_CL_assume_17 : decode b_CL_assume 17 = .ok (.ifCond .ne 8, 3) := by decide +kernel
theorem d_CL_assume_20 : decode b_CL_assume 20 = .ok (.aload_n 0, 1) := by decide +kernel
theorem d_CL_assume_21 : decode b_CL_assume 21 = .ok (.invokevirtual 134, 3) := by decide +kernel
theorem d_CL_assume_24 : decode b_CL_assume 24 = .ok (.ireturn, 1) := by decide +kernel
theorem d_CL_assume_25 : decode b_CL_assume 25 = .ok (.aload_n 0, 1) := by decide +kernel
theorem d_CL_assume_26 : decode b_CL_assume 26 = .ok (.getfield 19, 3) := by decide +kernel
theorem d_CL_assume_29 : decode b_CL_assume 29 = .ok (.iload_n 1, 1) := by decide +kernel
theorem d_CL_assume_30 : decode b_CL_assume 30 = .ok (.invokevirtual 137, 3) := by decide +kernel
theorem d_CL_assume_33 : decode b_CL_assume 33 = .ok (.ifCond .ne 8, 3) := by decide +kernel
theorem d_CL_assume_36 : decode b_CL_assume 36 = .ok (.aload_n 0, 1) := by decide +kernel
theorem d_CL_assume_37 : decode b_CL_assume 37 = .ok (.invokevirtual 112, 3) := by decide +kernel
theorem d_CL_assume_40 : decode b_CL_assume 40 = .ok (.ireturn, 1) := by decide +kernel
theorem d_CL_assume_41 : decode b_CL_assume 41 = .ok (.aload_n 0, 1) := by decide +kernel
theorem d_CL_assume_42 : decode b_CL_assume 42 = .ok (.getfield 65, 3) := by decide +kernel
theorem d_CL_assume_45 : decode b_CL_assume 45 = .ok (.invokevirtual 140, 3) := by decide +kernel
theorem d_CL_assume_48 : decode b_CL_assume 48 = .ok (.aload_n 0, 1) := by decide +kernel
theorem d_CL_assume_49 : decode b_CL_assume 49 = .ok (.getfield 65, 3) := by decide +kernel
theorem d_CL_assume_52 : decode b_CL_assume 52 = .ok (.iload_n 1, 1) := by decide +kernel
theorem d_CL_assume_53 : decode b_CL_assume 53 = .ok (.invokevirtual 141, 3) := by decide +kernel
theorem d_CL_assume_56 : decode b_CL_assume 56 = .ok (.aload_n 0, 1) := by decide +kernel
theorem d_CL_assume_57 : decode b_CL_assume 57 = .ok (.aload_n 0, 1) := by decide +kernel
theorem d_CL_assume_58 : decode b_CL_assume 58 = .ok (.getfield 72, 3) := by decide +kernel
theorem d_CL_assume_61 : decode b_CL_assume 61 = .ok (.invokevirtual 145, 3) := by decide +kernel
theorem d_CL_assume_64 : decode b_CL_assume 64 = .ok (.iconst 1, 1) := by decide +kernel
theorem d_CL_assume_65 : decode b_CL_assume 65 = .ok (.invokevirtual 148, 3) := by decide +kernel
theorem d_CL_assume_68 : decode b_CL_assume 68 = .ok (.ireturn, 1) := by decide +kernel
def f_CL_assume_24 (s0 : Int32) (σ : St) : XR := (.inl s0, σ)
def k_CL_assume_24 (s0 : Int32) (σ : St) : Prop := True
def f_CL_assume_40 (s0 : Int32) (σ : St) : XR := (.inl s0, σ)
def k_CL_assume_40 (s0 : Int32) (σ : St) : Prop := True
def f_CL_assume_68 (s0 : Int32) (σ : St) : XR := (.inl s0, σ)
def k_CL_assume_68 (s0 : Int32) (σ : St) : Prop := True
def f_CL_assume_56 (σ : St) : XR := xb (f_CL_enterRow (f_Sc_innermost σ) 1 σ) (fun x u => f_CL_assume_68 x u)
def k_CL_assume_56 (σ : St) : Prop := (k_Sc_innermost σ) ∧ ((k_CL_enterRow (f_Sc_innermost σ) 1 σ) ∧ (∀ x, (f_CL_enterRow (f_Sc_innermost σ) 1 σ).1 = .inl x → (k_CL_assume_68 x ((f_CL_enterRow (f_Sc_innermost σ) 1 σ).2))))
def f_CL_assume_48 (x1 : Int32) (σ : St) : XR := f_CL_assume_56 (f_Ro_join x1 σ)
def k_CL_assume_48 (x1 : Int32) (σ : St) : Prop := (k_Ro_join x1 σ) ∧ (k_CL_assume_56 (f_Ro_join x1 σ))
def f_CL_assume (a1 : Int32) (σ : St) : XR := if (f_CL_isShut σ) = 0 then (if (f_Te_has a1 σ) = 0 then (xb (f_CL_throwMissing σ) (fun x u => f_CL_assume_24 x u)) else (if (f_Te_isTruth a1 σ) = 0 then (xb (f_CL_throwWrong σ) (fun x u => f_CL_assume_40 x u)) else (f_CL_assume_48 a1 (f_Ro_wipe σ)))) else (.inl (-1), σ)
def k_CL_assume (a1 : Int32) (σ : St) : Prop := (k_CL_isShut σ) ∧ (((f_CL_isShut σ) = 0 → ((k_Te_has a1 σ) ∧ (((f_Te_has a1 σ) = 0 → ((k_CL_throwMissing σ) ∧ (∀ x, (f_CL_throwMissing σ).1 = .inl x → (k_CL_assume_24 x ((f_CL_throwMissing σ).2))))) ∧ (¬ (f_Te_has a1 σ) = 0 → ((k_Te_isTruth a1 σ) ∧ (((f_Te_isTruth a1 σ) = 0 → ((k_CL_throwWrong σ) ∧ (∀ x, (f_CL_throwWrong σ).1 = .inl x → (k_CL_assume_40 x ((f_CL_throwWrong σ).2))))) ∧ (¬ (f_Te_isTruth a1 σ) = 0 → ((k_Ro_wipe σ) ∧ (k_CL_assume_48 a1 (f_Ro_wipe σ)))))))))) ∧ (¬ (f_CL_isShut σ) = 0 → True))
abbrev w_CL_assume : List Cond := Cond.code y_CL_assume b_CL_assume 2 (some .int) :: gw
abbrev rm_CL_assume : Room := { frames := 8, cells := 1, slots := 6, locals := 142 }
set_option maxHeartbeats 4000000 in
set_option maxRecDepth 100000 in
theorem c_CL_assume (l : Launch) (hlt : l.stackTraces = false) (D : va_G) (ty : Nat → ClassId) (h : Nat → Nat) (px : va_W) (sa : Nat → Nat) (σ : St) (sz : Nat) (a1 : Int32) (hk : k_CL_assume a1 σ) : xMet l y_CL_assume w_CL_assume rm_CL_assume (va_Pc [.ref (h 0), .int a1] (fun U => U.heap.size = sz ∧ va_P D classes (Wc ty h σ px) U.heap ∧ va_K D classes (Ta ty) U ∧ NW U ∧ XK sa (va_A (Wc ty h σ px) sz) U U.heap ∧ MK sa (va_A (Wc ty h σ px) sz) U U.heap ∧ va_D (fun _ => True) (Wc ty h σ px))) (Rx D classes (fun u => Wc ty h u px) (va_A (Wc ty h σ px) sz) (f_CL_assume a1 σ)) 1 6 (va_A (Wc ty h σ px) sz) := by
  refine xMet.ofW (cc := b_CL_assume) (maxL := 2) (ret := (some .int)) (by decide) rfl ?_
  intro p e s m args below meth c s₁ B hml htab hv
  obtain ⟨ha, hsz, hP, hK, hN, hX, hM, hD0⟩ := hv
  have hx := B.exec
  have hb := B.bytes
  have hr := B.returns
  have hg : ∀ w ∈ gw, w.before args s = true := fun w h9 => atoms_spec (ws := w_CL_assume) B.pre w (List.mem_cons_of_mem _ h9)
  have hown : s.vm.findClass "ClauseLedger" = some m.cls := findClass_of_methodNamed B.named
  have hlocks := B.notSynchronized
  subst hsz
  have hD := hD0.self (sz := s.heap.size)
  generalize hAe : va_A (Wc ty h σ px) s.heap.size = A at hD hM hX ⊢
  have hA : ∀ q : Nat, s.heap.size ≤ q → A q := fun q h9 => by rw [← hAe]; exact Or.inr h9
  have hS : va_S A s.heap s.heap [] := va_S.rf
  have he : entryFrame m args 2 = entryFrame m ([.ref (h 0), .int a1] : List Value).toArray 2 := by rw [ha]
  rw [he, lg_entry_eq]
  have hl := lv_entry ([.ref (h 0), .int a1]) (n := 2) (Nat.le_of_ble_eq_true rfl)
  generalize (lg_sl ([.ref (h 0), .int a1]) ++ List.replicate (2 - (lg_sl ([.ref (h 0), .int a1])).length) Slot.unset).toArray = ls at hl ⊢
  have hl : lv_has ls 2 [(0, .ref (h 0)), (1, .int a1)] := hl
  generalize hv : f_CL_assume a1 σ = v
  replace hv := hv.symm
  have B24 : ∀ (H : Heap) (locs : List Loc) (ls : Array Slot) (s0 : Int32) (σ : St), v = f_CL_assume_24 s0 σ → k_CL_assume_24 s0 σ → lv_has ls 2 [] → va_P D classes (Wc ty h σ px) H → va_D A (Wc ty h σ px) → va_S A s.heap H locs → W p l e (headSpec w_CL_assume rm_CL_assume).room s m args below meth c H locs 1 6 (xMQ below (Rx D classes (fun u => Wc ty h u px) A v) args s 1 6 A) (F0 m 24 ls [.int s0]) := by
    intro H locs ls s0 σ hv hk hl hP hD hS
    unfold f_CL_assume_24 at hv
    unfold k_CL_assume_24 at hk
    exact x_ret (fun o t hq => by obtain ⟨rfl, ht⟩ := hq; exact ⟨hS.F ht, by rw [ht, hv]; exact hP, _, rfl, by rw [hv]⟩) (Nat.le_of_ble_eq_true rfl) (Nat.le_of_ble_eq_true rfl) (W.iret (Qc := fun _ _ o t => o = .returned (some (.int s0)) ∧ t.heap = H) hx hb hr (fun t ht hW => ⟨rfl, ht⟩) hS.2.2 d_CL_assume_24)
  have B40 : ∀ (H : Heap) (locs : List Loc) (ls : Array Slot) (s0 : Int32) (σ : St), v = f_CL_assume_40 s0 σ → k_CL_assume_40 s0 σ → lv_has ls 2 [] → va_P D classes (Wc ty h σ px) H → va_D A (Wc ty h σ px) → va_S A s.heap H locs → W p l e (headSpec w_CL_assume rm_CL_assume).room s m args below meth c H locs 1 6 (xMQ below (Rx D classes (fun u => Wc ty h u px) A v) args s 1 6 A) (F0 m 40 ls [.int s0]) := by
    intro H locs ls s0 σ hv hk hl hP hD hS
    unfold f_CL_assume_40 at hv
    unfold k_CL_assume_40 at hk
    exact x_ret (fun o t hq => by obtain ⟨rfl, ht⟩ := hq; exact ⟨hS.F ht, by rw [ht, hv]; exact hP, _, rfl, by rw [hv]⟩) (Nat.le_of_ble_eq_true rfl) (Nat.le_of_ble_eq_true rfl) (W.iret (Qc := fun _ _ o t => o = .returned (some (.int s0)) ∧ t.heap = H) hx hb hr (fun t ht hW => ⟨rfl, ht⟩) hS.2.2 d_CL_assume_40)
  have B68 : ∀ (H : Heap) (locs : List Loc) (ls : Array Slot) (s0 : Int32) (σ : St), v = f_CL_assume_68 s0 σ → k_CL_assume_68 s0 σ → lv_has ls 2 [] → va_P D classes (Wc ty h σ px) H → va_D A (Wc ty h σ px) → va_S A s.heap H locs → W p l e (headSpec w_CL_assume rm_CL_assume).room s m args below meth c H locs 1 6 (xMQ below (Rx D classes (fun u => Wc ty h u px) A v) args s 1 6 A) (F0 m 68 ls [.int s0]) := by
    intro H locs ls s0 σ hv hk hl hP hD hS
    unfold f_CL_assume_68 at hv
    unfold k_CL_assume_68 at hk
    exact x_ret (fun o t hq => by obtain ⟨rfl, ht⟩ := hq; exact ⟨hS.F ht, by rw [ht, hv]; exact hP, _, rfl, by rw [hv]⟩) (Nat.le_of_ble_eq_true rfl) (Nat.le_of_ble_eq_true rfl) (W.iret (Qc := fun _ _ o t => o = .returned (some (.int s0)) ∧ t.heap = H) hx hb hr (fun t ht hW => ⟨rfl, ht⟩) hS.2.2 d_CL_assume_68)
  have B56 : ∀ (H : Heap) (locs : List Loc) (ls : Array Slot) (σ : St), v = f_CL_assume_56 σ → k_CL_assume_56 σ → lv_has ls 2 [(0, .ref (h 0))] → va_P D classes (Wc ty h σ px) H → va_D A (Wc ty h σ px) → va_S A s.heap H locs → W p l e (headSpec w_CL_assume rm_CL_assume).room s m args below meth c H locs 0 0 (xMQ below (Rx D classes (fun u => Wc ty h u px) A v) args s 1 6 A) (F0 m 56 ls []) := by
    intro H locs ls σ hv hk hl hP hD hS
    unfold f_CL_assume_56 at hv
    unfold k_CL_assume_56 at hk
    refine lv_aload_n hx hb d_CL_assume_56 rfl (lv_at hl 0 rfl) ?_
    refine lv_aload_n hx hb d_CL_assume_57 rfl (lv_at hl 0 rfl) ?_
    refine va_get (v := .ref (h 27)) (C := R_CL) (T := T_CL) (N := 11) hx hb hg in_CL hown hK hP 0 rfl rfl 8 (by decide) (hg _ m_292) (fun _ h9 => h9) rfl d_CL_assume_58 ?_
    obtain ⟨hk0, hk⟩ := hk
    refine zz_callV (va_runV (As := []) (rest := [.ref (h 0)]) ⟨hx, hb, hml, hown, hg⟩ (c_Sc_innermost l D ty h px sa σ  hk0) ⟨callB_of 0 hg (gw_C m_943) rfl rfl rfl (hg _ m_11) (hg _ m_940) hd_Sc_innermost ⟨Nat.le_of_ble_eq_true rfl, Nat.le_of_ble_eq_true rfl⟩, hg _ m_941, hg _ m_942⟩ (zz_preV (hM.at hS) hN hK hP 27 rfl rfl) rfl rfl hl.1 rfl (lv_room (Nat.le_of_ble_eq_true rfl)) d_CL_assume_61 ⟨Nat.le_of_ble_eq_true rfl, Nat.le_of_ble_eq_true rfl⟩) ?_
    refine lv_iconst (v := 1) hx hb d_CL_assume_64 (by decide) ?_
    obtain ⟨hk0, hk⟩ := hk
    refine x_callV (As := [.int (f_Sc_innermost σ), .int 1]) (rest := []) ⟨hx, hb, hml, hown, hg⟩ (c_CL_enterRow l hlt D ty h px sa σ H.size (f_Sc_innermost σ) 1 hk0) ⟨callB_of 2 hg (gw_C m_947) rfl rfl rfl (hg _ m_1) (hg _ m_944) hd_CL_enterRow ⟨Nat.le_of_ble_eq_true rfl, Nat.le_of_ble_eq_true rfl⟩, hg _ m_946, hg _ ms_30⟩ (zz_preX hM hN hX hS hA hK hP hD 0 rfl rfl) rfl hl.1 rfl (Nat.le_of_ble_eq_true rfl) d_CL_assume_65 ⟨Nat.le_of_ble_eq_true rfl, Nat.le_of_ble_eq_true rfl⟩ (fun r9 st9 t9 L9 h09 hal9 hR9 hL9 => ?_) (fun q9 st9 t9 L9 h09 h19 hal9 hR9 hL9 => ?_)
    · obtain ⟨hF9, hP9, x, rfl, hz9⟩ := hR9
      have hv := hv.trans (xb_l hz9)
      have hk := hk _ hz9
      have hS := zz_xS hS h09 hF9 (zz_free hD hS hA) hL9
      have hD : va_D A (Wc ty h (f_CL_enterRow (f_Sc_innermost σ) 1 σ).2 px) := zz_D hD rfl
      exact B68 _ _ _ x (f_CL_enterRow (f_Sc_innermost σ) 1 σ).2 hv hk (lv_sub hl [] rfl) hP9 hD hS
    · obtain ⟨hF9, hP9, E9, ce9, hz9, hq9, hn9, hc9⟩ := hR9
      have hv := hv.trans (xb_r hz9)
      have hS := zz_xS hS h09 hF9 (zz_free hD hS hA) hL9
      exact x_out htab hlocks (fun t ht hal => ⟨hS.F ht, by rw [ht, hv]; exact hP9, E9, ce9, by rw [hv], by rw [ht]; exact hq9, hn9, by rw [h19.findClass]; exact hc9⟩) hS.2.2 (Nat.le_of_ble_eq_true rfl) (Nat.le_of_ble_eq_true rfl)
  have B48 : ∀ (H : Heap) (locs : List Loc) (ls : Array Slot) (x1 : Int32) (σ : St), v = f_CL_assume_48 x1 σ → k_CL_assume_48 x1 σ → lv_has ls 2 [(0, .ref (h 0)), (1, .int x1)] → va_P D classes (Wc ty h σ px) H → va_D A (Wc ty h σ px) → va_S A s.heap H locs → W p l e (headSpec w_CL_assume rm_CL_assume).room s m args below meth c H locs 0 0 (xMQ below (Rx D classes (fun u => Wc ty h u px) A v) args s 1 6 A) (F0 m 48 ls []) := by
    intro H locs ls x1 σ hv hk hl hP hD hS
    unfold f_CL_assume_48 at hv
    unfold k_CL_assume_48 at hk
    refine lv_aload_n hx hb d_CL_assume_48 rfl (lv_at hl 0 rfl) ?_
    refine va_get (v := .ref (h 25)) (C := R_CL) (T := T_CL) (N := 11) hx hb hg in_CL hown hK hP 0 rfl rfl 7 (by decide) (hg _ m_291) (fun _ h9 => h9) rfl d_CL_assume_49 ?_
    refine lv_iload_n hx hb d_CL_assume_52 rfl (lv_at hl 1 rfl) ?_
    obtain ⟨hk0, hk⟩ := hk
    refine va_callv (va_runV (As := [.int x1]) (rest := []) ⟨hx, hb, hml, hown, hg⟩ (c_Ro_join l D ty h px sa σ H.size x1 hk0) ⟨callB_of 1 hg (gw_C m_939) rfl rfl rfl (hg _ m_10) (hg _ m_936) hd_Ro_join ⟨Nat.le_of_ble_eq_true rfl, Nat.le_of_ble_eq_true rfl⟩, hg _ m_937, hg _ m_938⟩ (zz_preVW hM hS hA hN hK hP hD 25 rfl rfl) rfl rfl hl.1 rfl (lv_room (Nat.le_of_ble_eq_true rfl)) d_CL_assume_53 ⟨Nat.le_of_ble_eq_true rfl, Nat.le_of_ble_eq_true rfl⟩) hS (fun q _ h => zz_free hD hS hA q h) (zz_free hD hS hA) (fun u53 t H locs ht hvm hp hP1 hz hk1 hS => ?_)
    rw [ht] at hP1
    rw [← hp] at hv hk
    have hD : va_D A (Wc ty h u53 px) := zz_D hD rfl
    have hP := hP1
    exact B56 _ _ _  u53 hv hk (lv_sub hl [0] rfl) hP hD hS
  unfold f_CL_assume at hv
  unfold k_CL_assume at hk
  refine lv_aload_n hx hb d_CL_assume_0 rfl (lv_at hl 0 rfl) ?_
  obtain ⟨hk0, hk⟩ := hk
  refine zz_callV (va_runV (As := []) (rest := []) ⟨hx, hb, hml, hown, hg⟩ (c_CL_isShut l D ty h px sa σ  hk0) ⟨callB_of 0 hg (gw_C m_571) rfl rfl rfl (hg _ m_1) (hg _ m_568) hd_CL_isShut ⟨Nat.le_of_ble_eq_true rfl, Nat.le_of_ble_eq_true rfl⟩, hg _ m_570, hg _ ms_8⟩ (zz_preV (hM.at hS) hN hK hP 0 rfl rfl) rfl rfl hl.1 rfl (lv_room (Nat.le_of_ble_eq_true rfl)) d_CL_assume_1 ⟨Nat.le_of_ble_eq_true rfl, Nat.le_of_ble_eq_true rfl⟩) ?_
  refine lv_if_eq (tgt := 9) hx hb d_CL_assume_4 (by decide) (fun hc => ?_) (fun hc => ?_)
  · have hv := hv.trans (if_pos hc)
    have hk := hk.1 hc
    refine lv_aload_n hx hb d_CL_assume_9 rfl (lv_at hl 0 rfl) ?_
    refine va_get (v := .ref (h 6)) (C := R_CL) (T := T_CL) (N := 11) hx hb hg in_CL hown hK hP 0 rfl rfl 1 (by decide) (hg _ m_285) (fun _ h9 => h9) rfl d_CL_assume_10 ?_
    refine lv_iload_n hx hb d_CL_assume_13 rfl (lv_at hl 1 rfl) ?_
    obtain ⟨hk0, hk⟩ := hk
    refine zz_callV (va_runV (As := [.int a1]) (rest := []) ⟨hx, hb, hml, hown, hg⟩ (c_Te_has l D ty h px sa σ a1 hk0) ⟨callB_of 1 hg (gw_C m_430) rfl rfl rfl (hg _ m_3) (hg _ m_427) hd_Te_has ⟨Nat.le_of_ble_eq_true rfl, Nat.le_of_ble_eq_true rfl⟩, hg _ m_428, hg _ m_429⟩ (zz_preV (hM.at hS) hN hK hP 6 rfl rfl) rfl rfl hl.1 rfl (lv_room (Nat.le_of_ble_eq_true rfl)) d_CL_assume_14 ⟨Nat.le_of_ble_eq_true rfl, Nat.le_of_ble_eq_true rfl⟩) ?_
    refine lv_if_ne (tgt := 25) hx hb d_CL_assume_17 (by decide) (fun hc => ?_) (fun hc => ?_)
    · have hv := hv.trans (if_neg hc)
      have hk := hk.2 hc
      refine lv_aload_n hx hb d_CL_assume_25 rfl (lv_at hl 0 rfl) ?_
      refine va_get (v := .ref (h 6)) (C := R_CL) (T := T_CL) (N := 11) hx hb hg in_CL hown hK hP 0 rfl rfl 1 (by decide) (hg _ m_285) (fun _ h9 => h9) rfl d_CL_assume_26 ?_
      refine lv_iload_n hx hb d_CL_assume_29 rfl (lv_at hl 1 rfl) ?_
      obtain ⟨hk0, hk⟩ := hk
      refine zz_callV (va_runV (As := [.int a1]) (rest := []) ⟨hx, hb, hml, hown, hg⟩ (c_Te_isTruth l D ty h px sa σ a1 hk0) ⟨callB_of 1 hg (gw_C m_661) rfl rfl rfl (hg _ m_3) (hg _ m_931) hd_Te_isTruth ⟨Nat.le_of_ble_eq_true rfl, Nat.le_of_ble_eq_true rfl⟩, hg _ m_659, hg _ m_660⟩ (zz_preV (hM.at hS) hN hK hP 6 rfl rfl) rfl rfl hl.1 rfl (lv_room (Nat.le_of_ble_eq_true rfl)) d_CL_assume_30 ⟨Nat.le_of_ble_eq_true rfl, Nat.le_of_ble_eq_true rfl⟩) ?_
      refine lv_if_ne (tgt := 41) hx hb d_CL_assume_33 (by decide) (fun hc => ?_) (fun hc => ?_)
      · have hv := hv.trans (if_neg hc)
        have hk := hk.2 hc
        refine lv_aload_n hx hb d_CL_assume_41 rfl (lv_at hl 0 rfl) ?_
        refine va_get (v := .ref (h 25)) (C := R_CL) (T := T_CL) (N := 11) hx hb hg in_CL hown hK hP 0 rfl rfl 7 (by decide) (hg _ m_291) (fun _ h9 => h9) rfl d_CL_assume_42 ?_
        obtain ⟨hk0, hk⟩ := hk
        refine va_callv (va_runV (As := []) (rest := []) ⟨hx, hb, hml, hown, hg⟩ (c_Ro_wipe l D ty h px sa σ s.heap.size  hk0) ⟨callB_of 0 hg (gw_C m_935) rfl rfl rfl (hg _ m_10) (hg _ m_932) hd_Ro_wipe ⟨Nat.le_of_ble_eq_true rfl, Nat.le_of_ble_eq_true rfl⟩, hg _ m_933, hg _ m_934⟩ (zz_preVW hM hS hA hN hK hP hD 25 rfl rfl) rfl rfl hl.1 rfl (lv_room (Nat.le_of_ble_eq_true rfl)) d_CL_assume_45 ⟨Nat.le_of_ble_eq_true rfl, Nat.le_of_ble_eq_true rfl⟩) hS (fun q _ h => zz_free hD hS hA q h) (zz_free hD hS hA) (fun u45 t H locs ht hvm hp hP1 hz hk1 hS => ?_)
        rw [ht] at hP1
        rw [← hp] at hv hk
        have hD : va_D A (Wc ty h u45 px) := zz_D hD rfl
        have hP := hP1
        exact B48 _ _ _ a1 u45 hv hk (lv_sub hl [0, 1] rfl) hP hD hS
      · have hv := hv.trans (if_pos hc)
        have hk := hk.1 hc
        refine lv_aload_n hx hb d_CL_assume_36 rfl (lv_at hl 0 rfl) ?_
        obtain ⟨hk0, hk⟩ := hk
        refine x_callV (As := []) (rest := []) ⟨hx, hb, hml, hown, hg⟩ (c_CL_throwWrong l hlt D ty h px sa σ s.heap.size  hk0) ⟨callB_of 0 hg (gw_C m_774) rfl rfl rfl (hg _ m_1) (hg _ m_771) hd_CL_throwWrong ⟨Nat.le_of_ble_eq_true rfl, Nat.le_of_ble_eq_true rfl⟩, hg _ m_773, hg _ ms_24⟩ (zz_preX hM hN hX hS hA hK hP hD 0 rfl rfl) rfl hl.1 rfl (Nat.le_of_ble_eq_true rfl) d_CL_assume_37 ⟨Nat.le_of_ble_eq_true rfl, Nat.le_of_ble_eq_true rfl⟩ (fun r9 st9 t9 L9 h09 hal9 hR9 hL9 => ?_) (fun q9 st9 t9 L9 h09 h19 hal9 hR9 hL9 => ?_)
        · obtain ⟨hF9, hP9, x, rfl, hz9⟩ := hR9
          have hv := hv.trans (xb_l hz9)
          have hk := hk _ hz9
          have hS := zz_xS hS h09 hF9 (zz_free hD hS hA) hL9
          have hD : va_D A (Wc ty h (f_CL_throwWrong σ).2 px) := zz_D hD rfl
          exact B40 _ _ _ x (f_CL_throwWrong σ).2 hv hk (lv_sub hl [] rfl) hP9 hD hS
        · obtain ⟨hF9, hP9, E9, ce9, hz9, hq9, hn9, hc9⟩ := hR9
          have hv := hv.trans (xb_r hz9)
          have hS := zz_xS hS h09 hF9 (zz_free hD hS hA) hL9
          exact x_out htab hlocks (fun t ht hal => ⟨hS.F ht, by rw [ht, hv]; exact hP9, E9, ce9, by rw [hv], by rw [ht]; exact hq9, hn9, by rw [h19.findClass]; exact hc9⟩) hS.2.2 (Nat.le_of_ble_eq_true rfl) (Nat.le_of_ble_eq_true rfl)
    · have hv := hv.trans (if_pos hc)
      have hk := hk.1 hc
      refine lv_aload_n hx hb d_CL_assume_20 rfl (lv_at hl 0 rfl) ?_
      obtain ⟨hk0, hk⟩ := hk
      refine x_callV (As := []) (rest := []) ⟨hx, hb, hml, hown, hg⟩ (c_CL_throwMissing l hlt D ty h px sa σ s.heap.size  hk0) ⟨callB_of 0 hg (gw_C m_914) rfl rfl rfl (hg _ m_1) (hg _ m_911) hd_CL_throwMissing ⟨Nat.le_of_ble_eq_true rfl, Nat.le_of_ble_eq_true rfl⟩, hg _ m_913, hg _ ms_29⟩ (zz_preX hM hN hX hS hA hK hP hD 0 rfl rfl) rfl hl.1 rfl (Nat.le_of_ble_eq_true rfl) d_CL_assume_21 ⟨Nat.le_of_ble_eq_true rfl, Nat.le_of_ble_eq_true rfl⟩ (fun r9 st9 t9 L9 h09 hal9 hR9 hL9 => ?_) (fun q9 st9 t9 L9 h09 h19 hal9 hR9 hL9 => ?_)
      · obtain ⟨hF9, hP9, x, rfl, hz9⟩ := hR9
        have hv := hv.trans (xb_l hz9)
        have hk := hk _ hz9
        have hS := zz_xS hS h09 hF9 (zz_free hD hS hA) hL9
        have hD : va_D A (Wc ty h (f_CL_throwMissing σ).2 px) := zz_D hD rfl
        exact B24 _ _ _ x (f_CL_throwMissing σ).2 hv hk (lv_sub hl [] rfl) hP9 hD hS
      · obtain ⟨hF9, hP9, E9, ce9, hz9, hq9, hn9, hc9⟩ := hR9
        have hv := hv.trans (xb_r hz9)
        have hS := zz_xS hS h09 hF9 (zz_free hD hS hA) hL9
        exact x_out htab hlocks (fun t ht hal => ⟨hS.F ht, by rw [ht, hv]; exact hP9, E9, ce9, by rw [hv], by rw [ht]; exact hq9, hn9, by rw [h19.findClass]; exact hc9⟩) hS.2.2 (Nat.le_of_ble_eq_true rfl) (Nat.le_of_ble_eq_true rfl)
  · have hv := hv.trans (if_neg hc)
    have hk := hk.2 hc
    refine lv_iconst (v := -1) hx hb d_CL_assume_7 (by decide) ?_
    exact x_ret (fun o t hq => by obtain ⟨rfl, ht⟩ := hq; exact ⟨hS.F ht, by rw [ht, hv]; exact hP, _, rfl, by rw [hv]⟩) (Nat.le_of_ble_eq_true rfl) (Nat.le_of_ble_eq_true rfl) (W.iret (Qc := fun _ _ o t => o = .returned (some (.int (-1))) ∧ t.heap = s.heap) hx hb hr (fun t ht hW => ⟨rfl, ht⟩) hS.2.2 d_CL_assume_8)

-- ClauseLedger$Steps.has(I)Z
abbrev b_St_has : ByteArray := prog_9_method_4_code
def y_St_has : MethodName := ⟨"ClauseLedger$Steps", "has", "(I)Z"⟩
theorem hd_St_has : y_St_has.cls ≠ "java/lang/invoke/MethodHandle" ∧ y_St_has.cls ≠ "java/lang/invoke/VarHandle" ∧ (parseMethodDescriptor y_St_has.desc).map (fun d => d.parameters.length) = some 1 := by decide +kernel
theorem d_St_has_0 : decode b_St_has 0 = .ok (.iload_n 1, 1) := by decide +kernel
theorem d_St_has_1 : decode b_St_has 1 = .ok (.ifCond .lt 15, 3) := by decide +kernel
theorem d_St_has_4 : decode b_St_has 4 = .ok (.iload_n 1, 1) := by decide +kernel
theorem d_St_has_5 : decode b_St_has 5 = .ok (.aload_n 0, 1) := by decide +kernel
theorem d_St_has_6 : decode b_St_has 6 = .ok (.getfield 25, 3) := by decide +kernel
theorem d_St_has_9 : decode b_St_has 9 = .ok (.if_icmp .ge 7, 3) := by decide +kernel
theorem d_St_has_12 : decode b_St_has 12 = .ok (.iconst 1, 1) := by decide +kernel
theorem d_St_has_13 : decode b_St_has 13 = .ok (.goto 4, 3) := by decide +kernel
theorem d_St_has_16 : decode b_St_has 16 = .ok (.iconst 0, 1) := by decide +kernel
theorem d_St_has_17 : decode b_St_has 17 = .ok (.ireturn, 1) := by decide +kernel
def f_St_has_17 (s0 : Int32) (σ : St) : Int32 := s0
def k_St_has_17 (s0 : Int32) (σ : St) : Prop := (narrow .boolean (.int s0) = .int s0) ∧ True
def f_St_has_16 (σ : St) : Int32 := f_St_has_17 0 σ
def k_St_has_16 (σ : St) : Prop := k_St_has_17 0 σ
def f_St_has (a1 : Int32) (σ : St) : Int32 := if a1 < 0 then (f_St_has_16 σ) else (if (σ.1 31 4) ≤ a1 then (f_St_has_16 σ) else (f_St_has_17 1 σ))
def k_St_has (a1 : Int32) (σ : St) : Prop := (a1 < 0 → (k_St_has_16 σ)) ∧ (¬ a1 < 0 → (((σ.1 31 4) ≤ a1 → (k_St_has_16 σ)) ∧ (¬ (σ.1 31 4) ≤ a1 → (k_St_has_17 1 σ))))
abbrev w_St_has : List Cond := Cond.code y_St_has b_St_has 2 (some .boolean) :: gw
abbrev rm_St_has : Room := { frames := 0, cells := 0, slots := 0, locals := 0 }
set_option maxHeartbeats 4000000 in
set_option maxRecDepth 100000 in
theorem c_St_has (l : Launch) (D : va_G) (ty : Nat → ClassId) (h : Nat → Nat) (px : va_W) (sa : Nat → Nat) (σ : St) (a1 : Int32) (hk : k_St_has a1 σ) : Met l y_St_has w_St_has rm_St_has (va_Pc [.ref (h 31), .int a1] (fun U => va_P D classes (Wc ty h σ px) U.heap ∧ va_K D classes (Ta ty) U ∧ NW U ∧ MK sa (fun _ => False) U U.heap)) (k2_QcV (.int (f_St_has a1 σ))) 0 0 (fun _ => False) := by
  refine Met.ofW (cc := b_St_has) (maxL := 2) (ret := (some .boolean)) (by decide) rfl ?_
  intro p e s m args below meth c s₁ B hml hv
  obtain ⟨ha, hP, hK, hN, hM⟩ := hv
  have hx := B.exec
  have hb := B.bytes
  have hr := B.returns
  have hg : ∀ w ∈ gw, w.before args s = true := fun w h9 => atoms_spec (ws := w_St_has) B.pre w (List.mem_cons_of_mem _ h9)
  have hown : s.vm.findClass "ClauseLedger$Steps" = some m.cls := findClass_of_methodNamed B.named
  have hlocks := B.notSynchronized
  have he : entryFrame m args 2 = entryFrame m ([.ref (h 31), .int a1] : List Value).toArray 2 := by rw [ha]
  rw [he, lg_entry_eq]
  have hl := lv_entry ([.ref (h 31), .int a1]) (n := 2) (Nat.le_of_ble_eq_true rfl)
  generalize (lg_sl ([.ref (h 31), .int a1]) ++ List.replicate (2 - (lg_sl ([.ref (h 31), .int a1])).length) Slot.unset).toArray = ls at hl ⊢
  have hl : lv_has ls 2 [(0, .ref (h 31)), (1, .int a1)] := hl
  generalize hv : f_St_has a1 σ = v
  replace hv := hv.symm
  have B17 : ∀ (ls : Array Slot) (s0 : Int32), v = f_St_has_17 s0 σ → k_St_has_17 s0 σ → lv_has ls 2 [] → W p l e (headSpec w_St_has rm_St_has).room s m args below meth c s.heap [] 0 0 (MQ below (k2_QcV (.int v)) args s 0 0 (fun _ => False)) (F0 m 17 ls [.int s0]) := by
    intro ls s0 hv hk hl
    unfold f_St_has_17 at hv
    unfold k_St_has_17 at hk
    obtain ⟨hk0, hk⟩ := hk
    exact W.zret hx hb hr hk0 (fun t ht hW => ⟨by rw [hv], ht⟩) (fun q h => nomatch h) d_St_has_17
  have B16 : ∀ (ls : Array Slot), v = f_St_has_16 σ → k_St_has_16 σ → lv_has ls 2 [] → W p l e (headSpec w_St_has rm_St_has).room s m args below meth c s.heap [] 0 0 (MQ below (k2_QcV (.int v)) args s 0 0 (fun _ => False)) (F0 m 16 ls []) := by
    intro ls hv hk hl
    unfold f_St_has_16 at hv
    unfold k_St_has_16 at hk
    refine lv_iconst (v := 0) hx hb d_St_has_16 (by decide) ?_
    exact B17 _ 0 hv hk (lv_sub hl [] rfl)
  unfold f_St_has at hv
  unfold k_St_has at hk
  refine lv_iload_n hx hb d_St_has_0 rfl (lv_at hl 1 rfl) ?_
  refine lv_if_lt (tgt := 16) hx hb d_St_has_1 (by decide) (fun hc => ?_) (fun hc => ?_)
  · have hv := hv.trans (if_pos hc)
    have hk := hk.1 hc
    exact B16 _  hv hk (lv_sub hl [] rfl)
  · have hv := hv.trans (if_neg hc)
    have hk := hk.2 hc
    refine lv_iload_n hx hb d_St_has_4 rfl (lv_at hl 1 rfl) ?_
    refine lv_aload_n hx hb d_St_has_5 rfl (lv_at hl 0 rfl) ?_
    refine va_get (v := .int (σ.1 31 4)) (C := R_St) (T := T_St) (N := 5) hx hb hg in_St hown hK hP 31 rfl rfl 4 (by decide) (hg _ m_272) (fun _ h9 => h9) rfl d_St_has_6 ?_
    refine lv_icmp_ge (tgt := 16) hx hb d_St_has_9 (by decide) (fun hc => ?_) (fun hc => ?_)
    · have hv := hv.trans (if_pos hc)
      have hk := hk.1 hc
      exact B16 _  hv hk (lv_sub hl [] rfl)
    · have hv := hv.trans (if_neg hc)
      have hk := hk.2 hc
      refine lv_iconst (v := 1) hx hb d_St_has_12 (by decide) ?_
      refine lv_goto (tgt := 17) hx hb d_St_has_13 (by decide) ?_
      exact B17 _ 1 hv hk (lv_sub hl [] rfl)

-- ClauseLedger$Steps.scopeOf(I)I
abbrev b_St_scopeOf : ByteArray := prog_9_method_7_code
def y_St_scopeOf : MethodName := ⟨"ClauseLedger$Steps", "scopeOf", "(I)I"⟩
theorem hd_St_scopeOf : y_St_scopeOf.cls ≠ "java/lang/invoke/MethodHandle" ∧ y_St_scopeOf.cls ≠ "java/lang/invoke/VarHandle" ∧ (parseMethodDescriptor y_St_scopeOf.desc).map (fun d => d.parameters.length) = some 1 := by decide +kernel
theorem d_St_scopeOf_0 : decode b_St_scopeOf 0 = .ok (.aload_n 0, 1) := by decide +kernel
theorem d_St_scopeOf_1 : decode b_St_scopeOf 1 = .ok (.iload_n 1, 1) := by decide +kernel
theorem d_St_scopeOf_2 : decode b_St_scopeOf 2 = .ok (.invokevirtual 29, 3) := by decide +kernel
theorem d_St_scopeOf_5 : decode b_St_scopeOf 5 = .ok (.ifCond .eq 12, 3) := by decide +kernel
theorem d_St_scopeOf_8 : decode b_St_scopeOf 8 = .ok (.aload_n 0, 1) := by decide +kernel
theorem d_St_scopeOf_9 : decode b_St_scopeOf 9 = .ok (.getfield 18, 3) := by decide +kernel
theorem d_St_scopeOf_12 : decode b_St_scopeOf 12 = .ok (.iload_n 1, 1) := by decide +kernel
theorem d_St_scopeOf_13 : decode b_St_scopeOf 13 = .ok (.iaload, 1) := by decide +kernel
theorem d_St_scopeOf_14 : decode b_St_scopeOf 14 = .ok (.goto 4, 3) := by decide +kernel
theorem d_St_scopeOf_17 : decode b_St_scopeOf 17 = .ok (.iconst (-1), 1) := by decide +kernel
theorem d_St_scopeOf_18 : decode b_St_scopeOf 18 = .ok (.ireturn, 1) := by decide +kernel
def f_St_scopeOf_18 (s0 : Int32) (σ : St) : Int32 := s0
def k_St_scopeOf_18 (s0 : Int32) (σ : St) : Prop := True
def f_St_scopeOf (a1 : Int32) (σ : St) : Int32 := if (f_St_has a1 σ) = 0 then (f_St_scopeOf_18 (-1) σ) else (f_St_scopeOf_18 (σ.1 34 a1.toNatClampNeg) σ)
def k_St_scopeOf (a1 : Int32) (σ : St) : Prop := (k_St_has a1 σ) ∧ (((f_St_has a1 σ) = 0 → (k_St_scopeOf_18 (-1) σ)) ∧ (¬ (f_St_has a1 σ) = 0 → (vp_in a1 60 ∧ (k_St_scopeOf_18 (σ.1 34 a1.toNatClampNeg) σ))))
abbrev w_St_scopeOf : List Cond := Cond.code y_St_scopeOf b_St_scopeOf 2 (some .int) :: gw
abbrev rm_St_scopeOf : Room := { frames := 1, cells := 0, slots := 0, locals := 21 }
set_option maxHeartbeats 4000000 in
set_option maxRecDepth 100000 in
theorem c_St_scopeOf (l : Launch) (D : va_G) (ty : Nat → ClassId) (h : Nat → Nat) (px : va_W) (sa : Nat → Nat) (σ : St) (a1 : Int32) (hk : k_St_scopeOf a1 σ) : Met l y_St_scopeOf w_St_scopeOf rm_St_scopeOf (va_Pc [.ref (h 31), .int a1] (fun U => va_P D classes (Wc ty h σ px) U.heap ∧ va_K D classes (Ta ty) U ∧ NW U ∧ MK sa (fun _ => False) U U.heap)) (k2_QcV (.int (f_St_scopeOf a1 σ))) 0 0 (fun _ => False) := by
  refine Met.ofW (cc := b_St_scopeOf) (maxL := 2) (ret := (some .int)) (by decide) rfl ?_
  intro p e s m args below meth c s₁ B hml hv
  obtain ⟨ha, hP, hK, hN, hM⟩ := hv
  have hx := B.exec
  have hb := B.bytes
  have hr := B.returns
  have hg : ∀ w ∈ gw, w.before args s = true := fun w h9 => atoms_spec (ws := w_St_scopeOf) B.pre w (List.mem_cons_of_mem _ h9)
  have hown : s.vm.findClass "ClauseLedger$Steps" = some m.cls := findClass_of_methodNamed B.named
  have hlocks := B.notSynchronized
  have he : entryFrame m args 2 = entryFrame m ([.ref (h 31), .int a1] : List Value).toArray 2 := by rw [ha]
  rw [he, lg_entry_eq]
  have hl := lv_entry ([.ref (h 31), .int a1]) (n := 2) (Nat.le_of_ble_eq_true rfl)
  generalize (lg_sl ([.ref (h 31), .int a1]) ++ List.replicate (2 - (lg_sl ([.ref (h 31), .int a1])).length) Slot.unset).toArray = ls at hl ⊢
  have hl : lv_has ls 2 [(0, .ref (h 31)), (1, .int a1)] := hl
  generalize hv : f_St_scopeOf a1 σ = v
  replace hv := hv.symm
  have B18 : ∀ (ls : Array Slot) (s0 : Int32), v = f_St_scopeOf_18 s0 σ → k_St_scopeOf_18 s0 σ → lv_has ls 2 [] → W p l e (headSpec w_St_scopeOf rm_St_scopeOf).room s m args below meth c s.heap [] 0 0 (MQ below (k2_QcV (.int v)) args s 0 0 (fun _ => False)) (F0 m 18 ls [.int s0]) := by
    intro ls s0 hv hk hl
    unfold f_St_scopeOf_18 at hv
    unfold k_St_scopeOf_18 at hk
    exact W.iret hx hb hr (fun t ht hW => ⟨by rw [hv], ht⟩) (fun q h => nomatch h) d_St_scopeOf_18
  unfold f_St_scopeOf at hv
  unfold k_St_scopeOf at hk
  refine lv_aload_n hx hb d_St_scopeOf_0 rfl (lv_at hl 0 rfl) ?_
  refine lv_iload_n hx hb d_St_scopeOf_1 rfl (lv_at hl 1 rfl) ?_
  obtain ⟨hk0, hk⟩ := hk
  refine zz_callV (va_runV (As := [.int a1]) (rest := []) ⟨hx, hb, hml, hown, hg⟩ (c_St_has l D ty h px sa σ a1 hk0) ⟨callB_of 1 hg (gw_C m_380) rfl rfl rfl (hg _ m_12) (hg _ m_377) hd_St_has ⟨Nat.le_of_ble_eq_true rfl, Nat.le_of_ble_eq_true rfl⟩, hg _ m_378, hg _ m_379⟩ (zz_preV hM hN hK hP 31 rfl rfl) rfl rfl hl.1 rfl (lv_room (Nat.le_of_ble_eq_true rfl)) d_St_scopeOf_2 ⟨Nat.le_of_ble_eq_true rfl, Nat.le_of_ble_eq_true rfl⟩) ?_
  refine lv_if_eq (tgt := 17) hx hb d_St_scopeOf_5 (by decide) (fun hc => ?_) (fun hc => ?_)
  · have hv := hv.trans (if_pos hc)
    have hk := hk.1 hc
    refine lv_iconst (v := -1) hx hb d_St_scopeOf_17 (by decide) ?_
    exact B18 _ (-1) hv hk (lv_sub hl [] rfl)
  · have hv := hv.trans (if_neg hc)
    have hk := hk.2 hc
    refine lv_aload_n hx hb d_St_scopeOf_8 rfl (lv_at hl 0 rfl) ?_
    refine va_get (v := .ref (h 34)) (C := R_St) (T := T_St) (N := 5) hx hb hg in_St hown hK hP 31 rfl rfl 2 (by decide) (hg _ m_270) (fun _ h9 => h9) rfl d_St_scopeOf_9 ?_
    refine lv_iload_n hx hb d_St_scopeOf_12 rfl (lv_at hl 1 rfl) ?_
    obtain ⟨hk0, hk⟩ := hk
    refine va_iald hx hb hK hP 34 0 rfl rfl hk0 d_St_scopeOf_13 ?_
    refine lv_goto (tgt := 18) hx hb d_St_scopeOf_14 (by decide) ?_
    exact B18 _ (σ.1 34 a1.toNatClampNeg) hv hk (lv_sub hl [] rfl)

-- ClauseLedger$Scopes.has(I)Z
abbrev b_Sc_has : ByteArray := prog_7_method_9_code
def y_Sc_has : MethodName := ⟨"ClauseLedger$Scopes", "has", "(I)Z"⟩
theorem hd_Sc_has : y_Sc_has.cls ≠ "java/lang/invoke/MethodHandle" ∧ y_Sc_has.cls ≠ "java/lang/invoke/VarHandle" ∧ (parseMethodDescriptor y_Sc_has.desc).map (fun d => d.parameters.length) = some 1 := by decide +kernel
theorem d_Sc_has_0 : decode b_Sc_has 0 = .ok (.iload_n 1, 1) := by decide +kernel
theorem d_Sc_has_1 : decode b_Sc_has 1 = .ok (.ifCond .lt 15, 3) := by decide +kernel
theorem d_Sc_has_4 : decode b_Sc_has 4 = .ok (.iload_n 1, 1) := by decide +kernel
theorem d_Sc_has_5 : decode b_Sc_has 5 = .ok (.aload_n 0, 1) := by decide +kernel
theorem d_Sc_has_6 : decode b_Sc_has 6 = .ok (.getfield 22, 3) := by decide +kernel
theorem d_Sc_has_9 : decode b_Sc_has 9 = .ok (.if_icmp .ge 7, 3) := by decide +kernel
theorem d_Sc_has_12 : decode b_Sc_has 12 = .ok (.iconst 1, 1) := by decide +kernel
theorem d_Sc_has_13 : decode b_Sc_has 13 = .ok (.goto 4, 3) := by decide +kernel
theorem d_Sc_has_16 : decode b_Sc_has 16 = .ok (.iconst 0, 1) := by decide +kernel
theorem d_Sc_has_17 : decode b_Sc_has 17 = .ok (.ireturn, 1) := by decide +kernel
def f_Sc_has_17 (s0 : Int32) (σ : St) : Int32 := s0
def k_Sc_has_17 (s0 : Int32) (σ : St) : Prop := (narrow .boolean (.int s0) = .int s0) ∧ True
def f_Sc_has_16 (σ : St) : Int32 := f_Sc_has_17 0 σ
def k_Sc_has_16 (σ : St) : Prop := k_Sc_has_17 0 σ
def f_Sc_has (a1 : Int32) (σ : St) : Int32 := if a1 < 0 then (f_Sc_has_16 σ) else (if (σ.1 27 3) ≤ a1 then (f_Sc_has_16 σ) else (f_Sc_has_17 1 σ))
def k_Sc_has (a1 : Int32) (σ : St) : Prop := (a1 < 0 → (k_Sc_has_16 σ)) ∧ (¬ a1 < 0 → (((σ.1 27 3) ≤ a1 → (k_Sc_has_16 σ)) ∧ (¬ (σ.1 27 3) ≤ a1 → (k_Sc_has_17 1 σ))))
abbrev w_Sc_has : List Cond := Cond.code y_Sc_has b_Sc_has 2 (some .boolean) :: gw
abbrev rm_Sc_has : Room := { frames := 0, cells := 0, slots := 0, locals := 0 }
set_option maxHeartbeats 4000000 in
set_option maxRecDepth 100000 in
theorem c_Sc_has (l : Launch) (D : va_G) (ty : Nat → ClassId) (h : Nat → Nat) (px : va_W) (sa : Nat → Nat) (σ : St) (a1 : Int32) (hk : k_Sc_has a1 σ) : Met l y_Sc_has w_Sc_has rm_Sc_has (va_Pc [.ref (h 27), .int a1] (fun U => va_P D classes (Wc ty h σ px) U.heap ∧ va_K D classes (Ta ty) U ∧ NW U ∧ MK sa (fun _ => False) U U.heap)) (k2_QcV (.int (f_Sc_has a1 σ))) 0 0 (fun _ => False) := by
  refine Met.ofW (cc := b_Sc_has) (maxL := 2) (ret := (some .boolean)) (by decide) rfl ?_
  intro p e s m args below meth c s₁ B hml hv
  obtain ⟨ha, hP, hK, hN, hM⟩ := hv
  have hx := B.exec
  have hb := B.bytes
  have hr := B.returns
  have hg : ∀ w ∈ gw, w.before args s = true := fun w h9 => atoms_spec (ws := w_Sc_has) B.pre w (List.mem_cons_of_mem _ h9)
  have hown : s.vm.findClass "ClauseLedger$Scopes" = some m.cls := findClass_of_methodNamed B.named
  have hlocks := B.notSynchronized
  have he : entryFrame m args 2 = entryFrame m ([.ref (h 27), .int a1] : List Value).toArray 2 := by rw [ha]
  rw [he, lg_entry_eq]
  have hl := lv_entry ([.ref (h 27), .int a1]) (n := 2) (Nat.le_of_ble_eq_true rfl)
  generalize (lg_sl ([.ref (h 27), .int a1]) ++ List.replicate (2 - (lg_sl ([.ref (h 27), .int a1])).length) Slot.unset).toArray = ls at hl ⊢
  have hl : lv_has ls 2 [(0, .ref (h 27)), (1, .int a1)] := hl
  generalize hv : f_Sc_has a1 σ = v
  replace hv := hv.symm
  have B17 : ∀ (ls : Array Slot) (s0 : Int32), v = f_Sc_has_17 s0 σ → k_Sc_has_17 s0 σ → lv_has ls 2 [] → W p l e (headSpec w_Sc_has rm_Sc_has).room s m args below meth c s.heap [] 0 0 (MQ below (k2_QcV (.int v)) args s 0 0 (fun _ => False)) (F0 m 17 ls [.int s0]) := by
    intro ls s0 hv hk hl
    unfold f_Sc_has_17 at hv
    unfold k_Sc_has_17 at hk
    obtain ⟨hk0, hk⟩ := hk
    exact W.zret hx hb hr hk0 (fun t ht hW => ⟨by rw [hv], ht⟩) (fun q h => nomatch h) d_Sc_has_17
  have B16 : ∀ (ls : Array Slot), v = f_Sc_has_16 σ → k_Sc_has_16 σ → lv_has ls 2 [] → W p l e (headSpec w_Sc_has rm_Sc_has).room s m args below meth c s.heap [] 0 0 (MQ below (k2_QcV (.int v)) args s 0 0 (fun _ => False)) (F0 m 16 ls []) := by
    intro ls hv hk hl
    unfold f_Sc_has_16 at hv
    unfold k_Sc_has_16 at hk
    refine lv_iconst (v := 0) hx hb d_Sc_has_16 (by decide) ?_
    exact B17 _ 0 hv hk (lv_sub hl [] rfl)
  unfold f_Sc_has at hv
  unfold k_Sc_has at hk
  refine lv_iload_n hx hb d_Sc_has_0 rfl (lv_at hl 1 rfl) ?_
  refine lv_if_lt (tgt := 16) hx hb d_Sc_has_1 (by decide) (fun hc => ?_) (fun hc => ?_)
  · have hv := hv.trans (if_pos hc)
    have hk := hk.1 hc
    exact B16 _  hv hk (lv_sub hl [] rfl)
  · have hv := hv.trans (if_neg hc)
    have hk := hk.2 hc
    refine lv_iload_n hx hb d_Sc_has_4 rfl (lv_at hl 1 rfl) ?_
    refine lv_aload_n hx hb d_Sc_has_5 rfl (lv_at hl 0 rfl) ?_
    refine va_get (v := .int (σ.1 27 3)) (C := R_Sc) (T := T_Sc) (N := 5) hx hb hg in_Sc hown hK hP 27 rfl rfl 3 (by decide) (hg _ m_248) (fun _ h9 => h9) rfl d_Sc_has_6 ?_
    refine lv_icmp_ge (tgt := 16) hx hb d_Sc_has_9 (by decide) (fun hc => ?_) (fun hc => ?_)
    · have hv := hv.trans (if_pos hc)
      have hk := hk.1 hc
      exact B16 _  hv hk (lv_sub hl [] rfl)
    · have hv := hv.trans (if_neg hc)
      have hk := hk.2 hc
      refine lv_iconst (v := 1) hx hb d_Sc_has_12 (by decide) ?_
      refine lv_goto (tgt := 17) hx hb d_Sc_has_13 (by decide) ?_
      exact B17 _ 1 hv hk (lv_sub hl [] rfl)

-- ClauseLedger$Scopes.isClosed(I)Z
abbrev b_Sc_isClosed : ByteArray := prog_7_method_6_code
def y_Sc_isClosed : MethodName := ⟨"ClauseLedger$Scopes", "isClosed", "(I)Z"⟩
theorem hd_Sc_isClosed : y_Sc_isClosed.cls ≠ "java/lang/invoke/MethodHandle" ∧ y_Sc_isClosed.cls ≠ "java/lang/invoke/VarHandle" ∧ (parseMethodDescriptor y_Sc_isClosed.desc).map (fun d => d.parameters.length) = some 1 := by decide +kernel
theorem d_Sc_isClosed_0 : decode b_Sc_isClosed 0 = .ok (.aload_n 0, 1) := by decide +kernel
theorem d_Sc_isClosed_1 : decode b_Sc_isClosed 1 = .ok (.iload_n 1, 1) := by decide +kernel
theorem d_Sc_isClosed_2 : decode b_Sc_isClosed 2 = .ok (.invokevirtual 29, 3) := by decide +kernel
theorem d_Sc_isClosed_5 : decode b_Sc_isClosed 5 = .ok (.ifCond .eq 16, 3) := by decide +kernel
theorem d_Sc_isClosed_8 : decode b_Sc_isClosed 8 = .ok (.aload_n 0, 1) := by decide +kernel
theorem d_Sc_isClosed_9 : decode b_Sc_isClosed 9 = .ok (.getfield 18, 3) := by decide +kernel
theorem d_Sc_isClosed_12 : decode b_Sc_isClosed 12 = .ok (.iload_n 1, 1) := by decide +kernel
theorem d_Sc_isClosed_13 : decode b_Sc_isClosed 13 = .ok (.baload, 1) := by decide +kernel
theorem d_Sc_isClosed_14 : decode b_Sc_isClosed 14 = .ok (.ifCond .eq 7, 3) := by decide +kernel
theorem d_Sc_isClosed_17 : decode b_Sc_isClosed 17 = .ok (.iconst 1, 1) := by decide +kernel
theorem d_Sc_isClosed_18 : decode b_Sc_isClosed 18 = .ok (.goto 4, 3) := by decide +kernel
theorem d_Sc_isClosed_21 : decode b_Sc_isClosed 21 = .ok (.iconst 0, 1) := by decide +kernel
theorem d_Sc_isClosed_22 : decode b_Sc_isClosed 22 = .ok (.ireturn, 1) := by decide +kernel
def f_Sc_isClosed_22 (s0 : Int32) (σ : St) : Int32 := s0
def k_Sc_isClosed_22 (s0 : Int32) (σ : St) : Prop := (narrow .boolean (.int s0) = .int s0) ∧ True
def f_Sc_isClosed_21 (σ : St) : Int32 := f_Sc_isClosed_22 0 σ
def k_Sc_isClosed_21 (σ : St) : Prop := k_Sc_isClosed_22 0 σ
def f_Sc_isClosed (a1 : Int32) (σ : St) : Int32 := if (f_Sc_has a1 σ) = 0 then (f_Sc_isClosed_21 σ) else (if (σ.1 30 a1.toNatClampNeg) = 0 then (f_Sc_isClosed_21 σ) else (f_Sc_isClosed_22 1 σ))
def k_Sc_isClosed (a1 : Int32) (σ : St) : Prop := (k_Sc_has a1 σ) ∧ (((f_Sc_has a1 σ) = 0 → (k_Sc_isClosed_21 σ)) ∧ (¬ (f_Sc_has a1 σ) = 0 → (vp_in a1 21 ∧ (((σ.1 30 a1.toNatClampNeg) = 0 → (k_Sc_isClosed_21 σ)) ∧ (¬ (σ.1 30 a1.toNatClampNeg) = 0 → (k_Sc_isClosed_22 1 σ))))))
abbrev w_Sc_isClosed : List Cond := Cond.code y_Sc_isClosed b_Sc_isClosed 2 (some .boolean) :: gw
abbrev rm_Sc_isClosed : Room := { frames := 1, cells := 0, slots := 0, locals := 21 }
set_option maxHeartbeats 4000000 in
set_option maxRecDepth 100000 in
theorem c_Sc_isClosed (l : Launch) (D : va_G) (ty : Nat → ClassId) (h : Nat → Nat) (px : va_W) (sa : Nat → Nat) (σ : St) (a1 : Int32) (hk : k_Sc_isClosed a1 σ) : Met l y_Sc_isClosed w_Sc_isClosed rm_Sc_isClosed (va_Pc [.ref (h 27), .int a1] (fun U => va_P D classes (Wc ty h σ px) U.heap ∧ va_K D classes (Ta ty) U ∧ NW U ∧ MK sa (fun _ => False) U U.heap)) (k2_QcV (.int (f_Sc_isClosed a1 σ))) 0 0 (fun _ => False) := by
  refine Met.ofW (cc := b_Sc_isClosed) (maxL := 2) (ret := (some .boolean)) (by decide) rfl ?_
  intro p e s m args below meth c s₁ B hml hv
  obtain ⟨ha, hP, hK, hN, hM⟩ := hv
  have hx := B.exec
  have hb := B.bytes
  have hr := B.returns
  have hg : ∀ w ∈ gw, w.before args s = true := fun w h9 => atoms_spec (ws := w_Sc_isClosed) B.pre w (List.mem_cons_of_mem _ h9)
  have hown : s.vm.findClass "ClauseLedger$Scopes" = some m.cls := findClass_of_methodNamed B.named
  have hlocks := B.notSynchronized
  have he : entryFrame m args 2 = entryFrame m ([.ref (h 27), .int a1] : List Value).toArray 2 := by rw [ha]
  rw [he, lg_entry_eq]
  have hl := lv_entry ([.ref (h 27), .int a1]) (n := 2) (Nat.le_of_ble_eq_true rfl)
  generalize (lg_sl ([.ref (h 27), .int a1]) ++ List.replicate (2 - (lg_sl ([.ref (h 27), .int a1])).length) Slot.unset).toArray = ls at hl ⊢
  have hl : lv_has ls 2 [(0, .ref (h 27)), (1, .int a1)] := hl
  generalize hv : f_Sc_isClosed a1 σ = v
  replace hv := hv.symm
  have B22 : ∀ (ls : Array Slot) (s0 : Int32), v = f_Sc_isClosed_22 s0 σ → k_Sc_isClosed_22 s0 σ → lv_has ls 2 [] → W p l e (headSpec w_Sc_isClosed rm_Sc_isClosed).room s m args below meth c s.heap [] 0 0 (MQ below (k2_QcV (.int v)) args s 0 0 (fun _ => False)) (F0 m 22 ls [.int s0]) := by
    intro ls s0 hv hk hl
    unfold f_Sc_isClosed_22 at hv
    unfold k_Sc_isClosed_22 at hk
    obtain ⟨hk0, hk⟩ := hk
    exact W.zret hx hb hr hk0 (fun t ht hW => ⟨by rw [hv], ht⟩) (fun q h => nomatch h) d_Sc_isClosed_22
  have B21 : ∀ (ls : Array Slot), v = f_Sc_isClosed_21 σ → k_Sc_isClosed_21 σ → lv_has ls 2 [] → W p l e (headSpec w_Sc_isClosed rm_Sc_isClosed).room s m args below meth c s.heap [] 0 0 (MQ below (k2_QcV (.int v)) args s 0 0 (fun _ => False)) (F0 m 21 ls []) := by
    intro ls hv hk hl
    unfold f_Sc_isClosed_21 at hv
    unfold k_Sc_isClosed_21 at hk
    refine lv_iconst (v := 0) hx hb d_Sc_isClosed_21 (by decide) ?_
    exact B22 _ 0 hv hk (lv_sub hl [] rfl)
  unfold f_Sc_isClosed at hv
  unfold k_Sc_isClosed at hk
  refine lv_aload_n hx hb d_Sc_isClosed_0 rfl (lv_at hl 0 rfl) ?_
  refine lv_iload_n hx hb d_Sc_isClosed_1 rfl (lv_at hl 1 rfl) ?_
  obtain ⟨hk0, hk⟩ := hk
  refine zz_callV (va_runV (As := [.int a1]) (rest := []) ⟨hx, hb, hml, hown, hg⟩ (c_Sc_has l D ty h px sa σ a1 hk0) ⟨callB_of 1 hg (gw_C m_402) rfl rfl rfl (hg _ m_11) (hg _ m_399) hd_Sc_has ⟨Nat.le_of_ble_eq_true rfl, Nat.le_of_ble_eq_true rfl⟩, hg _ m_401, hg _ ms_2⟩ (zz_preV hM hN hK hP 27 rfl rfl) rfl rfl hl.1 rfl (lv_room (Nat.le_of_ble_eq_true rfl)) d_Sc_isClosed_2 ⟨Nat.le_of_ble_eq_true rfl, Nat.le_of_ble_eq_true rfl⟩) ?_
  refine lv_if_eq (tgt := 21) hx hb d_Sc_isClosed_5 (by decide) (fun hc => ?_) (fun hc => ?_)
  · have hv := hv.trans (if_pos hc)
    have hk := hk.1 hc
    exact B21 _  hv hk (lv_sub hl [] rfl)
  · have hv := hv.trans (if_neg hc)
    have hk := hk.2 hc
    refine lv_aload_n hx hb d_Sc_isClosed_8 rfl (lv_at hl 0 rfl) ?_
    refine va_get (v := .ref (h 30)) (C := R_Sc) (T := T_Sc) (N := 5) hx hb hg in_Sc hown hK hP 27 rfl rfl 2 (by decide) (hg _ m_247) (fun _ h9 => h9) rfl d_Sc_isClosed_9 ?_
    refine lv_iload_n hx hb d_Sc_isClosed_12 rfl (lv_at hl 1 rfl) ?_
    obtain ⟨hk0, hk⟩ := hk
    refine va_zald hx hb hK hP 30 3 rfl rfl hk0 d_Sc_isClosed_13 ?_
    refine lv_if_eq (tgt := 21) hx hb d_Sc_isClosed_14 (by decide) (fun hc => ?_) (fun hc => ?_)
    · have hv := hv.trans (if_pos hc)
      have hk := hk.1 hc
      exact B21 _  hv hk (lv_sub hl [] rfl)
    · have hv := hv.trans (if_neg hc)
      have hk := hk.2 hc
      refine lv_iconst (v := 1) hx hb d_Sc_isClosed_17 (by decide) ?_
      refine lv_goto (tgt := 22) hx hb d_Sc_isClosed_18 (by decide) ?_
      exact B22 _ 1 hv hk (lv_sub hl [] rfl)

-- ClauseLedger.stands(I)Z
abbrev b_CL_stands : ByteArray := prog_1_method_26_code
def y_CL_stands : MethodName := ⟨"ClauseLedger", "stands", "(I)Z"⟩
theorem hd_CL_stands : y_CL_stands.cls ≠ "java/lang/invoke/MethodHandle" ∧ y_CL_stands.cls ≠ "java/lang/invoke/VarHandle" ∧ (parseMethodDescriptor y_CL_stands.desc).map (fun d => d.parameters.length) = some 1 := by decide +kernel
theorem d_CL_stands_0 : decode b_CL_stands 0 = .ok (.aload_n 0, 1) := by decide +kernel
theorem d_CL_stands_1 : decode b_CL_stands 1 = .ok (.getfield 79, 3) := by decide +kernel
theorem d_CL_stands_4 : decode b_CL_stands 4 = .ok (.iload_n 1, 1) := by decide +kernel
theorem d_CL_stands_5 : decode b_CL_stands 5 = .ok (.invokevirtual 248, 3) := by decide +kernel
theorem d_CL_stands_8 : decode b_CL_stands 8 = .ok (.ifCond .eq 25, 3) := by decide +kernel
theorem d_CL_stands_11 : decode b_CL_stands 11 = .ok (.aload_n 0, 1) := by decide +kernel
theorem d_CL_stands_12 : decode b_CL_stands 12 = .ok (.getfield 72, 3) := by decide +kernel
theorem d_CL_stands_15 : decode b_CL_stands 15 = .ok (.aload_n 0, 1) := by decide +kernel
theorem d_CL_stands_16 : decode b_CL_stands 16 = .ok (.getfield 79, 3) := by decide +kernel
theorem d_CL_stands_19 : decode b_CL_stands 19 = .ok (.iload_n 1, 1) := by decide +kernel
theorem d_CL_stands_20 : decode b_CL_stands 20 = .ok (.invokevirtual 249, 3) := by decide +kernel
theorem d_CL_stands_23 : decode b_CL_stands 23 = .ok (.invokevirtual 271, 3) := by decide +kernel
theorem d_CL_stands_26 : decode b_CL_stands 26 = .ok (.ifCond .ne 7, 3) := by decide +kernel
theorem d_CL_stands_29 : decode b_CL_stands 29 = .ok (.iconst 1, 1) := by decide +kernel
theorem d_CL_stands_30 : decode b_CL_stands 30 = .ok (.goto 4, 3) := by decide +kernel
theorem d_CL_stands_33 : decode b_CL_stands 33 = .ok (.iconst 0, 1) := by decide +kernel
theorem d_CL_stands_34 : decode b_CL_stands 34 = .ok (.ireturn, 1) := by decide +kernel
def f_CL_stands_34 (s0 : Int32) (σ : St) : Int32 := s0
def k_CL_stands_34 (s0 : Int32) (σ : St) : Prop := (narrow .boolean (.int s0) = .int s0) ∧ True
def f_CL_stands_33 (σ : St) : Int32 := f_CL_stands_34 0 σ
def k_CL_stands_33 (σ : St) : Prop := k_CL_stands_34 0 σ
def f_CL_stands (a1 : Int32) (σ : St) : Int32 := if (f_St_has a1 σ) = 0 then (f_CL_stands_33 σ) else (if (f_Sc_isClosed (f_St_scopeOf a1 σ) σ) = 0 then (f_CL_stands_34 1 σ) else (f_CL_stands_33 σ))
def k_CL_stands (a1 : Int32) (σ : St) : Prop := (k_St_has a1 σ) ∧ (((f_St_has a1 σ) = 0 → (k_CL_stands_33 σ)) ∧ (¬ (f_St_has a1 σ) = 0 → ((k_St_scopeOf a1 σ) ∧ ((k_Sc_isClosed (f_St_scopeOf a1 σ) σ) ∧ (((f_Sc_isClosed (f_St_scopeOf a1 σ) σ) = 0 → (k_CL_stands_34 1 σ)) ∧ (¬ (f_Sc_isClosed (f_St_scopeOf a1 σ) σ) = 0 → (k_CL_stands_33 σ)))))))
abbrev w_CL_stands : List Cond := Cond.code y_CL_stands b_CL_stands 2 (some .boolean) :: gw
abbrev rm_CL_stands : Room := { frames := 2, cells := 0, slots := 0, locals := 42 }
set_option maxHeartbeats 4000000 in
set_option maxRecDepth 100000 in
theorem c_CL_stands (l : Launch) (D : va_G) (ty : Nat → ClassId) (h : Nat → Nat) (px : va_W) (sa : Nat → Nat) (σ : St) (a1 : Int32) (hk : k_CL_stands a1 σ) : Met l y_CL_stands w_CL_stands rm_CL_stands (va_Pc [.ref (h 0), .int a1] (fun U => va_P D classes (Wc ty h σ px) U.heap ∧ va_K D classes (Ta ty) U ∧ NW U ∧ MK sa (fun _ => False) U U.heap)) (k2_QcV (.int (f_CL_stands a1 σ))) 0 0 (fun _ => False) := by
  refine Met.ofW (cc := b_CL_stands) (maxL := 2) (ret := (some .boolean)) (by decide) rfl ?_
  intro p e s m args below meth c s₁ B hml hv
  obtain ⟨ha, hP, hK, hN, hM⟩ := hv
  have hx := B.exec
  have hb := B.bytes
  have hr := B.returns
  have hg : ∀ w ∈ gw, w.before args s = true := fun w h9 => atoms_spec (ws := w_CL_stands) B.pre w (List.mem_cons_of_mem _ h9)
  have hown : s.vm.findClass "ClauseLedger" = some m.cls := findClass_of_methodNamed B.named
  have hlocks := B.notSynchronized
  have he : entryFrame m args 2 = entryFrame m ([.ref (h 0), .int a1] : List Value).toArray 2 := by rw [ha]
  rw [he, lg_entry_eq]
  have hl := lv_entry ([.ref (h 0), .int a1]) (n := 2) (Nat.le_of_ble_eq_true rfl)
  generalize (lg_sl ([.ref (h 0), .int a1]) ++ List.replicate (2 - (lg_sl ([.ref (h 0), .int a1])).length) Slot.unset).toArray = ls at hl ⊢
  have hl : lv_has ls 2 [(0, .ref (h 0)), (1, .int a1)] := hl
  generalize hv : f_CL_stands a1 σ = v
  replace hv := hv.symm
  have B34 : ∀ (ls : Array Slot) (s0 : Int32), v = f_CL_stands_34 s0 σ → k_CL_stands_34 s0 σ → lv_has ls 2 [] → W p l e (headSpec w_CL_stands rm_CL_stands).room s m args below meth c s.heap [] 0 0 (MQ below (k2_QcV (.int v)) args s 0 0 (fun _ => False)) (F0 m 34 ls [.int s0]) := by
    intro ls s0 hv hk hl
    unfold f_CL_stands_34 at hv
    unfold k_CL_stands_34 at hk
    obtain ⟨hk0, hk⟩ := hk
    exact W.zret hx hb hr hk0 (fun t ht hW => ⟨by rw [hv], ht⟩) (fun q h => nomatch h) d_CL_stands_34
  have B33 : ∀ (ls : Array Slot), v = f_CL_stands_33 σ → k_CL_stands_33 σ → lv_has ls 2 [] → W p l e (headSpec w_CL_stands rm_CL_stands).room s m args below meth c s.heap [] 0 0 (MQ below (k2_QcV (.int v)) args s 0 0 (fun _ => False)) (F0 m 33 ls []) := by
    intro ls hv hk hl
    unfold f_CL_stands_33 at hv
    unfold k_CL_stands_33 at hk
    refine lv_iconst (v := 0) hx hb d_CL_stands_33 (by decide) ?_
    exact B34 _ 0 hv hk (lv_sub hl [] rfl)
  unfold f_CL_stands at hv
  unfold k_CL_stands at hk
  refine lv_aload_n hx hb d_CL_stands_0 rfl (lv_at hl 0 rfl) ?_
  refine va_get (v := .ref (h 31)) (C := R_CL) (T := T_CL) (N := 11) hx hb hg in_CL hown hK hP 0 rfl rfl 9 (by decide) (hg _ m_293) (fun _ h9 => h9) rfl d_CL_stands_1 ?_
  refine lv_iload_n hx hb d_CL_stands_4 rfl (lv_at hl 1 rfl) ?_
  obtain ⟨hk0, hk⟩ := hk
  refine zz_callV (va_runV (As := [.int a1]) (rest := []) ⟨hx, hb, hml, hown, hg⟩ (c_St_has l D ty h px sa σ a1 hk0) ⟨callB_of 1 hg (gw_C m_380) rfl rfl rfl (hg _ m_12) (hg _ m_390) hd_St_has ⟨Nat.le_of_ble_eq_true rfl, Nat.le_of_ble_eq_true rfl⟩, hg _ m_378, hg _ m_379⟩ (zz_preV hM hN hK hP 31 rfl rfl) rfl rfl hl.1 rfl (lv_room (Nat.le_of_ble_eq_true rfl)) d_CL_stands_5 ⟨Nat.le_of_ble_eq_true rfl, Nat.le_of_ble_eq_true rfl⟩) ?_
  refine lv_if_eq (tgt := 33) hx hb d_CL_stands_8 (by decide) (fun hc => ?_) (fun hc => ?_)
  · have hv := hv.trans (if_pos hc)
    have hk := hk.1 hc
    exact B33 _  hv hk (lv_sub hl [] rfl)
  · have hv := hv.trans (if_neg hc)
    have hk := hk.2 hc
    refine lv_aload_n hx hb d_CL_stands_11 rfl (lv_at hl 0 rfl) ?_
    refine va_get (v := .ref (h 27)) (C := R_CL) (T := T_CL) (N := 11) hx hb hg in_CL hown hK hP 0 rfl rfl 8 (by decide) (hg _ m_292) (fun _ h9 => h9) rfl d_CL_stands_12 ?_
    refine lv_aload_n hx hb d_CL_stands_15 rfl (lv_at hl 0 rfl) ?_
    refine va_get (v := .ref (h 31)) (C := R_CL) (T := T_CL) (N := 11) hx hb hg in_CL hown hK hP 0 rfl rfl 9 (by decide) (hg _ m_293) (fun _ h9 => h9) rfl d_CL_stands_16 ?_
    refine lv_iload_n hx hb d_CL_stands_19 rfl (lv_at hl 1 rfl) ?_
    obtain ⟨hk0, hk⟩ := hk
    refine zz_callV (va_runV (As := [.int a1]) (rest := [.ref (h 27)]) ⟨hx, hb, hml, hown, hg⟩ (c_St_scopeOf l D ty h px sa σ a1 hk0) ⟨callB_of 1 hg (gw_C m_394) rfl rfl rfl (hg _ m_12) (hg _ m_391) hd_St_scopeOf ⟨Nat.le_of_ble_eq_true rfl, Nat.le_of_ble_eq_true rfl⟩, hg _ m_392, hg _ m_393⟩ (zz_preV hM hN hK hP 31 rfl rfl) rfl rfl hl.1 rfl (lv_room (Nat.le_of_ble_eq_true rfl)) d_CL_stands_20 ⟨Nat.le_of_ble_eq_true rfl, Nat.le_of_ble_eq_true rfl⟩) ?_
    obtain ⟨hk0, hk⟩ := hk
    refine zz_callV (va_runV (As := [.int (f_St_scopeOf a1 σ)]) (rest := []) ⟨hx, hb, hml, hown, hg⟩ (c_Sc_isClosed l D ty h px sa σ (f_St_scopeOf a1 σ) hk0) ⟨callB_of 1 hg (gw_C m_410) rfl rfl rfl (hg _ m_11) (hg _ m_407) hd_Sc_isClosed ⟨Nat.le_of_ble_eq_true rfl, Nat.le_of_ble_eq_true rfl⟩, hg _ m_408, hg _ m_409⟩ (zz_preV hM hN hK hP 27 rfl rfl) rfl rfl hl.1 rfl (lv_room (Nat.le_of_ble_eq_true rfl)) d_CL_stands_23 ⟨Nat.le_of_ble_eq_true rfl, Nat.le_of_ble_eq_true rfl⟩) ?_
    refine lv_if_ne (tgt := 33) hx hb d_CL_stands_26 (by decide) (fun hc => ?_) (fun hc => ?_)
    · have hv := hv.trans (if_neg hc)
      have hk := hk.2 hc
      exact B33 _  hv hk (lv_sub hl [] rfl)
    · have hv := hv.trans (if_pos hc)
      have hk := hk.1 hc
      refine lv_iconst (v := 1) hx hb d_CL_stands_29 (by decide) ?_
      refine lv_goto (tgt := 34) hx hb d_CL_stands_30 (by decide) ?_
      exact B34 _ 1 hv hk (lv_sub hl [] rfl)

-- ClauseLedger$Terms.firstOf(I)I
abbrev b_Te_firstOf : ByteArray := prog_11_method_8_code
def y_Te_firstOf : MethodName := ⟨"ClauseLedger$Terms", "firstOf", "(I)I"⟩
theorem hd_Te_firstOf : y_Te_firstOf.cls ≠ "java/lang/invoke/MethodHandle" ∧ y_Te_firstOf.cls ≠ "java/lang/invoke/VarHandle" ∧ (parseMethodDescriptor y_Te_firstOf.desc).map (fun d => d.parameters.length) = some 1 := by decide +kernel
theorem d_Te_firstOf_0 : decode b_Te_firstOf 0 = .ok (.aload_n 0, 1) := by decide +kernel
theorem d_Te_firstOf_1 : decode b_Te_firstOf 1 = .ok (.iload_n 1, 1) := by decide +kernel
theorem d_Te_firstOf_2 : decode b_Te_firstOf 2 = .ok (.invokevirtual 57, 3) := by decide +kernel
theorem d_Te_firstOf_5 : decode b_Te_firstOf 5 = .ok (.ifCond .eq 12, 3) := by decide +kernel
theorem d_Te_firstOf_8 : decode b_Te_firstOf 8 = .ok (.aload_n 0, 1) := by decide +kernel
theorem d_Te_firstOf_9 : decode b_Te_firstOf 9 = .ok (.getfield 21, 3) := by decide +kernel
theorem d_Te_firstOf_12 : decode b_Te_firstOf 12 = .ok (.iload_n 1, 1) := by decide +kernel
theorem d_Te_firstOf_13 : decode b_Te_firstOf 13 = .ok (.iaload, 1) := by decide +kernel
theorem d_Te_firstOf_14 : decode b_Te_firstOf 14 = .ok (.goto 4, 3) := by decide +kernel
theorem d_Te_firstOf_17 : decode b_Te_firstOf 17 = .ok (.iconst (-1), 1) := by decide +kernel
theorem d_Te_firstOf_18 : decode b_Te_firstOf 18 = .ok (.ireturn, 1) := by decide +kernel
def f_Te_firstOf_18 (s0 : Int32) (σ : St) : Int32 := s0
def k_Te_firstOf_18 (s0 : Int32) (σ : St) : Prop := True
def f_Te_firstOf (a1 : Int32) (σ : St) : Int32 := if (f_Te_has a1 σ) = 0 then (f_Te_firstOf_18 (-1) σ) else (f_Te_firstOf_18 (σ.1 10 a1.toNatClampNeg) σ)
def k_Te_firstOf (a1 : Int32) (σ : St) : Prop := (k_Te_has a1 σ) ∧ (((f_Te_has a1 σ) = 0 → (k_Te_firstOf_18 (-1) σ)) ∧ (¬ (f_Te_has a1 σ) = 0 → (vp_in a1 208 ∧ (k_Te_firstOf_18 (σ.1 10 a1.toNatClampNeg) σ))))
abbrev w_Te_firstOf : List Cond := Cond.code y_Te_firstOf b_Te_firstOf 2 (some .int) :: gw
abbrev rm_Te_firstOf : Room := { frames := 1, cells := 0, slots := 0, locals := 21 }
set_option maxHeartbeats 4000000 in
set_option maxRecDepth 100000 in
theorem c_Te_firstOf (l : Launch) (D : va_G) (ty : Nat → ClassId) (h : Nat → Nat) (px : va_W) (sa : Nat → Nat) (σ : St) (a1 : Int32) (hk : k_Te_firstOf a1 σ) : Met l y_Te_firstOf w_Te_firstOf rm_Te_firstOf (va_Pc [.ref (h 6), .int a1] (fun U => va_P D classes (Wc ty h σ px) U.heap ∧ va_K D classes (Ta ty) U ∧ NW U ∧ MK sa (fun _ => False) U U.heap)) (k2_QcV (.int (f_Te_firstOf a1 σ))) 0 0 (fun _ => False) := by
  refine Met.ofW (cc := b_Te_firstOf) (maxL := 2) (ret := (some .int)) (by decide) rfl ?_
  intro p e s m args below meth c s₁ B hml hv
  obtain ⟨ha, hP, hK, hN, hM⟩ := hv
  have hx := B.exec
  have hb := B.bytes
  have hr := B.returns
  have hg : ∀ w ∈ gw, w.before args s = true := fun w h9 => atoms_spec (ws := w_Te_firstOf) B.pre w (List.mem_cons_of_mem _ h9)
  have hown : s.vm.findClass "ClauseLedger$Terms" = some m.cls := findClass_of_methodNamed B.named
  have hlocks := B.notSynchronized
  have he : entryFrame m args 2 = entryFrame m ([.ref (h 6), .int a1] : List Value).toArray 2 := by rw [ha]
  rw [he, lg_entry_eq]
  have hl := lv_entry ([.ref (h 6), .int a1]) (n := 2) (Nat.le_of_ble_eq_true rfl)
  generalize (lg_sl ([.ref (h 6), .int a1]) ++ List.replicate (2 - (lg_sl ([.ref (h 6), .int a1])).length) Slot.unset).toArray = ls at hl ⊢
  have hl : lv_has ls 2 [(0, .ref (h 6)), (1, .int a1)] := hl
  generalize hv : f_Te_firstOf a1 σ = v
  replace hv := hv.symm
  have B18 : ∀ (ls : Array Slot) (s0 : Int32), v = f_Te_firstOf_18 s0 σ → k_Te_firstOf_18 s0 σ → lv_has ls 2 [] → W p l e (headSpec w_Te_firstOf rm_Te_firstOf).room s m args below meth c s.heap [] 0 0 (MQ below (k2_QcV (.int v)) args s 0 0 (fun _ => False)) (F0 m 18 ls [.int s0]) := by
    intro ls s0 hv hk hl
    unfold f_Te_firstOf_18 at hv
    unfold k_Te_firstOf_18 at hk
    exact W.iret hx hb hr (fun t ht hW => ⟨by rw [hv], ht⟩) (fun q h => nomatch h) d_Te_firstOf_18
  unfold f_Te_firstOf at hv
  unfold k_Te_firstOf at hk
  refine lv_aload_n hx hb d_Te_firstOf_0 rfl (lv_at hl 0 rfl) ?_
  refine lv_iload_n hx hb d_Te_firstOf_1 rfl (lv_at hl 1 rfl) ?_
  obtain ⟨hk0, hk⟩ := hk
  refine zz_callV (va_runV (As := [.int a1]) (rest := []) ⟨hx, hb, hml, hown, hg⟩ (c_Te_has l D ty h px sa σ a1 hk0) ⟨callB_of 1 hg (gw_C m_430) rfl rfl rfl (hg _ m_3) (hg _ m_435) hd_Te_has ⟨Nat.le_of_ble_eq_true rfl, Nat.le_of_ble_eq_true rfl⟩, hg _ m_428, hg _ m_429⟩ (zz_preV hM hN hK hP 6 rfl rfl) rfl rfl hl.1 rfl (lv_room (Nat.le_of_ble_eq_true rfl)) d_Te_firstOf_2 ⟨Nat.le_of_ble_eq_true rfl, Nat.le_of_ble_eq_true rfl⟩) ?_
  refine lv_if_eq (tgt := 17) hx hb d_Te_firstOf_5 (by decide) (fun hc => ?_) (fun hc => ?_)
  · have hv := hv.trans (if_pos hc)
    have hk := hk.1 hc
    refine lv_iconst (v := -1) hx hb d_Te_firstOf_17 (by decide) ?_
    exact B18 _ (-1) hv hk (lv_sub hl [] rfl)
  · have hv := hv.trans (if_neg hc)
    have hk := hk.2 hc
    refine lv_aload_n hx hb d_Te_firstOf_8 rfl (lv_at hl 0 rfl) ?_
    refine va_get (v := .ref (h 10)) (C := R_Te) (T := T_Te) (N := 14) hx hb hg in_Te hown hK hP 6 rfl rfl 3 (by decide) (hg _ m_72) (fun _ h9 => h9) rfl d_Te_firstOf_9 ?_
    refine lv_iload_n hx hb d_Te_firstOf_12 rfl (lv_at hl 1 rfl) ?_
    obtain ⟨hk0, hk⟩ := hk
    refine va_iald hx hb hK hP 10 0 rfl rfl hk0 d_Te_firstOf_13 ?_
    refine lv_goto (tgt := 18) hx hb d_Te_firstOf_14 (by decide) ?_
    exact B18 _ (σ.1 10 a1.toNatClampNeg) hv hk (lv_sub hl [] rfl)

-- ClauseLedger$Terms.findOpposite(I)I
abbrev b_Te_findOpposite : ByteArray := prog_11_method_23_code
def y_Te_findOpposite : MethodName := ⟨"ClauseLedger$Terms", "findOpposite", "(I)I"⟩
theorem hd_Te_findOpposite : y_Te_findOpposite.cls ≠ "java/lang/invoke/MethodHandle" ∧ y_Te_findOpposite.cls ≠ "java/lang/invoke/VarHandle" ∧ (parseMethodDescriptor y_Te_findOpposite.desc).map (fun d => d.parameters.length) = some 1 := by decide +kernel
theorem d_Te_findOpposite_0 : decode b_Te_findOpposite 0 = .ok (.aload_n 0, 1) := by decide +kernel
theorem d_Te_findOpposite_1 : decode b_Te_findOpposite 1 = .ok (.iload_n 1, 1) := by decide +kernel
theorem d_Te_findOpposite_2 : decode b_Te_findOpposite 2 = .ok (.invokevirtual 109, 3) := by decide +kernel
theorem d_Te_findOpposite_5 : decode b_Te_findOpposite 5 = .ok (.bipush 7, 2) := by decide +kernel
theorem d_Te_findOpposite_7 : decode b_Te_findOpposite 7 = .ok (.if_icmp .ne 11, 3) := by decide +kernel
theorem d_Te_findOpposite_10 : decode b_Te_findOpposite 10 = .ok (.aload_n 0, 1) := by decide +kernel
theorem d_Te_findOpposite_11 : decode b_Te_findOpposite 11 = .ok (.iload_n 1, 1) := by decide +kernel
theorem d_Te_findOpposite_12 : decode b_Te_findOpposite 12 = .ok (.invokevirtual 112, 3) := by decide +kernel
theorem d_Te_findOpposite_15 : decode b_Te_findOpposite 15 = .ok (.goto 18, 3) := by decide +kernel
theorem d_Te_findOpposite_18 : decode b_Te_findOpposite 18 = .ok (.aload_n 0, 1) := by decide +kernel
theorem d_Te_findOpposite_19 : decode b_Te_findOpposite 19 = .ok (.bipush 7, 2) := by decide +kernel
theorem d_Te_findOpposite_21 : decode b_Te_findOpposite 21 = .ok (.iconst (-1), 1) := by decide +kernel
theorem d_Te_findOpposite_22 : decode b_Te_findOpposite 22 = .ok (.iload_n 1, 1) := by decide +kernel
theorem d_Te_findOpposite_23 : decode b_Te_findOpposite 23 = .ok (.iconst (-1), 1) := by decide +kernel
theorem d_Te_findOpposite_24 : decode b_Te_findOpposite 24 = .ok (.invokestatic 68, 3) := by decide +kernel
theorem d_Te_findOpposite_27 : decode b_Te_findOpposite 27 = .ok (.iload_n 1, 1) := by decide +kernel
theorem d_Te_findOpposite_28 : decode b_Te_findOpposite 28 = .ok (.iconst 1, 1) := by decide +kernel
theorem d_Te_findOpposite_29 : decode b_Te_findOpposite 29 = .ok (.iadd, 1) := by decide +kernel
theorem d_Te_findOpposite_30 : decode b_Te_findOpposite 30 = .ok (.invokevirtual 78, 3) := by decide +kernel
theorem d_Te_findOpposite_33 : decode b_Te_findOpposite 33 = .ok (.ireturn, 1) := by decide +kernel
def f_Te_findOpposite_33 (s0 : Int32) (σ : St) : Int32 := s0
def k_Te_findOpposite_33 (s0 : Int32) (σ : St) : Prop := True
def f_Te_findOpposite (a1 : Int32) (σ : St) : Int32 := if (f_Te_kindOf a1 σ) = 7 then (f_Te_findOpposite_33 (f_Te_firstOf a1 σ) σ) else (f_Te_findOpposite_33 (f_Te_find (f_Te_keyOf 7 (-1) a1 (-1) σ) (a1 + 1) σ) σ)
def k_Te_findOpposite (a1 : Int32) (σ : St) : Prop := (k_Te_kindOf a1 σ) ∧ (((f_Te_kindOf a1 σ) = 7 → ((k_Te_firstOf a1 σ) ∧ (k_Te_findOpposite_33 (f_Te_firstOf a1 σ) σ))) ∧ (¬ (f_Te_kindOf a1 σ) = 7 → ((k_Te_keyOf 7 (-1) a1 (-1) σ) ∧ ((k_Te_find (f_Te_keyOf 7 (-1) a1 (-1) σ) (a1 + 1) σ) ∧ (k_Te_findOpposite_33 (f_Te_find (f_Te_keyOf 7 (-1) a1 (-1) σ) (a1 + 1) σ) σ)))))
abbrev w_Te_findOpposite : List Cond := Cond.code y_Te_findOpposite b_Te_findOpposite 2 (some .int) :: gw
abbrev rm_Te_findOpposite : Room := { frames := 2, cells := 0, slots := 0, locals := 45 }
set_option maxHeartbeats 4000000 in
set_option maxRecDepth 100000 in
theorem c_Te_findOpposite (l : Launch) (D : va_G) (ty : Nat → ClassId) (h : Nat → Nat) (px : va_W) (sa : Nat → Nat) (σ : St) (a1 : Int32) (hk : k_Te_findOpposite a1 σ) : Met l y_Te_findOpposite w_Te_findOpposite rm_Te_findOpposite (va_Pc [.ref (h 6), .int a1] (fun U => va_P D classes (Wc ty h σ px) U.heap ∧ va_K D classes (Ta ty) U ∧ NW U ∧ MK sa (fun _ => False) U U.heap)) (k2_QcV (.int (f_Te_findOpposite a1 σ))) 0 0 (fun _ => False) := by
  refine Met.ofW (cc := b_Te_findOpposite) (maxL := 2) (ret := (some .int)) (by decide) rfl ?_
  intro p e s m args below meth c s₁ B hml hv
  obtain ⟨ha, hP, hK, hN, hM⟩ := hv
  have hx := B.exec
  have hb := B.bytes
  have hr := B.returns
  have hg : ∀ w ∈ gw, w.before args s = true := fun w h9 => atoms_spec (ws := w_Te_findOpposite) B.pre w (List.mem_cons_of_mem _ h9)
  have hown : s.vm.findClass "ClauseLedger$Terms" = some m.cls := findClass_of_methodNamed B.named
  have hlocks := B.notSynchronized
  have he : entryFrame m args 2 = entryFrame m ([.ref (h 6), .int a1] : List Value).toArray 2 := by rw [ha]
  rw [he, lg_entry_eq]
  have hl := lv_entry ([.ref (h 6), .int a1]) (n := 2) (Nat.le_of_ble_eq_true rfl)
  generalize (lg_sl ([.ref (h 6), .int a1]) ++ List.replicate (2 - (lg_sl ([.ref (h 6), .int a1])).length) Slot.unset).toArray = ls at hl ⊢
  have hl : lv_has ls 2 [(0, .ref (h 6)), (1, .int a1)] := hl
  generalize hv : f_Te_findOpposite a1 σ = v
  replace hv := hv.symm
  have B33 : ∀ (ls : Array Slot) (s0 : Int32), v = f_Te_findOpposite_33 s0 σ → k_Te_findOpposite_33 s0 σ → lv_has ls 2 [] → W p l e (headSpec w_Te_findOpposite rm_Te_findOpposite).room s m args below meth c s.heap [] 0 0 (MQ below (k2_QcV (.int v)) args s 0 0 (fun _ => False)) (F0 m 33 ls [.int s0]) := by
    intro ls s0 hv hk hl
    unfold f_Te_findOpposite_33 at hv
    unfold k_Te_findOpposite_33 at hk
    exact W.iret hx hb hr (fun t ht hW => ⟨by rw [hv], ht⟩) (fun q h => nomatch h) d_Te_findOpposite_33
  unfold f_Te_findOpposite at hv
  unfold k_Te_findOpposite at hk
  refine lv_aload_n hx hb d_Te_findOpposite_0 rfl (lv_at hl 0 rfl) ?_
  refine lv_iload_n hx hb d_Te_findOpposite_1 rfl (lv_at hl 1 rfl) ?_
  obtain ⟨hk0, hk⟩ := hk
  refine zz_callV (va_runV (As := [.int a1]) (rest := []) ⟨hx, hb, hml, hown, hg⟩ (c_Te_kindOf l D ty h px sa σ a1 hk0) ⟨callB_of 1 hg (gw_C m_434) rfl rfl rfl (hg _ m_3) (hg _ m_978) hd_Te_kindOf ⟨Nat.le_of_ble_eq_true rfl, Nat.le_of_ble_eq_true rfl⟩, hg _ m_432, hg _ m_433⟩ (zz_preV hM hN hK hP 6 rfl rfl) rfl rfl hl.1 rfl (lv_room (Nat.le_of_ble_eq_true rfl)) d_Te_findOpposite_2 ⟨Nat.le_of_ble_eq_true rfl, Nat.le_of_ble_eq_true rfl⟩) ?_
  refine lv_bipush (v := 7) hx hb d_Te_findOpposite_5 (by decide) ?_
  refine lv_icmp_ne (tgt := 18) hx hb d_Te_findOpposite_7 (by decide) (fun hc => ?_) (fun hc => ?_)
  · have hv := hv.trans (if_neg hc)
    have hk := hk.2 hc
    refine lv_aload_n hx hb d_Te_findOpposite_18 rfl (lv_at hl 0 rfl) ?_
    refine lv_bipush (v := 7) hx hb d_Te_findOpposite_19 (by decide) ?_
    refine lv_iconst (v := -1) hx hb d_Te_findOpposite_21 (by decide) ?_
    refine lv_iload_n hx hb d_Te_findOpposite_22 rfl (lv_at hl 1 rfl) ?_
    refine lv_iconst (v := -1) hx hb d_Te_findOpposite_23 (by decide) ?_
    obtain ⟨hk0, hk⟩ := hk
    refine zz_callV (va_runS (As := [.int 7, .int (-1), .int a1, .int (-1)]) (rest := [.ref (h 6)]) ⟨hx, hb, hml, hown, hg⟩ (c_Te_keyOf l D ty h px sa σ 7 (-1) a1 (-1) hk0) ⟨callB_of 4 hg (gw_C m_623) rfl rfl rfl (hg _ m_3) (hg _ m_621) hd_Te_keyOf ⟨Nat.le_of_ble_eq_true rfl, Nat.le_of_ble_eq_true rfl⟩, hg _ m_622⟩ (zz_preS hM hN hK hP) rfl rfl hl.1 rfl (lv_room (Nat.le_of_ble_eq_true rfl)) d_Te_findOpposite_24 ⟨Nat.le_of_ble_eq_true rfl, Nat.le_of_ble_eq_true rfl⟩) ?_
    refine lv_iload_n hx hb d_Te_findOpposite_27 rfl (lv_at hl 1 rfl) ?_
    refine lv_iconst (v := 1) hx hb d_Te_findOpposite_28 (by decide) ?_
    refine lv_iadd hx hb d_Te_findOpposite_29 ?_
    obtain ⟨hk0, hk⟩ := hk
    refine zz_callV (va_runV (As := [.long (f_Te_keyOf 7 (-1) a1 (-1) σ), .int (a1 + 1)]) (rest := []) ⟨hx, hb, hml, hown, hg⟩ (c_Te_find l D ty h px sa σ (f_Te_keyOf 7 (-1) a1 (-1) σ) (a1 + 1) hk0) ⟨callB_of 2 hg (gw_C m_634) rfl rfl rfl (hg _ m_3) (hg _ m_631) hd_Te_find ⟨Nat.le_of_ble_eq_true rfl, Nat.le_of_ble_eq_true rfl⟩, hg _ m_633, hg _ ms_14⟩ (zz_preV hM hN hK hP 6 rfl rfl) rfl rfl hl.1 rfl (lv_room (Nat.le_of_ble_eq_true rfl)) d_Te_findOpposite_30 ⟨Nat.le_of_ble_eq_true rfl, Nat.le_of_ble_eq_true rfl⟩) ?_
    exact B33 _ (f_Te_find (f_Te_keyOf 7 (-1) a1 (-1) σ) (a1 + 1) σ) hv hk (lv_sub hl [] rfl)
  · have hv := hv.trans (if_pos hc)
    have hk := hk.1 hc
    refine lv_aload_n hx hb d_Te_findOpposite_10 rfl (lv_at hl 0 rfl) ?_
    refine lv_iload_n hx hb d_Te_findOpposite_11 rfl (lv_at hl 1 rfl) ?_
    obtain ⟨hk0, hk⟩ := hk
    refine zz_callV (va_runV (As := [.int a1]) (rest := []) ⟨hx, hb, hml, hown, hg⟩ (c_Te_firstOf l D ty h px sa σ a1 hk0) ⟨callB_of 1 hg (gw_C m_447) rfl rfl rfl (hg _ m_3) (hg _ m_979) hd_Te_firstOf ⟨Nat.le_of_ble_eq_true rfl, Nat.le_of_ble_eq_true rfl⟩, hg _ m_445, hg _ m_446⟩ (zz_preV hM hN hK hP 6 rfl rfl) rfl rfl hl.1 rfl (lv_room (Nat.le_of_ble_eq_true rfl)) d_Te_findOpposite_12 ⟨Nat.le_of_ble_eq_true rfl, Nat.le_of_ble_eq_true rfl⟩) ?_
    refine lv_goto (tgt := 33) hx hb d_Te_findOpposite_15 (by decide) ?_
    exact B33 _ (f_Te_firstOf a1 σ) hv hk (lv_sub hl [] rfl)

