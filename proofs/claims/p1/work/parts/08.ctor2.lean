theorem zz_preC {s : State} {H : Heap} {D : va_G} {cl : List vw_C} {tys : List (ClassId × FieldType)} {wc : va_W} {A0 : Nat → Prop} (hK : va_K D cl tys s) (hP : va_P D cl wc H) (hD : va_D A0 wc) {As : List Value} : PreS s H (va_Pc As (fun U => U.heap.size = H.size ∧ va_P D cl wc U.heap ∧ va_K D cl tys U ∧ va_D (fun _ => True) wc)) As :=
  ⟨fun a U g mk h => ⟨h.1, h.2.1, h.2.2.1, va_K.moved (u := U) (U := U.calling g mk a) (Vm.Alike.refl U.vm) h.2.2.2.1, h.2.2.2.2⟩, fun U hU hW => ⟨rfl, by rw [hU], by rw [hU]; exact hP, va_K.moved hW.alike hK, hD.weaken (fun _ _ _ _ => trivial)⟩⟩
theorem zz_preCA {s : State} {H : Heap} {D : va_G} {cl : List vw_C} {tys : List (ClassId × FieldType)} {wc : va_W} {A0 : Nat → Prop} (hO : va_AO "ClauseLedger$Sum" s) (hK : va_K D cl tys s) (hP : va_P D cl wc H) (hD : va_D A0 wc) {As : List Value} : PreS s H (va_Pc As (fun U => U.heap.size = H.size ∧ va_P D cl wc U.heap ∧ va_K D cl tys U ∧ va_AO "ClauseLedger$Sum" U ∧ va_D (fun _ => True) wc)) As :=
  ⟨fun a U g mk h => ⟨h.1, h.2.1, h.2.2.1, va_K.moved (u := U) (U := U.calling g mk a) (Vm.Alike.refl U.vm) h.2.2.2.1, va_AO.moved (u := U) (U := U.calling g mk a) (Vm.Alike.refl U.vm) h.2.2.2.2.1, h.2.2.2.2.2⟩, fun U hU hW => ⟨rfl, by rw [hU], by rw [hU]; exact hP, va_K.moved hW.alike hK, va_AO.moved hW.alike hO, hD.weaken (fun _ _ _ _ => trivial)⟩⟩
-- ClauseLedger$Sum.<init>(I)V
abbrev b_Su_init : ByteArray := prog_10_method_1_code
def y_Su_init : MethodName := ⟨"ClauseLedger$Sum", "<init>", "(I)V"⟩
theorem hd_Su_init : y_Su_init.cls ≠ "java/lang/invoke/MethodHandle" ∧ y_Su_init.cls ≠ "java/lang/invoke/VarHandle" ∧ (parseMethodDescriptor y_Su_init.desc).map (fun d => d.parameters.length) = some 1 := by decide +kernel
theorem d_Su_init_0 : decode b_Su_init 0 = .ok (.aload_n 0, 1) := by decide +kernel
theorem d_Su_init_1 : decode b_Su_init 1 = .ok (.invokespecial 3, 3) := by decide +kernel
theorem d_Su_init_4 : decode b_Su_init 4 = .ok (.aload_n 0, 1) := by decide +kernel
theorem d_Su_init_5 : decode b_Su_init 5 = .ok (.iconst 0, 1) := by decide +kernel
theorem d_Su_init_6 : decode b_Su_init 6 = .ok (.putfield 9, 3) := by decide +kernel
theorem d_Su_init_9 : decode b_Su_init 9 = .ok (.aload_n 0, 1) := by decide +kernel
theorem d_Su_init_10 : decode b_Su_init 10 = .ok (.iconst 0, 1) := by decide +kernel
theorem d_Su_init_11 : decode b_Su_init 11 = .ok (.putfield 15, 3) := by decide +kernel
theorem d_Su_init_14 : decode b_Su_init 14 = .ok (.aload_n 0, 1) := by decide +kernel
theorem d_Su_init_15 : decode b_Su_init 15 = .ok (.iload_n 1, 1) := by decide +kernel
theorem d_Su_init_16 : decode b_Su_init 16 = .ok (.newarray .int, 2) := by decide +kernel
theorem d_Su_init_18 : decode b_Su_init 18 = .ok (.putfield 19, 3) := by decide +kernel
theorem d_Su_init_21 : decode b_Su_init 21 = .ok (.aload_n 0, 1) := by decide +kernel
theorem d_Su_init_22 : decode b_Su_init 22 = .ok (.iload_n 1, 1) := by decide +kernel
theorem d_Su_init_23 : decode b_Su_init 23 = .ok (.newarray .long, 2) := by decide +kernel
theorem d_Su_init_25 : decode b_Su_init 25 = .ok (.putfield 23, 3) := by decide +kernel
theorem d_Su_init_28 : decode b_Su_init 28 = .ok (.aload_n 0, 1) := by decide +kernel
theorem d_Su_init_29 : decode b_Su_init 29 = .ok (.iload_n 1, 1) := by decide +kernel
theorem d_Su_init_30 : decode b_Su_init 30 = .ok (.newarray .long, 2) := by decide +kernel
theorem d_Su_init_32 : decode b_Su_init 32 = .ok (.putfield 27, 3) := by decide +kernel
theorem d_Su_init_35 : decode b_Su_init 35 = .ok (.return_, 1) := by decide +kernel
abbrev w_Su_init : List Cond := Cond.code y_Su_init b_Su_init 2 none :: gw
abbrev rm_Su_init (n : Nat) : Room := { frames := 1, cells := 3, slots := 0 + n + n + n, locals := 24 }
abbrev at_Su_init (ty : Nat → ClassId) (q : Nat) (n : Nat) (u : Nat → Nat) : va_W := [(q, .inr (8, [.ref (u 0), .ref (u 1), .ref (u 2), .int 0, .int 0])), ((u 0), .inl (ty 0, (n, .inl (fun _ => 0)))), ((u 1), .inl (ty 1, (n, .inr (.inl (fun _ => 0))))), ((u 2), .inl (ty 1, (n, .inr (.inl (fun _ => 0)))))]
set_option maxHeartbeats 4000000 in
set_option maxRecDepth 100000 in
theorem c_Su_init (l : Launch) (D : va_G) (ty : Nat → ClassId) (q : Nat) (sz : Nat) (n : Nat) (hn : n ≤ 101) : Met l y_Su_init w_Su_init (rm_Su_init n) (va_Pc [.ref q, .int (nI n)] (fun U => U.heap.size = sz ∧ va_P D classes [(q, .inr (8, [.null, .null, .null, .int 0, .int 0]))] U.heap ∧ va_K D classes (Ta ty) U ∧ va_D (fun _ => True) [(q, .inr (8, [.null, .null, .null, .int 0, .int 0]))])) (va_Qv (fun _ : Nat → Nat => True) (fun u t => va_P D classes (at_Su_init ty q n u) t.heap ∧ va_D (va_A [(q, .inr (8, [.null, .null, .null, .int 0, .int 0]))] sz) (at_Su_init ty q n u)) (va_A [(q, .inr (8, [.null, .null, .null, .int 0, .int 0]))] sz)) 3 (0 + n + n + n) (va_A [(q, .inr (8, [.null, .null, .null, .int 0, .int 0]))] sz) := by
  refine Met.ofW (cc := b_Su_init) (maxL := 2) (ret := none) (by decide) rfl ?_
  intro p e s m args below meth c s₁ B hml hv
  obtain ⟨ha, hsz, hP, hK, hD0⟩ := hv
  have hx := B.exec
  have hb := B.bytes
  have hr := B.returns
  have hg : ∀ w ∈ gw, w.before args s = true := fun w h9 => atoms_spec (ws := w_Su_init) B.pre w (List.mem_cons_of_mem _ h9)
  have hown : s.vm.findClass "ClauseLedger$Sum" = some m.cls := findClass_of_methodNamed B.named
  have hlocks := B.notSynchronized
  have hin : meth.name = "<init>" := (name_of_methodNamed B.named B.method).1
  subst hsz
  have hD := hD0.self (sz := s.heap.size)
  generalize hAe : va_A [(q, .inr (8, [.null, .null, .null, .int 0, .int 0]))] s.heap.size = A at hD ⊢
  have hA : ∀ q : Nat, s.heap.size ≤ q → A q := fun q h9 => by rw [← hAe]; exact Or.inr h9
  have hS : va_S A s.heap s.heap [] := va_S.rf
  have he : entryFrame m args 2 = entryFrame m ([.ref q, .int (nI n)] : List Value).toArray 2 := by rw [ha]
  rw [he, lg_entry_eq]
  have hl := lv_entry ([.ref q, .int (nI n)]) (n := 2) (Nat.le_of_ble_eq_true rfl)
  generalize (lg_sl ([.ref q, .int (nI n)]) ++ List.replicate (2 - (lg_sl ([.ref q, .int (nI n)])).length) Slot.unset).toArray = ls at hl ⊢
  have hl : lv_has ls 2 [(0, .ref q), (1, .int (nI n))] := hl
  refine lv_aload_n hx hb d_Su_init_0 rfl (lv_at hl 0 rfl) ?_
  refine W.objInit hx hb hown (hg _ m_190) (hg _ m_35) (hg _ m_36) rfl (by rw [hml]; exact hl.1) rfl d_Su_init_1 (Nat.le_of_ble_eq_true rfl) (Nat.le_of_ble_eq_true rfl) ?_
  refine W.eq (g2 := F0 m 4 ls []) rfl ?_
  refine lv_aload_n hx hb d_Su_init_4 rfl (lv_at hl 0 rfl) ?_
  refine lv_iconst (v := 0) hx hb d_Su_init_5 (by decide) ?_
  refine va_put (v := .int 0) (ty := .int) (C := R_Su) (T := T_Su) (N := 5) hx hb hg in_Su ty_Su ok_Su nm_Su hown hK hP hD hS 0 rfl rfl 3 (by decide) (hg _ m_194) (fun _ h9 => h9) rfl (by decide +kernel) rfl rfl (Nat.le_of_ble_eq_true rfl) d_Su_init_6 (fun H locs hP hD hS => ?_)
  have hP : va_P D classes [(q, .inr (8, [.null, .null, .null, .int 0, .int 0]))] H := hP
  have hD : va_D A [(q, .inr (8, [.null, .null, .null, .int 0, .int 0]))] := hD
  refine lv_aload_n hx hb d_Su_init_9 rfl (lv_at hl 0 rfl) ?_
  refine lv_iconst (v := 0) hx hb d_Su_init_10 (by decide) ?_
  refine va_put (v := .int 0) (ty := .boolean) (C := R_Su) (T := T_Su) (N := 5) hx hb hg in_Su ty_Su ok_Su nm_Su hown hK hP hD hS 0 rfl rfl 4 (by decide) (hg _ m_195) (fun _ h9 => h9) rfl (by decide +kernel) rfl rfl (Nat.le_of_ble_eq_true rfl) d_Su_init_11 (fun H locs hP hD hS => ?_)
  have hP : va_P D classes [(q, .inr (8, [.null, .null, .null, .int 0, .int 0]))] H := hP
  have hD : va_D A [(q, .inr (8, [.null, .null, .null, .int 0, .int 0]))] := hD
  refine lv_aload_n hx hb d_Su_init_14 rfl (lv_at hl 0 rfl) ?_
  refine lv_iload_n hx hb d_Su_init_15 rfl (lv_at hl 1 rfl) ?_
  refine zz_newa (atype := .int) (ty := .int) (N' := n) (a0 := (n, .inl (fun _ => 0))) hx hb (hg _ m_62) rfl (fun _ h9 => h9) 0 rfl hK hP hD hS hA (fun cA => vp_cell_i cA _ _) (nI_pos (by omega)) (nI_clamp (by omega)) (by show n * 4 ≤ 536870912; omega) (by show 0 + 1 ≤ 3; omega) (by show 0 + n ≤ 0 + n + n + n; omega) d_Su_init_16 (fun q16 H hP hD hS => ?_)
  have hP : va_P D classes [(q, .inr (8, [.null, .null, .null, .int 0, .int 0])), (q16, .inl (ty 0, (n, .inl (fun _ => 0))))] H := hP
  have hD : va_D A [(q, .inr (8, [.null, .null, .null, .int 0, .int 0])), (q16, .inl (ty 0, (n, .inl (fun _ => 0))))] := hD
  refine va_putF (v := .ref q16) (ty := .array .int) (C := R_Su) (T := T_Su) (N := 5) hx hb hg in_Su ty_Su ok_Su nm_Su hown hK hP hD hS 0 rfl rfl 0 (by decide) (hg _ m_191) (fun _ h9 => h9) rfl hin rfl (by decide +kernel) rfl rfl (Nat.le_of_ble_eq_true rfl) d_Su_init_18 (fun H locs hP hD hS => ?_)
  have hP : va_P D classes [(q, .inr (8, [.ref q16, .null, .null, .int 0, .int 0])), (q16, .inl (ty 0, (n, .inl (fun _ => 0))))] H := hP
  have hD : va_D A [(q, .inr (8, [.ref q16, .null, .null, .int 0, .int 0])), (q16, .inl (ty 0, (n, .inl (fun _ => 0))))] := hD
  refine lv_aload_n hx hb d_Su_init_21 rfl (lv_at hl 0 rfl) ?_
  refine lv_iload_n hx hb d_Su_init_22 rfl (lv_at hl 1 rfl) ?_
  refine zz_newa (atype := .long) (ty := .long) (N' := n) (a0 := (n, .inr (.inl (fun _ => 0)))) hx hb (hg _ m_112) rfl (fun _ h9 => h9) 1 rfl hK hP hD hS hA (fun cA => vp_cell_l cA _ _) (nI_pos (by omega)) (nI_clamp (by omega)) (by show n * 8 ≤ 536870912; omega) (by show 1 + 1 ≤ 3; omega) (by show 0 + n + n ≤ 0 + n + n + n; omega) d_Su_init_23 (fun q23 H hP hD hS => ?_)
  have hP : va_P D classes [(q, .inr (8, [.ref q16, .null, .null, .int 0, .int 0])), (q16, .inl (ty 0, (n, .inl (fun _ => 0)))), (q23, .inl (ty 1, (n, .inr (.inl (fun _ => 0)))))] H := hP
  have hD : va_D A [(q, .inr (8, [.ref q16, .null, .null, .int 0, .int 0])), (q16, .inl (ty 0, (n, .inl (fun _ => 0)))), (q23, .inl (ty 1, (n, .inr (.inl (fun _ => 0)))))] := hD
  refine va_putF (v := .ref q23) (ty := .array .long) (C := R_Su) (T := T_Su) (N := 5) hx hb hg in_Su ty_Su ok_Su nm_Su hown hK hP hD hS 0 rfl rfl 1 (by decide) (hg _ m_192) (fun _ h9 => h9) rfl hin rfl (by decide +kernel) rfl rfl (Nat.le_of_ble_eq_true rfl) d_Su_init_25 (fun H locs hP hD hS => ?_)
  have hP : va_P D classes [(q, .inr (8, [.ref q16, .ref q23, .null, .int 0, .int 0])), (q16, .inl (ty 0, (n, .inl (fun _ => 0)))), (q23, .inl (ty 1, (n, .inr (.inl (fun _ => 0)))))] H := hP
  have hD : va_D A [(q, .inr (8, [.ref q16, .ref q23, .null, .int 0, .int 0])), (q16, .inl (ty 0, (n, .inl (fun _ => 0)))), (q23, .inl (ty 1, (n, .inr (.inl (fun _ => 0)))))] := hD
  refine lv_aload_n hx hb d_Su_init_28 rfl (lv_at hl 0 rfl) ?_
  refine lv_iload_n hx hb d_Su_init_29 rfl (lv_at hl 1 rfl) ?_
  refine zz_newa (atype := .long) (ty := .long) (N' := n) (a0 := (n, .inr (.inl (fun _ => 0)))) hx hb (hg _ m_112) rfl (fun _ h9 => h9) 1 rfl hK hP hD hS hA (fun cA => vp_cell_l cA _ _) (nI_pos (by omega)) (nI_clamp (by omega)) (by show n * 8 ≤ 536870912; omega) (by show 2 + 1 ≤ 3; omega) (by show 0 + n + n + n ≤ 0 + n + n + n; omega) d_Su_init_30 (fun q30 H hP hD hS => ?_)
  have hP : va_P D classes [(q, .inr (8, [.ref q16, .ref q23, .null, .int 0, .int 0])), (q16, .inl (ty 0, (n, .inl (fun _ => 0)))), (q23, .inl (ty 1, (n, .inr (.inl (fun _ => 0))))), (q30, .inl (ty 1, (n, .inr (.inl (fun _ => 0)))))] H := hP
  have hD : va_D A [(q, .inr (8, [.ref q16, .ref q23, .null, .int 0, .int 0])), (q16, .inl (ty 0, (n, .inl (fun _ => 0)))), (q23, .inl (ty 1, (n, .inr (.inl (fun _ => 0))))), (q30, .inl (ty 1, (n, .inr (.inl (fun _ => 0)))))] := hD
  refine va_putF (v := .ref q30) (ty := .array .long) (C := R_Su) (T := T_Su) (N := 5) hx hb hg in_Su ty_Su ok_Su nm_Su hown hK hP hD hS 0 rfl rfl 2 (by decide) (hg _ m_193) (fun _ h9 => h9) rfl hin rfl (by decide +kernel) rfl rfl (Nat.le_of_ble_eq_true rfl) d_Su_init_32 (fun H locs hP hD hS => ?_)
  have hP : va_P D classes [(q, .inr (8, [.ref q16, .ref q23, .ref q30, .int 0, .int 0])), (q16, .inl (ty 0, (n, .inl (fun _ => 0)))), (q23, .inl (ty 1, (n, .inr (.inl (fun _ => 0))))), (q30, .inl (ty 1, (n, .inr (.inl (fun _ => 0)))))] H := hP
  have hD : va_D A [(q, .inr (8, [.ref q16, .ref q23, .ref q30, .int 0, .int 0])), (q16, .inl (ty 0, (n, .inl (fun _ => 0)))), (q23, .inl (ty 1, (n, .inr (.inl (fun _ => 0))))), (q30, .inl (ty 1, (n, .inr (.inl (fun _ => 0)))))] := hD
  exact W.vret hx hb hr (fun t ht hW => ⟨⟨(fun k => ([q16, q23, q30] : List Nat).getD k 0), rfl, trivial, by rw [ht]; exact hP, hD⟩, hS.F ht⟩) hS.2.2 d_Su_init_35
-- ClauseLedger$Balance.<init>(LClauseLedger$Terms;)V
abbrev b_Ba_init : ByteArray := prog_2_method_1_code
def y_Ba_init : MethodName := ⟨"ClauseLedger$Balance", "<init>", "(LClauseLedger$Terms;)V"⟩
theorem hd_Ba_init : y_Ba_init.cls ≠ "java/lang/invoke/MethodHandle" ∧ y_Ba_init.cls ≠ "java/lang/invoke/VarHandle" ∧ (parseMethodDescriptor y_Ba_init.desc).map (fun d => d.parameters.length) = some 1 := by decide +kernel
theorem d_Ba_init_0 : decode b_Ba_init 0 = .ok (.aload_n 0, 1) := by decide +kernel
theorem d_Ba_init_1 : decode b_Ba_init 1 = .ok (.invokespecial 3, 3) := by decide +kernel
theorem d_Ba_init_4 : decode b_Ba_init 4 = .ok (.aload_n 0, 1) := by decide +kernel
theorem d_Ba_init_5 : decode b_Ba_init 5 = .ok (.bipush 100, 2) := by decide +kernel
theorem d_Ba_init_7 : decode b_Ba_init 7 = .ok (.anewarray 9, 3) := by decide +kernel
theorem d_Ba_init_10 : decode b_Ba_init 10 = .ok (.putfield 11, 3) := by decide +kernel
theorem d_Ba_init_13 : decode b_Ba_init 13 = .ok (.aload_n 0, 1) := by decide +kernel
theorem d_Ba_init_14 : decode b_Ba_init 14 = .ok (.new 9, 3) := by decide +kernel
theorem d_Ba_init_17 : decode b_Ba_init 17 = .ok (.dup, 1) := by decide +kernel
theorem d_Ba_init_18 : decode b_Ba_init 18 = .ok (.iconst 0, 1) := by decide +kernel
theorem d_Ba_init_19 : decode b_Ba_init 19 = .ok (.invokespecial 17, 3) := by decide +kernel
theorem d_Ba_init_22 : decode b_Ba_init 22 = .ok (.putfield 20, 3) := by decide +kernel
theorem d_Ba_init_25 : decode b_Ba_init 25 = .ok (.aload_n 0, 1) := by decide +kernel
theorem d_Ba_init_26 : decode b_Ba_init 26 = .ok (.new 9, 3) := by decide +kernel
theorem d_Ba_init_29 : decode b_Ba_init 29 = .ok (.dup, 1) := by decide +kernel
theorem d_Ba_init_30 : decode b_Ba_init 30 = .ok (.bipush 101, 2) := by decide +kernel
theorem d_Ba_init_32 : decode b_Ba_init 32 = .ok (.invokespecial 17, 3) := by decide +kernel
theorem d_Ba_init_35 : decode b_Ba_init 35 = .ok (.putfield 24, 3) := by decide +kernel
theorem d_Ba_init_38 : decode b_Ba_init 38 = .ok (.aload_n 0, 1) := by decide +kernel
theorem d_Ba_init_39 : decode b_Ba_init 39 = .ok (.new 9, 3) := by decide +kernel
theorem d_Ba_init_42 : decode b_Ba_init 42 = .ok (.dup, 1) := by decide +kernel
theorem d_Ba_init_43 : decode b_Ba_init 43 = .ok (.bipush 101, 2) := by decide +kernel
theorem d_Ba_init_45 : decode b_Ba_init 45 = .ok (.invokespecial 17, 3) := by decide +kernel
theorem d_Ba_init_48 : decode b_Ba_init 48 = .ok (.putfield 27, 3) := by decide +kernel
theorem d_Ba_init_51 : decode b_Ba_init 51 = .ok (.aload_n 0, 1) := by decide +kernel
theorem d_Ba_init_52 : decode b_Ba_init 52 = .ok (.iconst 0, 1) := by decide +kernel
theorem d_Ba_init_53 : decode b_Ba_init 53 = .ok (.putfield 30, 3) := by decide +kernel
theorem d_Ba_init_56 : decode b_Ba_init 56 = .ok (.aload_n 0, 1) := by decide +kernel
theorem d_Ba_init_57 : decode b_Ba_init 57 = .ok (.aload_n 1, 1) := by decide +kernel
theorem d_Ba_init_58 : decode b_Ba_init 58 = .ok (.putfield 34, 3) := by decide +kernel
theorem d_Ba_init_61 : decode b_Ba_init 61 = .ok (.return_, 1) := by decide +kernel
abbrev w_Ba_init : List Cond := Cond.code y_Ba_init b_Ba_init 2 none :: gw
abbrev rm_Ba_init : Room := { frames := 2, cells := 13, slots := 721, locals := 60 }
abbrev at_Ba_init (ty : Nat → ClassId) (q : Nat) (a1 : Nat) (u : Nat → Nat) : va_W := [(q, .inr (7, [.ref a1, .ref (u 0), .ref (u 2), .ref (u 6), .ref (u 10), .int 0])), ((u 0), .inl ((u 1), (100, .inr (.inr (.inr (.inr (fun _ => none))))))), ((u 2), .inr (8, [.ref (u 3), .ref (u 4), .ref (u 5), .int 0, .int 0])), ((u 3), .inl (ty 0, (0, .inl (fun _ => 0)))), ((u 4), .inl (ty 1, (0, .inr (.inl (fun _ => 0))))), ((u 5), .inl (ty 1, (0, .inr (.inl (fun _ => 0))))), ((u 6), .inr (8, [.ref (u 7), .ref (u 8), .ref (u 9), .int 0, .int 0])), ((u 7), .inl (ty 0, (101, .inl (fun _ => 0)))), ((u 8), .inl (ty 1, (101, .inr (.inl (fun _ => 0))))), ((u 9), .inl (ty 1, (101, .inr (.inl (fun _ => 0))))), ((u 10), .inr (8, [.ref (u 11), .ref (u 12), .ref (u 13), .int 0, .int 0])), ((u 11), .inl (ty 0, (101, .inl (fun _ => 0)))), ((u 12), .inl (ty 1, (101, .inr (.inl (fun _ => 0))))), ((u 13), .inl (ty 1, (101, .inr (.inl (fun _ => 0)))))]
set_option maxHeartbeats 4000000 in
set_option maxRecDepth 100000 in
theorem c_Ba_init (l : Launch) (D : va_G) (ty : Nat → ClassId) (q : Nat) (sz : Nat) (a1 : Nat) : Met l y_Ba_init w_Ba_init rm_Ba_init (va_Pc [.ref q, .ref a1] (fun U => U.heap.size = sz ∧ va_P D classes [(q, .inr (7, [.null, .null, .null, .null, .null, .int 0]))] U.heap ∧ va_K D classes (Ta ty) U ∧ va_AO "ClauseLedger$Sum" U ∧ va_D (fun _ => True) [(q, .inr (7, [.null, .null, .null, .null, .null, .int 0]))])) (va_Qv (fun _ : Nat → Nat => True) (fun u t => va_P D classes (at_Ba_init ty q a1 u) t.heap ∧ va_D (va_A [(q, .inr (7, [.null, .null, .null, .null, .null, .int 0]))] sz) (at_Ba_init ty q a1 u) ∧ va_K D classes (Ta ty ++ [((u 1), .object "ClauseLedger$Sum")]) t) (va_A [(q, .inr (7, [.null, .null, .null, .null, .null, .int 0]))] sz)) 13 (721) (va_A [(q, .inr (7, [.null, .null, .null, .null, .null, .int 0]))] sz) := by
  refine Met.ofW (cc := b_Ba_init) (maxL := 2) (ret := none) (by decide) rfl ?_
  intro p e s m args below meth c s₁ B hml hv
  obtain ⟨ha, hsz, hP, hK, hAO, hD0⟩ := hv
  have hx := B.exec
  have hb := B.bytes
  have hr := B.returns
  have hg : ∀ w ∈ gw, w.before args s = true := fun w h9 => atoms_spec (ws := w_Ba_init) B.pre w (List.mem_cons_of_mem _ h9)
  have hown : s.vm.findClass "ClauseLedger$Balance" = some m.cls := findClass_of_methodNamed B.named
  have hlocks := B.notSynchronized
  have hin : meth.name = "<init>" := (name_of_methodNamed B.named B.method).1
  subst hsz
  have hD := hD0.self (sz := s.heap.size)
  generalize hAe : va_A [(q, .inr (7, [.null, .null, .null, .null, .null, .int 0]))] s.heap.size = A at hD ⊢
  have hA : ∀ q : Nat, s.heap.size ≤ q → A q := fun q h9 => by rw [← hAe]; exact Or.inr h9
  have hS : va_S A s.heap s.heap [] := va_S.rf
  have he : entryFrame m args 2 = entryFrame m ([.ref q, .ref a1] : List Value).toArray 2 := by rw [ha]
  rw [he, lg_entry_eq]
  have hl := lv_entry ([.ref q, .ref a1]) (n := 2) (Nat.le_of_ble_eq_true rfl)
  generalize (lg_sl ([.ref q, .ref a1]) ++ List.replicate (2 - (lg_sl ([.ref q, .ref a1])).length) Slot.unset).toArray = ls at hl ⊢
  have hl : lv_has ls 2 [(0, .ref q), (1, .ref a1)] := hl
  refine lv_aload_n hx hb d_Ba_init_0 rfl (lv_at hl 0 rfl) ?_
  refine W.objInit hx hb hown (hg _ m_183) (hg _ m_35) (hg _ m_36) rfl (by rw [hml]; exact hl.1) rfl d_Ba_init_1 (Nat.le_of_ble_eq_true rfl) (Nat.le_of_ble_eq_true rfl) ?_
  refine W.eq (g2 := F0 m 4 ls []) rfl ?_
  refine lv_aload_n hx hb d_Ba_init_4 rfl (lv_at hl 0 rfl) ?_
  refine lv_bipush (v := 100) hx hb d_Ba_init_5 (by decide) ?_
  refine va_newq (N' := 100) hx hb hown (hg _ m_184) hAO hK hP hD hS hA (by decide +kernel) (by decide +kernel) (by decide) (by show 0 + 1 ≤ 13; omega) (by show 0 + 100 ≤ 721; omega) d_Ba_init_7 (fun q7 cA9 H hKA hP hD hS => ?_)
  have hP : va_P D classes [(q, .inr (7, [.null, .null, .null, .null, .null, .int 0])), (q7, .inl (cA9, (100, .inr (.inr (.inr (.inr (fun _ => none)))))))] H := hP
  have hD : va_D A [(q, .inr (7, [.null, .null, .null, .null, .null, .int 0])), (q7, .inl (cA9, (100, .inr (.inr (.inr (.inr (fun _ => none)))))))] := hD
  refine va_putF (v := .ref q7) (ty := .array (.object "ClauseLedger$Sum")) (C := R_Ba) (T := T_Ba) (N := 6) hx hb hg in_Ba ty_Ba ok_Ba nm_Ba hown hK hP hD hS 0 rfl rfl 1 (by decide) (hg _ m_208) (fun _ h9 => h9) rfl hin rfl (by decide +kernel) rfl rfl (Nat.le_of_ble_eq_true rfl) d_Ba_init_10 (fun H locs hP hD hS => ?_)
  have hP : va_P D classes [(q, .inr (7, [.null, .ref q7, .null, .null, .null, .int 0])), (q7, .inl (cA9, (100, .inr (.inr (.inr (.inr (fun _ => none)))))))] H := hP
  have hD : va_D A [(q, .inr (7, [.null, .ref q7, .null, .null, .null, .int 0])), (q7, .inl (cA9, (100, .inr (.inr (.inr (.inr (fun _ => none)))))))] := hD
  refine lv_aload_n hx hb d_Ba_init_13 rfl (lv_at hl 0 rfl) ?_
  refine va_new (ci := 8) (fs := [.null, .null, .null, .int 0, .int 0]) (C := R_Su) (T := T_Su) (N := 5) hx hb hg in_Su ty_Su ok_Su hown (hg _ m_184) (hg _ m_186) (hg _ m_9) hK hP hD hS hA rfl (fun j hj => by match j, hj with | 0, _ => rfl | 1, _ => rfl | 2, _ => rfl | 3, _ => rfl | 4, _ => rfl) (by show 1 + 1 ≤ 13; omega) (by show 100 + 5 ≤ 721; omega) d_Ba_init_14 (fun q14 H hP hD hS => ?_)
  have hP : va_P D classes [(q, .inr (7, [.null, .ref q7, .null, .null, .null, .int 0])), (q7, .inl (cA9, (100, .inr (.inr (.inr (.inr (fun _ => none))))))), (q14, .inr (8, [.null, .null, .null, .int 0, .int 0]))] H := hP
  have hD : va_D A [(q, .inr (7, [.null, .ref q7, .null, .null, .null, .int 0])), (q7, .inl (cA9, (100, .inr (.inr (.inr (.inr (fun _ => none))))))), (q14, .inr (8, [.null, .null, .null, .int 0, .int 0]))] := hD
  refine lv_dup hx hb d_Ba_init_17 rfl ?_
  refine lv_iconst (v := nI 0) hx hb d_Ba_init_18 (by decide) ?_
  have hPc := hP.sub (ws' := [(q14, .inr (8, [.null, .null, .null, .int 0, .int 0]))]) [2] rfl
  have hDc := hD.sub (ws' := [(q14, .inr (8, [.null, .null, .null, .int 0, .int 0]))]) [2] (by decide) rfl
  have hFc := va_free (wc := [(q14, .inr (8, [.null, .null, .null, .int 0, .int 0]))]) hD hS hA [2] rfl
  refine va_callv (va_runI (As := [.int (nI 0)]) (rest := [.ref q14, .ref q]) ⟨hx, hb, hml, hown, hg⟩ (c_Su_init l D ty q14 H.size 0 (by decide)) ⟨callB_of 1 hg (gw_C m_189) rfl rfl rfl (hg _ m_9) (hg _ m_187) hd_Su_init ⟨Nat.le_of_ble_eq_true rfl, Nat.le_of_ble_eq_true rfl⟩, rfl, hg _ m_188⟩ (zz_preC hK hPc hDc) rfl rfl hl.1 rfl (lv_room (Nat.le_of_ble_eq_true rfl)) d_Ba_init_19 ⟨(by show 2 + 3 ≤ 13; omega), (by show 105 + 0 ≤ 721; omega)⟩) hS (fun q _ h => hFc q h) hFc (fun u19 t H1 locs ht hvm hw hB hz hk1 hS => ?_)
  obtain ⟨hP1, hD1⟩ := hB
  rw [ht] at hP1
  obtain ⟨hP, hD⟩ := va_join (wr := [(q, .inr (7, [.null, .ref q7, .null, .null, .null, .int 0])), (q7, .inl (cA9, (100, .inr (.inr (.inr (.inr (fun _ => none)))))))]) (w1 := at_Su_init ty q14 0 u19) hP hD [2] [0, 1] rfl rfl (by decide) (by decide) hk1 hFc hP1 hD1
  generalize H1 = H at hP hS ⊢
  have hP : va_P D classes [(q, .inr (7, [.null, .ref q7, .null, .null, .null, .int 0])), (q7, .inl (cA9, (100, .inr (.inr (.inr (.inr (fun _ => none))))))), (q14, .inr (8, [.ref (u19 0), .ref (u19 1), .ref (u19 2), .int 0, .int 0])), ((u19 0), .inl (ty 0, (0, .inl (fun _ => 0)))), ((u19 1), .inl (ty 1, (0, .inr (.inl (fun _ => 0))))), ((u19 2), .inl (ty 1, (0, .inr (.inl (fun _ => 0)))))] H := hP
  have hD : va_D A [(q, .inr (7, [.null, .ref q7, .null, .null, .null, .int 0])), (q7, .inl (cA9, (100, .inr (.inr (.inr (.inr (fun _ => none))))))), (q14, .inr (8, [.ref (u19 0), .ref (u19 1), .ref (u19 2), .int 0, .int 0])), ((u19 0), .inl (ty 0, (0, .inl (fun _ => 0)))), ((u19 1), .inl (ty 1, (0, .inr (.inl (fun _ => 0))))), ((u19 2), .inl (ty 1, (0, .inr (.inl (fun _ => 0)))))] := hD
  refine va_putF (v := .ref q14) (ty := .object "ClauseLedger$Sum") (C := R_Ba) (T := T_Ba) (N := 6) hx hb hg in_Ba ty_Ba ok_Ba nm_Ba hown hK hP hD hS 0 rfl rfl 2 (by decide) (hg _ m_209) (fun _ h9 => h9) rfl hin rfl (by decide +kernel) rfl rfl (Nat.le_of_ble_eq_true rfl) d_Ba_init_22 (fun H locs hP hD hS => ?_)
  have hP : va_P D classes [(q, .inr (7, [.null, .ref q7, .ref q14, .null, .null, .int 0])), (q7, .inl (cA9, (100, .inr (.inr (.inr (.inr (fun _ => none))))))), (q14, .inr (8, [.ref (u19 0), .ref (u19 1), .ref (u19 2), .int 0, .int 0])), ((u19 0), .inl (ty 0, (0, .inl (fun _ => 0)))), ((u19 1), .inl (ty 1, (0, .inr (.inl (fun _ => 0))))), ((u19 2), .inl (ty 1, (0, .inr (.inl (fun _ => 0)))))] H := hP
  have hD : va_D A [(q, .inr (7, [.null, .ref q7, .ref q14, .null, .null, .int 0])), (q7, .inl (cA9, (100, .inr (.inr (.inr (.inr (fun _ => none))))))), (q14, .inr (8, [.ref (u19 0), .ref (u19 1), .ref (u19 2), .int 0, .int 0])), ((u19 0), .inl (ty 0, (0, .inl (fun _ => 0)))), ((u19 1), .inl (ty 1, (0, .inr (.inl (fun _ => 0))))), ((u19 2), .inl (ty 1, (0, .inr (.inl (fun _ => 0)))))] := hD
  refine lv_aload_n hx hb d_Ba_init_25 rfl (lv_at hl 0 rfl) ?_
  refine va_new (ci := 8) (fs := [.null, .null, .null, .int 0, .int 0]) (C := R_Su) (T := T_Su) (N := 5) hx hb hg in_Su ty_Su ok_Su hown (hg _ m_184) (hg _ m_186) (hg _ m_9) hK hP hD hS hA rfl (fun j hj => by match j, hj with | 0, _ => rfl | 1, _ => rfl | 2, _ => rfl | 3, _ => rfl | 4, _ => rfl) (by show 5 + 1 ≤ 13; omega) (by show 105 + 5 ≤ 721; omega) d_Ba_init_26 (fun q26 H hP hD hS => ?_)
  have hP : va_P D classes [(q, .inr (7, [.null, .ref q7, .ref q14, .null, .null, .int 0])), (q7, .inl (cA9, (100, .inr (.inr (.inr (.inr (fun _ => none))))))), (q14, .inr (8, [.ref (u19 0), .ref (u19 1), .ref (u19 2), .int 0, .int 0])), ((u19 0), .inl (ty 0, (0, .inl (fun _ => 0)))), ((u19 1), .inl (ty 1, (0, .inr (.inl (fun _ => 0))))), ((u19 2), .inl (ty 1, (0, .inr (.inl (fun _ => 0))))), (q26, .inr (8, [.null, .null, .null, .int 0, .int 0]))] H := hP
  have hD : va_D A [(q, .inr (7, [.null, .ref q7, .ref q14, .null, .null, .int 0])), (q7, .inl (cA9, (100, .inr (.inr (.inr (.inr (fun _ => none))))))), (q14, .inr (8, [.ref (u19 0), .ref (u19 1), .ref (u19 2), .int 0, .int 0])), ((u19 0), .inl (ty 0, (0, .inl (fun _ => 0)))), ((u19 1), .inl (ty 1, (0, .inr (.inl (fun _ => 0))))), ((u19 2), .inl (ty 1, (0, .inr (.inl (fun _ => 0))))), (q26, .inr (8, [.null, .null, .null, .int 0, .int 0]))] := hD
  refine lv_dup hx hb d_Ba_init_29 rfl ?_
  refine lv_bipush (v := nI 101) hx hb d_Ba_init_30 (by decide) ?_
  have hPc := hP.sub (ws' := [(q26, .inr (8, [.null, .null, .null, .int 0, .int 0]))]) [6] rfl
  have hDc := hD.sub (ws' := [(q26, .inr (8, [.null, .null, .null, .int 0, .int 0]))]) [6] (by decide) rfl
  have hFc := va_free (wc := [(q26, .inr (8, [.null, .null, .null, .int 0, .int 0]))]) hD hS hA [6] rfl
  refine va_callv (va_runI (As := [.int (nI 101)]) (rest := [.ref q26, .ref q]) ⟨hx, hb, hml, hown, hg⟩ (c_Su_init l D ty q26 H.size 101 (by decide)) ⟨callB_of 1 hg (gw_C m_189) rfl rfl rfl (hg _ m_9) (hg _ m_187) hd_Su_init ⟨Nat.le_of_ble_eq_true rfl, Nat.le_of_ble_eq_true rfl⟩, rfl, hg _ m_188⟩ (zz_preC hK hPc hDc) rfl rfl hl.1 rfl (lv_room (Nat.le_of_ble_eq_true rfl)) d_Ba_init_32 ⟨(by show 6 + 3 ≤ 13; omega), (by show 110 + 303 ≤ 721; omega)⟩) hS (fun q _ h => hFc q h) hFc (fun u32 t H1 locs ht hvm hw hB hz hk1 hS => ?_)
  obtain ⟨hP1, hD1⟩ := hB
  rw [ht] at hP1
  obtain ⟨hP, hD⟩ := va_join (wr := [(q, .inr (7, [.null, .ref q7, .ref q14, .null, .null, .int 0])), (q7, .inl (cA9, (100, .inr (.inr (.inr (.inr (fun _ => none))))))), (q14, .inr (8, [.ref (u19 0), .ref (u19 1), .ref (u19 2), .int 0, .int 0])), ((u19 0), .inl (ty 0, (0, .inl (fun _ => 0)))), ((u19 1), .inl (ty 1, (0, .inr (.inl (fun _ => 0))))), ((u19 2), .inl (ty 1, (0, .inr (.inl (fun _ => 0)))))]) (w1 := at_Su_init ty q26 101 u32) hP hD [6] [0, 1, 2, 3, 4, 5] rfl rfl (by decide) (by decide) hk1 hFc hP1 hD1
  generalize H1 = H at hP hS ⊢
  have hP : va_P D classes [(q, .inr (7, [.null, .ref q7, .ref q14, .null, .null, .int 0])), (q7, .inl (cA9, (100, .inr (.inr (.inr (.inr (fun _ => none))))))), (q14, .inr (8, [.ref (u19 0), .ref (u19 1), .ref (u19 2), .int 0, .int 0])), ((u19 0), .inl (ty 0, (0, .inl (fun _ => 0)))), ((u19 1), .inl (ty 1, (0, .inr (.inl (fun _ => 0))))), ((u19 2), .inl (ty 1, (0, .inr (.inl (fun _ => 0))))), (q26, .inr (8, [.ref (u32 0), .ref (u32 1), .ref (u32 2), .int 0, .int 0])), ((u32 0), .inl (ty 0, (101, .inl (fun _ => 0)))), ((u32 1), .inl (ty 1, (101, .inr (.inl (fun _ => 0))))), ((u32 2), .inl (ty 1, (101, .inr (.inl (fun _ => 0)))))] H := hP
  have hD : va_D A [(q, .inr (7, [.null, .ref q7, .ref q14, .null, .null, .int 0])), (q7, .inl (cA9, (100, .inr (.inr (.inr (.inr (fun _ => none))))))), (q14, .inr (8, [.ref (u19 0), .ref (u19 1), .ref (u19 2), .int 0, .int 0])), ((u19 0), .inl (ty 0, (0, .inl (fun _ => 0)))), ((u19 1), .inl (ty 1, (0, .inr (.inl (fun _ => 0))))), ((u19 2), .inl (ty 1, (0, .inr (.inl (fun _ => 0))))), (q26, .inr (8, [.ref (u32 0), .ref (u32 1), .ref (u32 2), .int 0, .int 0])), ((u32 0), .inl (ty 0, (101, .inl (fun _ => 0)))), ((u32 1), .inl (ty 1, (101, .inr (.inl (fun _ => 0))))), ((u32 2), .inl (ty 1, (101, .inr (.inl (fun _ => 0)))))] := hD
  refine va_putF (v := .ref q26) (ty := .object "ClauseLedger$Sum") (C := R_Ba) (T := T_Ba) (N := 6) hx hb hg in_Ba ty_Ba ok_Ba nm_Ba hown hK hP hD hS 0 rfl rfl 3 (by decide) (hg _ m_210) (fun _ h9 => h9) rfl hin rfl (by decide +kernel) rfl rfl (Nat.le_of_ble_eq_true rfl) d_Ba_init_35 (fun H locs hP hD hS => ?_)
  have hP : va_P D classes [(q, .inr (7, [.null, .ref q7, .ref q14, .ref q26, .null, .int 0])), (q7, .inl (cA9, (100, .inr (.inr (.inr (.inr (fun _ => none))))))), (q14, .inr (8, [.ref (u19 0), .ref (u19 1), .ref (u19 2), .int 0, .int 0])), ((u19 0), .inl (ty 0, (0, .inl (fun _ => 0)))), ((u19 1), .inl (ty 1, (0, .inr (.inl (fun _ => 0))))), ((u19 2), .inl (ty 1, (0, .inr (.inl (fun _ => 0))))), (q26, .inr (8, [.ref (u32 0), .ref (u32 1), .ref (u32 2), .int 0, .int 0])), ((u32 0), .inl (ty 0, (101, .inl (fun _ => 0)))), ((u32 1), .inl (ty 1, (101, .inr (.inl (fun _ => 0))))), ((u32 2), .inl (ty 1, (101, .inr (.inl (fun _ => 0)))))] H := hP
  have hD : va_D A [(q, .inr (7, [.null, .ref q7, .ref q14, .ref q26, .null, .int 0])), (q7, .inl (cA9, (100, .inr (.inr (.inr (.inr (fun _ => none))))))), (q14, .inr (8, [.ref (u19 0), .ref (u19 1), .ref (u19 2), .int 0, .int 0])), ((u19 0), .inl (ty 0, (0, .inl (fun _ => 0)))), ((u19 1), .inl (ty 1, (0, .inr (.inl (fun _ => 0))))), ((u19 2), .inl (ty 1, (0, .inr (.inl (fun _ => 0))))), (q26, .inr (8, [.ref (u32 0), .ref (u32 1), .ref (u32 2), .int 0, .int 0])), ((u32 0), .inl (ty 0, (101, .inl (fun _ => 0)))), ((u32 1), .inl (ty 1, (101, .inr (.inl (fun _ => 0))))), ((u32 2), .inl (ty 1, (101, .inr (.inl (fun _ => 0)))))] := hD
  refine lv_aload_n hx hb d_Ba_init_38 rfl (lv_at hl 0 rfl) ?_
  refine va_new (ci := 8) (fs := [.null, .null, .null, .int 0, .int 0]) (C := R_Su) (T := T_Su) (N := 5) hx hb hg in_Su ty_Su ok_Su hown (hg _ m_184) (hg _ m_186) (hg _ m_9) hK hP hD hS hA rfl (fun j hj => by match j, hj with | 0, _ => rfl | 1, _ => rfl | 2, _ => rfl | 3, _ => rfl | 4, _ => rfl) (by show 9 + 1 ≤ 13; omega) (by show 413 + 5 ≤ 721; omega) d_Ba_init_39 (fun q39 H hP hD hS => ?_)
  have hP : va_P D classes [(q, .inr (7, [.null, .ref q7, .ref q14, .ref q26, .null, .int 0])), (q7, .inl (cA9, (100, .inr (.inr (.inr (.inr (fun _ => none))))))), (q14, .inr (8, [.ref (u19 0), .ref (u19 1), .ref (u19 2), .int 0, .int 0])), ((u19 0), .inl (ty 0, (0, .inl (fun _ => 0)))), ((u19 1), .inl (ty 1, (0, .inr (.inl (fun _ => 0))))), ((u19 2), .inl (ty 1, (0, .inr (.inl (fun _ => 0))))), (q26, .inr (8, [.ref (u32 0), .ref (u32 1), .ref (u32 2), .int 0, .int 0])), ((u32 0), .inl (ty 0, (101, .inl (fun _ => 0)))), ((u32 1), .inl (ty 1, (101, .inr (.inl (fun _ => 0))))), ((u32 2), .inl (ty 1, (101, .inr (.inl (fun _ => 0))))), (q39, .inr (8, [.null, .null, .null, .int 0, .int 0]))] H := hP
  have hD : va_D A [(q, .inr (7, [.null, .ref q7, .ref q14, .ref q26, .null, .int 0])), (q7, .inl (cA9, (100, .inr (.inr (.inr (.inr (fun _ => none))))))), (q14, .inr (8, [.ref (u19 0), .ref (u19 1), .ref (u19 2), .int 0, .int 0])), ((u19 0), .inl (ty 0, (0, .inl (fun _ => 0)))), ((u19 1), .inl (ty 1, (0, .inr (.inl (fun _ => 0))))), ((u19 2), .inl (ty 1, (0, .inr (.inl (fun _ => 0))))), (q26, .inr (8, [.ref (u32 0), .ref (u32 1), .ref (u32 2), .int 0, .int 0])), ((u32 0), .inl (ty 0, (101, .inl (fun _ => 0)))), ((u32 1), .inl (ty 1, (101, .inr (.inl (fun _ => 0))))), ((u32 2), .inl (ty 1, (101, .inr (.inl (fun _ => 0))))), (q39, .inr (8, [.null, .null, .null, .int 0, .int 0]))] := hD
  refine lv_dup hx hb d_Ba_init_42 rfl ?_
  refine lv_bipush (v := nI 101) hx hb d_Ba_init_43 (by decide) ?_
  have hPc := hP.sub (ws' := [(q39, .inr (8, [.null, .null, .null, .int 0, .int 0]))]) [10] rfl
  have hDc := hD.sub (ws' := [(q39, .inr (8, [.null, .null, .null, .int 0, .int 0]))]) [10] (by decide) rfl
  have hFc := va_free (wc := [(q39, .inr (8, [.null, .null, .null, .int 0, .int 0]))]) hD hS hA [10] rfl
  refine va_callv (va_runI (As := [.int (nI 101)]) (rest := [.ref q39, .ref q]) ⟨hx, hb, hml, hown, hg⟩ (c_Su_init l D ty q39 H.size 101 (by decide)) ⟨callB_of 1 hg (gw_C m_189) rfl rfl rfl (hg _ m_9) (hg _ m_187) hd_Su_init ⟨Nat.le_of_ble_eq_true rfl, Nat.le_of_ble_eq_true rfl⟩, rfl, hg _ m_188⟩ (zz_preC hK hPc hDc) rfl rfl hl.1 rfl (lv_room (Nat.le_of_ble_eq_true rfl)) d_Ba_init_45 ⟨(by show 10 + 3 ≤ 13; omega), (by show 418 + 303 ≤ 721; omega)⟩) hS (fun q _ h => hFc q h) hFc (fun u45 t H1 locs ht hvm hw hB hz hk1 hS => ?_)
  obtain ⟨hP1, hD1⟩ := hB
  rw [ht] at hP1
  obtain ⟨hP, hD⟩ := va_join (wr := [(q, .inr (7, [.null, .ref q7, .ref q14, .ref q26, .null, .int 0])), (q7, .inl (cA9, (100, .inr (.inr (.inr (.inr (fun _ => none))))))), (q14, .inr (8, [.ref (u19 0), .ref (u19 1), .ref (u19 2), .int 0, .int 0])), ((u19 0), .inl (ty 0, (0, .inl (fun _ => 0)))), ((u19 1), .inl (ty 1, (0, .inr (.inl (fun _ => 0))))), ((u19 2), .inl (ty 1, (0, .inr (.inl (fun _ => 0))))), (q26, .inr (8, [.ref (u32 0), .ref (u32 1), .ref (u32 2), .int 0, .int 0])), ((u32 0), .inl (ty 0, (101, .inl (fun _ => 0)))), ((u32 1), .inl (ty 1, (101, .inr (.inl (fun _ => 0))))), ((u32 2), .inl (ty 1, (101, .inr (.inl (fun _ => 0)))))]) (w1 := at_Su_init ty q39 101 u45) hP hD [10] [0, 1, 2, 3, 4, 5, 6, 7, 8, 9] rfl rfl (by decide) (by decide) hk1 hFc hP1 hD1
  generalize H1 = H at hP hS ⊢
  have hP : va_P D classes [(q, .inr (7, [.null, .ref q7, .ref q14, .ref q26, .null, .int 0])), (q7, .inl (cA9, (100, .inr (.inr (.inr (.inr (fun _ => none))))))), (q14, .inr (8, [.ref (u19 0), .ref (u19 1), .ref (u19 2), .int 0, .int 0])), ((u19 0), .inl (ty 0, (0, .inl (fun _ => 0)))), ((u19 1), .inl (ty 1, (0, .inr (.inl (fun _ => 0))))), ((u19 2), .inl (ty 1, (0, .inr (.inl (fun _ => 0))))), (q26, .inr (8, [.ref (u32 0), .ref (u32 1), .ref (u32 2), .int 0, .int 0])), ((u32 0), .inl (ty 0, (101, .inl (fun _ => 0)))), ((u32 1), .inl (ty 1, (101, .inr (.inl (fun _ => 0))))), ((u32 2), .inl (ty 1, (101, .inr (.inl (fun _ => 0))))), (q39, .inr (8, [.ref (u45 0), .ref (u45 1), .ref (u45 2), .int 0, .int 0])), ((u45 0), .inl (ty 0, (101, .inl (fun _ => 0)))), ((u45 1), .inl (ty 1, (101, .inr (.inl (fun _ => 0))))), ((u45 2), .inl (ty 1, (101, .inr (.inl (fun _ => 0)))))] H := hP
  have hD : va_D A [(q, .inr (7, [.null, .ref q7, .ref q14, .ref q26, .null, .int 0])), (q7, .inl (cA9, (100, .inr (.inr (.inr (.inr (fun _ => none))))))), (q14, .inr (8, [.ref (u19 0), .ref (u19 1), .ref (u19 2), .int 0, .int 0])), ((u19 0), .inl (ty 0, (0, .inl (fun _ => 0)))), ((u19 1), .inl (ty 1, (0, .inr (.inl (fun _ => 0))))), ((u19 2), .inl (ty 1, (0, .inr (.inl (fun _ => 0))))), (q26, .inr (8, [.ref (u32 0), .ref (u32 1), .ref (u32 2), .int 0, .int 0])), ((u32 0), .inl (ty 0, (101, .inl (fun _ => 0)))), ((u32 1), .inl (ty 1, (101, .inr (.inl (fun _ => 0))))), ((u32 2), .inl (ty 1, (101, .inr (.inl (fun _ => 0))))), (q39, .inr (8, [.ref (u45 0), .ref (u45 1), .ref (u45 2), .int 0, .int 0])), ((u45 0), .inl (ty 0, (101, .inl (fun _ => 0)))), ((u45 1), .inl (ty 1, (101, .inr (.inl (fun _ => 0))))), ((u45 2), .inl (ty 1, (101, .inr (.inl (fun _ => 0)))))] := hD
  refine va_putF (v := .ref q39) (ty := .object "ClauseLedger$Sum") (C := R_Ba) (T := T_Ba) (N := 6) hx hb hg in_Ba ty_Ba ok_Ba nm_Ba hown hK hP hD hS 0 rfl rfl 4 (by decide) (hg _ m_211) (fun _ h9 => h9) rfl hin rfl (by decide +kernel) rfl rfl (Nat.le_of_ble_eq_true rfl) d_Ba_init_48 (fun H locs hP hD hS => ?_)
  have hP : va_P D classes [(q, .inr (7, [.null, .ref q7, .ref q14, .ref q26, .ref q39, .int 0])), (q7, .inl (cA9, (100, .inr (.inr (.inr (.inr (fun _ => none))))))), (q14, .inr (8, [.ref (u19 0), .ref (u19 1), .ref (u19 2), .int 0, .int 0])), ((u19 0), .inl (ty 0, (0, .inl (fun _ => 0)))), ((u19 1), .inl (ty 1, (0, .inr (.inl (fun _ => 0))))), ((u19 2), .inl (ty 1, (0, .inr (.inl (fun _ => 0))))), (q26, .inr (8, [.ref (u32 0), .ref (u32 1), .ref (u32 2), .int 0, .int 0])), ((u32 0), .inl (ty 0, (101, .inl (fun _ => 0)))), ((u32 1), .inl (ty 1, (101, .inr (.inl (fun _ => 0))))), ((u32 2), .inl (ty 1, (101, .inr (.inl (fun _ => 0))))), (q39, .inr (8, [.ref (u45 0), .ref (u45 1), .ref (u45 2), .int 0, .int 0])), ((u45 0), .inl (ty 0, (101, .inl (fun _ => 0)))), ((u45 1), .inl (ty 1, (101, .inr (.inl (fun _ => 0))))), ((u45 2), .inl (ty 1, (101, .inr (.inl (fun _ => 0)))))] H := hP
  have hD : va_D A [(q, .inr (7, [.null, .ref q7, .ref q14, .ref q26, .ref q39, .int 0])), (q7, .inl (cA9, (100, .inr (.inr (.inr (.inr (fun _ => none))))))), (q14, .inr (8, [.ref (u19 0), .ref (u19 1), .ref (u19 2), .int 0, .int 0])), ((u19 0), .inl (ty 0, (0, .inl (fun _ => 0)))), ((u19 1), .inl (ty 1, (0, .inr (.inl (fun _ => 0))))), ((u19 2), .inl (ty 1, (0, .inr (.inl (fun _ => 0))))), (q26, .inr (8, [.ref (u32 0), .ref (u32 1), .ref (u32 2), .int 0, .int 0])), ((u32 0), .inl (ty 0, (101, .inl (fun _ => 0)))), ((u32 1), .inl (ty 1, (101, .inr (.inl (fun _ => 0))))), ((u32 2), .inl (ty 1, (101, .inr (.inl (fun _ => 0))))), (q39, .inr (8, [.ref (u45 0), .ref (u45 1), .ref (u45 2), .int 0, .int 0])), ((u45 0), .inl (ty 0, (101, .inl (fun _ => 0)))), ((u45 1), .inl (ty 1, (101, .inr (.inl (fun _ => 0))))), ((u45 2), .inl (ty 1, (101, .inr (.inl (fun _ => 0)))))] := hD
  refine lv_aload_n hx hb d_Ba_init_51 rfl (lv_at hl 0 rfl) ?_
  refine lv_iconst (v := 0) hx hb d_Ba_init_52 (by decide) ?_
  refine va_put (v := .int 0) (ty := .boolean) (C := R_Ba) (T := T_Ba) (N := 6) hx hb hg in_Ba ty_Ba ok_Ba nm_Ba hown hK hP hD hS 0 rfl rfl 5 (by decide) (hg _ m_212) (fun _ h9 => h9) rfl (by decide +kernel) rfl rfl (Nat.le_of_ble_eq_true rfl) d_Ba_init_53 (fun H locs hP hD hS => ?_)
  have hP : va_P D classes [(q, .inr (7, [.null, .ref q7, .ref q14, .ref q26, .ref q39, .int 0])), (q7, .inl (cA9, (100, .inr (.inr (.inr (.inr (fun _ => none))))))), (q14, .inr (8, [.ref (u19 0), .ref (u19 1), .ref (u19 2), .int 0, .int 0])), ((u19 0), .inl (ty 0, (0, .inl (fun _ => 0)))), ((u19 1), .inl (ty 1, (0, .inr (.inl (fun _ => 0))))), ((u19 2), .inl (ty 1, (0, .inr (.inl (fun _ => 0))))), (q26, .inr (8, [.ref (u32 0), .ref (u32 1), .ref (u32 2), .int 0, .int 0])), ((u32 0), .inl (ty 0, (101, .inl (fun _ => 0)))), ((u32 1), .inl (ty 1, (101, .inr (.inl (fun _ => 0))))), ((u32 2), .inl (ty 1, (101, .inr (.inl (fun _ => 0))))), (q39, .inr (8, [.ref (u45 0), .ref (u45 1), .ref (u45 2), .int 0, .int 0])), ((u45 0), .inl (ty 0, (101, .inl (fun _ => 0)))), ((u45 1), .inl (ty 1, (101, .inr (.inl (fun _ => 0))))), ((u45 2), .inl (ty 1, (101, .inr (.inl (fun _ => 0)))))] H := hP
  have hD : va_D A [(q, .inr (7, [.null, .ref q7, .ref q14, .ref q26, .ref q39, .int 0])), (q7, .inl (cA9, (100, .inr (.inr (.inr (.inr (fun _ => none))))))), (q14, .inr (8, [.ref (u19 0), .ref (u19 1), .ref (u19 2), .int 0, .int 0])), ((u19 0), .inl (ty 0, (0, .inl (fun _ => 0)))), ((u19 1), .inl (ty 1, (0, .inr (.inl (fun _ => 0))))), ((u19 2), .inl (ty 1, (0, .inr (.inl (fun _ => 0))))), (q26, .inr (8, [.ref (u32 0), .ref (u32 1), .ref (u32 2), .int 0, .int 0])), ((u32 0), .inl (ty 0, (101, .inl (fun _ => 0)))), ((u32 1), .inl (ty 1, (101, .inr (.inl (fun _ => 0))))), ((u32 2), .inl (ty 1, (101, .inr (.inl (fun _ => 0))))), (q39, .inr (8, [.ref (u45 0), .ref (u45 1), .ref (u45 2), .int 0, .int 0])), ((u45 0), .inl (ty 0, (101, .inl (fun _ => 0)))), ((u45 1), .inl (ty 1, (101, .inr (.inl (fun _ => 0))))), ((u45 2), .inl (ty 1, (101, .inr (.inl (fun _ => 0)))))] := hD
  refine lv_aload_n hx hb d_Ba_init_56 rfl (lv_at hl 0 rfl) ?_
  refine lv_aload_n hx hb d_Ba_init_57 rfl (lv_at hl 1 rfl) ?_
  refine va_putF (v := .ref a1) (ty := .object "ClauseLedger$Terms") (C := R_Ba) (T := T_Ba) (N := 6) hx hb hg in_Ba ty_Ba ok_Ba nm_Ba hown hK hP hD hS 0 rfl rfl 0 (by decide) (hg _ m_207) (fun _ h9 => h9) rfl hin rfl (by decide +kernel) rfl rfl (Nat.le_of_ble_eq_true rfl) d_Ba_init_58 (fun H locs hP hD hS => ?_)
  have hP : va_P D classes [(q, .inr (7, [.ref a1, .ref q7, .ref q14, .ref q26, .ref q39, .int 0])), (q7, .inl (cA9, (100, .inr (.inr (.inr (.inr (fun _ => none))))))), (q14, .inr (8, [.ref (u19 0), .ref (u19 1), .ref (u19 2), .int 0, .int 0])), ((u19 0), .inl (ty 0, (0, .inl (fun _ => 0)))), ((u19 1), .inl (ty 1, (0, .inr (.inl (fun _ => 0))))), ((u19 2), .inl (ty 1, (0, .inr (.inl (fun _ => 0))))), (q26, .inr (8, [.ref (u32 0), .ref (u32 1), .ref (u32 2), .int 0, .int 0])), ((u32 0), .inl (ty 0, (101, .inl (fun _ => 0)))), ((u32 1), .inl (ty 1, (101, .inr (.inl (fun _ => 0))))), ((u32 2), .inl (ty 1, (101, .inr (.inl (fun _ => 0))))), (q39, .inr (8, [.ref (u45 0), .ref (u45 1), .ref (u45 2), .int 0, .int 0])), ((u45 0), .inl (ty 0, (101, .inl (fun _ => 0)))), ((u45 1), .inl (ty 1, (101, .inr (.inl (fun _ => 0))))), ((u45 2), .inl (ty 1, (101, .inr (.inl (fun _ => 0)))))] H := hP
  have hD : va_D A [(q, .inr (7, [.ref a1, .ref q7, .ref q14, .ref q26, .ref q39, .int 0])), (q7, .inl (cA9, (100, .inr (.inr (.inr (.inr (fun _ => none))))))), (q14, .inr (8, [.ref (u19 0), .ref (u19 1), .ref (u19 2), .int 0, .int 0])), ((u19 0), .inl (ty 0, (0, .inl (fun _ => 0)))), ((u19 1), .inl (ty 1, (0, .inr (.inl (fun _ => 0))))), ((u19 2), .inl (ty 1, (0, .inr (.inl (fun _ => 0))))), (q26, .inr (8, [.ref (u32 0), .ref (u32 1), .ref (u32 2), .int 0, .int 0])), ((u32 0), .inl (ty 0, (101, .inl (fun _ => 0)))), ((u32 1), .inl (ty 1, (101, .inr (.inl (fun _ => 0))))), ((u32 2), .inl (ty 1, (101, .inr (.inl (fun _ => 0))))), (q39, .inr (8, [.ref (u45 0), .ref (u45 1), .ref (u45 2), .int 0, .int 0])), ((u45 0), .inl (ty 0, (101, .inl (fun _ => 0)))), ((u45 1), .inl (ty 1, (101, .inr (.inl (fun _ => 0))))), ((u45 2), .inl (ty 1, (101, .inr (.inl (fun _ => 0)))))] := hD
  exact W.vret hx hb hr (fun t ht hW => ⟨⟨(fun k => ([q7, cA9, q14, (u19 0), (u19 1), (u19 2), q26, (u32 0), (u32 1), (u32 2), q39, (u45 0), (u45 1), (u45 2)] : List Nat).getD k 0), rfl, trivial, by rw [ht]; exact hP, hD, va_K.moved hW.alike hKA⟩, hS.F ht⟩) hS.2.2 d_Ba_init_61
