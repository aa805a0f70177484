-- ClauseLedger$Steps.add(LClauseLedger$Row;IZ)I
abbrev b_St_add : ByteArray := prog_9_method_11_code
def y_St_add : MethodName := ⟨"ClauseLedger$Steps", "add", "(LClauseLedger$Row;IZ)I"⟩
theorem hd_St_add : y_St_add.cls ≠ "java/lang/invoke/MethodHandle" ∧ y_St_add.cls ≠ "java/lang/invoke/VarHandle" ∧ (parseMethodDescriptor y_St_add.desc).map (fun d => d.parameters.length) = some 3 := by decide +kernel
theorem d_St_add_0 : decode b_St_add 0 = .ok (.aload_n 0, 1) := by decide +kernel
theorem d_St_add_1 : decode b_St_add 1 = .ok (.invokevirtual 41, 3) := by decide +kernel
theorem d_St_add_4 : decode b_St_add 4 = .ok (.ifCond .eq 5, 3) := by decide +kernel
theorem d_St_add_7 : decode b_St_add 7 = .ok (.iconst (-1), 1) := by decide +kernel
theorem d_St_add_8 : decode b_St_add 8 = .ok (.ireturn, 1) := by decide +kernel
theorem d_St_add_9 : decode b_St_add 9 = .ok (.aload_n 0, 1) := by decide +kernel
theorem d_St_add_10 : decode b_St_add 10 = .ok (.getfield 25, 3) := by decide +kernel
theorem d_St_add_13 : decode b_St_add 13 = .ok (.istore 4, 2) := by decide +kernel
theorem d_St_add_15 : decode b_St_add 15 = .ok (.aload_n 1, 1) := by decide +kernel
theorem d_St_add_16 : decode b_St_add 16 = .ok (.invokevirtual 45, 3) := by decide +kernel
theorem d_St_add_19 : decode b_St_add 19 = .ok (.bipush 8, 2) := by decide +kernel
theorem d_St_add_21 : decode b_St_add 21 = .ok (.invokestatic 51, 3) := by decide +kernel
theorem d_St_add_24 : decode b_St_add 24 = .ok (.istore 5, 2) := by decide +kernel
theorem d_St_add_26 : decode b_St_add 26 = .ok (.iconst 0, 1) := by decide +kernel
theorem d_St_add_27 : decode b_St_add 27 = .ok (.istore 6, 2) := by decide +kernel
theorem d_St_add_29 : decode b_St_add 29 = .ok (.iload 6, 2) := by decide +kernel
theorem d_St_add_31 : decode b_St_add 31 = .ok (.iload 5, 2) := by decide +kernel
theorem d_St_add_33 : decode b_St_add 33 = .ok (.if_icmp .ge 28, 3) := by decide +kernel
theorem d_St_add_36 : decode b_St_add 36 = .ok (.aload_n 0, 1) := by decide +kernel
theorem d_St_add_37 : decode b_St_add 37 = .ok (.getfield 9, 3) := by decide +kernel
theorem d_St_add_40 : decode b_St_add 40 = .ok (.iload 4, 2) := by decide +kernel
theorem d_St_add_42 : decode b_St_add 42 = .ok (.bipush 8, 2) := by decide +kernel
theorem d_St_add_44 : decode b_St_add 44 = .ok (.imul, 1) := by decide +kernel
theorem d_St_add_45 : decode b_St_add 45 = .ok (.iload 6, 2) := by decide +kernel
theorem d_St_add_47 : decode b_St_add 47 = .ok (.iadd, 1) := by decide +kernel
theorem d_St_add_48 : decode b_St_add 48 = .ok (.aload_n 1, 1) := by decide +kernel
theorem d_St_add_49 : decode b_St_add 49 = .ok (.iload 6, 2) := by decide +kernel
theorem d_St_add_51 : decode b_St_add 51 = .ok (.invokevirtual 56, 3) := by decide +kernel
theorem d_St_add_54 : decode b_St_add 54 = .ok (.iastore, 1) := by decide +kernel
theorem d_St_add_55 : decode b_St_add 55 = .ok (.iinc 6 1, 3) := by decide +kernel
theorem d_St_add_58 : decode b_St_add 58 = .ok (.goto (-29), 3) := by decide +kernel
theorem d_St_add_61 : decode b_St_add 61 = .ok (.aload_n 0, 1) := by decide +kernel
theorem d_St_add_62 : decode b_St_add 62 = .ok (.getfield 15, 3) := by decide +kernel
theorem d_St_add_65 : decode b_St_add 65 = .ok (.iload 4, 2) := by decide +kernel
theorem d_St_add_67 : decode b_St_add 67 = .ok (.iload 5, 2) := by decide +kernel
theorem d_St_add_69 : decode b_St_add 69 = .ok (.iastore, 1) := by decide +kernel
theorem d_St_add_70 : decode b_St_add 70 = .ok (.aload_n 0, 1) := by decide +kernel
theorem d_St_add_71 : decode b_St_add 71 = .ok (.getfield 18, 3) := by decide +kernel
theorem d_St_add_74 : decode b_St_add 74 = .ok (.iload 4, 2) := by decide +kernel
theorem d_St_add_76 : decode b_St_add 76 = .ok (.iload_n 2, 1) := by decide +kernel
theorem d_St_add_77 : decode b_St_add 77 = .ok (.iastore, 1) := by decide +kernel
theorem d_St_add_78 : decode b_St_add 78 = .ok (.aload_n 0, 1) := by decide +kernel
theorem d_St_add_79 : decode b_St_add 79 = .ok (.getfield 21, 3) := by decide +kernel
theorem d_St_add_82 : decode b_St_add 82 = .ok (.iload 4, 2) := by decide +kernel
theorem d_St_add_84 : decode b_St_add 84 = .ok (.iload_n 3, 1) := by decide +kernel
theorem d_St_add_85 : decode b_St_add 85 = .ok (.bastore, 1) := by decide +kernel
theorem d_St_add_86 : decode b_St_add 86 = .ok (.aload_n 0, 1) := by decide +kernel
theorem d_St_add_87 : decode b_St_add 87 = .ok (.dup, 1) := by decide +kernel
theorem d_St_add_88 : decode b_St_add 88 = .ok (.getfield 25, 3) := by decide +kernel
theorem d_St_add_91 : decode b_St_add 91 = .ok (.iconst 1, 1) := by decide +kernel
theorem d_St_add_92 : decode b_St_add 92 = .ok (.iadd, 1) := by decide +kernel
theorem d_St_add_93 : decode b_St_add 93 = .ok (.putfield 25, 3) := by decide +kernel
theorem d_St_add_96 : decode b_St_add 96 = .ok (.iload 4, 2) := by decide +kernel
theorem d_St_add_98 : decode b_St_add 98 = .ok (.ireturn, 1) := by decide +kernel
def f_St_add_55 (F29 : (Int32 → Int32 → Int32 → Int32 → Int32 → St → Int32 × St)) (x2 : Int32) (x3 : Int32) (x4 : Int32) (x5 : Int32) (x6 : Int32) (σ : St) : Int32 × St := F29 x2 x3 x4 x5 (x6 + 1) σ
def k_St_add_55 (K29 : (Int32 → Int32 → Int32 → Int32 → Int32 → St → Prop)) (x2 : Int32) (x3 : Int32) (x4 : Int32) (x5 : Int32) (x6 : Int32) (σ : St) : Prop := K29 x2 x3 x4 x5 (x6 + 1) σ
def f_St_add_96 (x4 : Int32) (σ : St) : Int32 × St := (x4, σ)
def k_St_add_96 (x4 : Int32) (σ : St) : Prop := True
def f_St_add_86 (x4 : Int32) (σ : St) : Int32 × St := f_St_add_96 x4 (sF σ 31 4 ((σ.1 31 4) + 1))
def k_St_add_86 (x4 : Int32) (σ : St) : Prop := k_St_add_96 x4 (sF σ 31 4 ((σ.1 31 4) + 1))
def f_St_add_78 (x3 : Int32) (x4 : Int32) (σ : St) : Int32 × St := f_St_add_86 x4 (sA σ 35 x4 (vp_nar .boolean x3))
def k_St_add_78 (x3 : Int32) (x4 : Int32) (σ : St) : Prop := vp_in x4 60 ∧ (k_St_add_86 x4 (sA σ 35 x4 (vp_nar .boolean x3)))
def f_St_add_70 (x2 : Int32) (x3 : Int32) (x4 : Int32) (σ : St) : Int32 × St := f_St_add_78 x3 x4 (sA σ 34 x4 x2)
def k_St_add_70 (x2 : Int32) (x3 : Int32) (x4 : Int32) (σ : St) : Prop := vp_in x4 60 ∧ (k_St_add_78 x3 x4 (sA σ 34 x4 x2))
def f_St_add_29 : Nat → Int32 → Int32 → Int32 → Int32 → Int32 → St → Int32 × St
  | 0, _, _, _, _, _, σ => (0, σ)
  | n + 1, x2, x3, x4, x5, x6, σ => if x5 ≤ x6 then (f_St_add_70 x2 x3 x4 (sA σ 33 x4 x5)) else (f_St_add_55 (f_St_add_29 n) x2 x3 x4 x5 x6 (sA σ 32 ((x4 * 8) + x6) (f_Ro_truth x6 σ)))
def k_St_add_29 : Nat → Int32 → Int32 → Int32 → Int32 → Int32 → St → Prop
  | 0, _, _, _, _, _, _ => False
  | n + 1, x2, x3, x4, x5, x6, σ => (x5 ≤ x6 → (vp_in x4 60 ∧ (k_St_add_70 x2 x3 x4 (sA σ 33 x4 x5)))) ∧ (¬ x5 ≤ x6 → ((k_Ro_truth x6 σ) ∧ (vp_in ((x4 * 8) + x6) 480 ∧ (k_St_add_55 (k_St_add_29 n) x2 x3 x4 x5 x6 (sA σ 32 ((x4 * 8) + x6) (f_Ro_truth x6 σ))))))
def f_St_add_26 (x2 : Int32) (x3 : Int32) (x4 : Int32) (x5 : Int32) (σ : St) : Int32 × St := f_St_add_29 1000 x2 x3 x4 x5 0 σ
def k_St_add_26 (x2 : Int32) (x3 : Int32) (x4 : Int32) (x5 : Int32) (σ : St) : Prop := k_St_add_29 1000 x2 x3 x4 x5 0 σ
def f_St_add_15 (x2 : Int32) (x3 : Int32) (x4 : Int32) (σ : St) : Int32 × St := f_St_add_26 x2 x3 x4 (if 8 < (f_Ro_size σ) then 8 else (f_Ro_size σ)) σ
def k_St_add_15 (x2 : Int32) (x3 : Int32) (x4 : Int32) (σ : St) : Prop := (k_Ro_size σ) ∧ (k_St_add_26 x2 x3 x4 (if 8 < (f_Ro_size σ) then 8 else (f_Ro_size σ)) σ)
def f_St_add (a2 : Int32) (a3 : Int32) (σ : St) : Int32 × St := if (f_St_isFull σ) = 0 then (f_St_add_15 a2 a3 (σ.1 31 4) σ) else ((-1), σ)
def k_St_add (a2 : Int32) (a3 : Int32) (σ : St) : Prop := (k_St_isFull σ) ∧ (((f_St_isFull σ) = 0 → (k_St_add_15 a2 a3 (σ.1 31 4) σ)) ∧ (¬ (f_St_isFull σ) = 0 → True))
abbrev w_St_add : List Cond := Cond.code y_St_add b_St_add 7 (some .int) :: gw
abbrev rm_St_add : Room := { frames := 1, cells := 0, slots := 0, locals := 21 }
set_option maxHeartbeats 4000000 in
set_option maxRecDepth 100000 in
theorem c_St_add (l : Launch) (D : va_G) (ty : Nat → ClassId) (h : Nat → Nat) (px : va_W) (σ : St) (sz : Nat) (a2 : Int32) (a3 : Int32) (hk : k_St_add a2 a3 σ) : Met l y_St_add w_St_add rm_St_add (va_Pc [.ref (h 31), .ref (h 25), .int a2, .int a3] (fun U => U.heap.size = sz ∧ va_P D classes (Wc ty h σ px) U.heap ∧ va_K D classes (Ta ty) U ∧ NW U ∧ va_D (fun _ => True) (Wc ty h σ px))) (va_Qi (fun r (u : St) => (r, u) = f_St_add a2 a3 σ) (fun u t => va_P D classes (Wc ty h u px) t.heap) (va_A (Wc ty h σ px) sz)) 0 0 (va_A (Wc ty h σ px) sz) := by
  refine Met.ofW (cc := b_St_add) (maxL := 7) (ret := (some .int)) (by decide) rfl ?_
  intro p e s m args below meth c s₁ B hml hv
  obtain ⟨ha, hsz, hP, hK, hN, hD0⟩ := hv
  have hx := B.exec
  have hb := B.bytes
  have hr := B.returns
  have hg : ∀ w ∈ gw, w.before args s = true := fun w h9 => atoms_spec (ws := w_St_add) B.pre w (List.mem_cons_of_mem _ h9)
  have hown : s.vm.findClass "ClauseLedger$Steps" = some m.cls := findClass_of_methodNamed B.named
  have hlocks := B.notSynchronized
  subst hsz
  have hD := hD0.self (sz := s.heap.size)
  generalize hAe : va_A (Wc ty h σ px) s.heap.size = A at hD ⊢
  have hA : ∀ q : Nat, s.heap.size ≤ q → A q := fun q h9 => by rw [← hAe]; exact Or.inr h9
  have hS : va_S A s.heap s.heap [] := va_S.rf
  have he : entryFrame m args 7 = entryFrame m ([.ref (h 31), .ref (h 25), .int a2, .int a3] : List Value).toArray 7 := by rw [ha]
  rw [he, lg_entry_eq]
  have hl := lv_entry ([.ref (h 31), .ref (h 25), .int a2, .int a3]) (n := 7) (Nat.le_of_ble_eq_true rfl)
  generalize (lg_sl ([.ref (h 31), .ref (h 25), .int a2, .int a3]) ++ List.replicate (7 - (lg_sl ([.ref (h 31), .ref (h 25), .int a2, .int a3])).length) Slot.unset).toArray = ls at hl ⊢
  have hl : lv_has ls 7 [(0, .ref (h 31)), (1, .ref (h 25)), (2, .int a2), (3, .int a3)] := hl
  generalize hv : f_St_add a2 a3 σ = v
  replace hv := hv.symm
  have B96 : ∀ (H : Heap) (locs : List Loc) (ls : Array Slot) (x4 : Int32) (σ : St), v = f_St_add_96 x4 σ → k_St_add_96 x4 σ → lv_has ls 7 [(4, .int x4)] → va_P D classes (Wc ty h σ px) H → va_D A (Wc ty h σ px) → va_S A s.heap H locs → W p l e (headSpec w_St_add rm_St_add).room s m args below meth c H locs 0 0 (MQ below (va_Qi (fun r (u : St) => (r, u) = v) (fun u t => va_P D classes (Wc ty h u px) t.heap) A) args s 0 0 A) (F0 m 96 ls []) := by
    intro H locs ls x4 σ hv hk hl hP hD hS
    unfold f_St_add_96 at hv
    unfold k_St_add_96 at hk
    refine lv_iload hx hb d_St_add_96 (lv_at hl 0 rfl) ?_
    exact W.iret hx hb hr (fun t ht hW => ⟨⟨_, _, rfl, hv.symm, by dsimp only; rw [ht]; exact hP⟩, hS.F ht⟩) hS.2.2 d_St_add_98
  have B86 : ∀ (H : Heap) (locs : List Loc) (ls : Array Slot) (x4 : Int32) (σ : St), v = f_St_add_86 x4 σ → k_St_add_86 x4 σ → lv_has ls 7 [(0, .ref (h 31)), (4, .int x4)] → va_P D classes (Wc ty h σ px) H → va_D A (Wc ty h σ px) → va_S A s.heap H locs → W p l e (headSpec w_St_add rm_St_add).room s m args below meth c H locs 0 0 (MQ below (va_Qi (fun r (u : St) => (r, u) = v) (fun u t => va_P D classes (Wc ty h u px) t.heap) A) args s 0 0 A) (F0 m 86 ls []) := by
    intro H locs ls x4 σ hv hk hl hP hD hS
    unfold f_St_add_86 at hv
    unfold k_St_add_86 at hk
    refine lv_aload_n hx hb d_St_add_86 rfl (lv_at hl 0 rfl) ?_
    refine lv_dup hx hb d_St_add_87 rfl ?_
    refine va_get (v := .int (σ.1 31 4)) (C := R_St) (T := T_St) (N := 5) hx hb hg in_St hown hK hP 31 rfl rfl 4 (by decide) (hg _ m_272) (fun _ h9 => h9) rfl d_St_add_88 ?_
    refine lv_iconst (v := 1) hx hb d_St_add_91 (by decide) ?_
    refine lv_iadd hx hb d_St_add_92 ?_
    refine va_put (v := .int ((σ.1 31 4) + 1)) (ty := .int) (C := R_St) (T := T_St) (N := 5) hx hb hg in_St ty_St ok_St nm_St hown hK hP hD hS 31 rfl rfl 4 (by decide) (hg _ m_272) (fun _ h9 => h9) rfl (by decide +kernel) rfl rfl (Nat.le_of_ble_eq_true rfl) d_St_add_93 (fun H locs hP hD hS => ?_)
    have hP : va_P D classes (Wc ty h (sF σ 31 4 ((σ.1 31 4) + 1)) px) H := hP
    have hD : va_D A (Wc ty h (sF σ 31 4 ((σ.1 31 4) + 1)) px) := hD
    exact B96 _ _ _ x4 (sF σ 31 4 ((σ.1 31 4) + 1)) hv hk (lv_sub hl [1] rfl) hP hD hS
  have B78 : ∀ (H : Heap) (locs : List Loc) (ls : Array Slot) (x3 : Int32) (x4 : Int32) (σ : St), v = f_St_add_78 x3 x4 σ → k_St_add_78 x3 x4 σ → lv_has ls 7 [(0, .ref (h 31)), (3, .int x3), (4, .int x4)] → va_P D classes (Wc ty h σ px) H → va_D A (Wc ty h σ px) → va_S A s.heap H locs → W p l e (headSpec w_St_add rm_St_add).room s m args below meth c H locs 0 0 (MQ below (va_Qi (fun r (u : St) => (r, u) = v) (fun u t => va_P D classes (Wc ty h u px) t.heap) A) args s 0 0 A) (F0 m 78 ls []) := by
    intro H locs ls x3 x4 σ hv hk hl hP hD hS
    unfold f_St_add_78 at hv
    unfold k_St_add_78 at hk
    refine lv_aload_n hx hb d_St_add_78 rfl (lv_at hl 0 rfl) ?_
    refine va_get (v := .ref (h 35)) (C := R_St) (T := T_St) (N := 5) hx hb hg in_St hown hK hP 31 rfl rfl 3 (by decide) (hg _ m_271) (fun _ h9 => h9) rfl d_St_add_79 ?_
    refine lv_iload hx hb d_St_add_82 (lv_at hl 2 rfl) ?_
    refine lv_iload_n hx hb d_St_add_84 rfl (lv_at hl 1 rfl) ?_
    obtain ⟨hk0, hk⟩ := hk
    refine va_zast hx hb hK hP hD hS 35 3 rfl rfl hk0 d_St_add_85 (fun H locs hP hD hS => ?_)
    have hP : va_P D classes (Wc ty h (sA σ 35 x4 (vp_nar .boolean x3)) px) H := hP
    have hD : va_D A (Wc ty h (sA σ 35 x4 (vp_nar .boolean x3)) px) := hD
    exact B86 _ _ _ x4 (sA σ 35 x4 (vp_nar .boolean x3)) hv hk (lv_sub hl [0, 2] rfl) hP hD hS
  have B70 : ∀ (H : Heap) (locs : List Loc) (ls : Array Slot) (x2 : Int32) (x3 : Int32) (x4 : Int32) (σ : St), v = f_St_add_70 x2 x3 x4 σ → k_St_add_70 x2 x3 x4 σ → lv_has ls 7 [(0, .ref (h 31)), (2, .int x2), (3, .int x3), (4, .int x4)] → va_P D classes (Wc ty h σ px) H → va_D A (Wc ty h σ px) → va_S A s.heap H locs → W p l e (headSpec w_St_add rm_St_add).room s m args below meth c H locs 0 0 (MQ below (va_Qi (fun r (u : St) => (r, u) = v) (fun u t => va_P D classes (Wc ty h u px) t.heap) A) args s 0 0 A) (F0 m 70 ls []) := by
    intro H locs ls x2 x3 x4 σ hv hk hl hP hD hS
    unfold f_St_add_70 at hv
    unfold k_St_add_70 at hk
    refine lv_aload_n hx hb d_St_add_70 rfl (lv_at hl 0 rfl) ?_
    refine va_get (v := .ref (h 34)) (C := R_St) (T := T_St) (N := 5) hx hb hg in_St hown hK hP 31 rfl rfl 2 (by decide) (hg _ m_270) (fun _ h9 => h9) rfl d_St_add_71 ?_
    refine lv_iload hx hb d_St_add_74 (lv_at hl 3 rfl) ?_
    refine lv_iload_n hx hb d_St_add_76 rfl (lv_at hl 1 rfl) ?_
    obtain ⟨hk0, hk⟩ := hk
    refine va_iast hx hb hK hP hD hS 34 0 rfl rfl hk0 d_St_add_77 (fun H locs hP hD hS => ?_)
    have hP : va_P D classes (Wc ty h (sA σ 34 x4 x2) px) H := hP
    have hD : va_D A (Wc ty h (sA σ 34 x4 x2) px) := hD
    exact B78 _ _ _ x3 x4 (sA σ 34 x4 x2) hv hk (lv_sub hl [0, 2, 3] rfl) hP hD hS
  have B29 : ∀ (n29 : Nat) (H : Heap) (locs : List Loc) (ls : Array Slot) (x2 : Int32) (x3 : Int32) (x4 : Int32) (x5 : Int32) (x6 : Int32) (σ : St), v = f_St_add_29 n29 x2 x3 x4 x5 x6 σ → k_St_add_29 n29 x2 x3 x4 x5 x6 σ → lv_has ls 7 [(0, .ref (h 31)), (1, .ref (h 25)), (2, .int x2), (3, .int x3), (4, .int x4), (5, .int x5), (6, .int x6)] → va_P D classes (Wc ty h σ px) H → va_D A (Wc ty h σ px) → va_S A s.heap H locs → W p l e (headSpec w_St_add rm_St_add).room s m args below meth c H locs 0 0 (MQ below (va_Qi (fun r (u : St) => (r, u) = v) (fun u t => va_P D classes (Wc ty h u px) t.heap) A) args s 0 0 A) (F0 m 29 ls []) := by
    intro n29
    induction n29 with
    | zero => intro H locs ls x2 x3 x4 x5 x6 σ hv hk hl hP hD hS; exact hk.elim
    | succ n29 ih29 =>
      have B55 : ∀ (H : Heap) (locs : List Loc) (ls : Array Slot) (x2 : Int32) (x3 : Int32) (x4 : Int32) (x5 : Int32) (x6 : Int32) (σ : St), v = f_St_add_55 (f_St_add_29 n29) x2 x3 x4 x5 x6 σ → k_St_add_55 (k_St_add_29 n29) x2 x3 x4 x5 x6 σ → lv_has ls 7 [(0, .ref (h 31)), (1, .ref (h 25)), (2, .int x2), (3, .int x3), (4, .int x4), (5, .int x5), (6, .int x6)] → va_P D classes (Wc ty h σ px) H → va_D A (Wc ty h σ px) → va_S A s.heap H locs → W p l e (headSpec w_St_add rm_St_add).room s m args below meth c H locs 0 0 (MQ below (va_Qi (fun r (u : St) => (r, u) = v) (fun u t => va_P D classes (Wc ty h u px) t.heap) A) args s 0 0 A) (F0 m 55 ls []) := by
        intro H locs ls x2 x3 x4 x5 x6 σ hv hk hl hP hD hS
        unfold f_St_add_55 at hv
        unfold k_St_add_55 at hk
        refine lv_iinc (k := 6) (v := x6 + 1) (lv' := [(6, .int (x6 + 1)), (0, .ref (h 31)), (1, .ref (h 25)), (2, .int x2), (3, .int x3), (4, .int x4), (5, .int x5)]) hx hb d_St_add_55 hl rfl (by first | rfl | simp [lit1, litm1]) (by decide) rfl (fun ls hl => ?_)
        refine lv_goto (tgt := 29) hx hb d_St_add_58 (by decide) ?_
        exact ih29 _ _ _ x2 x3 x4 x5 (x6 + 1) σ hv hk (lv_sub hl [1, 2, 3, 4, 5, 6, 0] rfl) hP hD hS
      intro H locs ls x2 x3 x4 x5 x6 σ hv hk hl hP hD hS
      rw [f_St_add_29] at hv
      rw [k_St_add_29] at hk
      refine lv_iload hx hb d_St_add_29 (lv_at hl 6 rfl) ?_
      refine lv_iload hx hb d_St_add_31 (lv_at hl 5 rfl) ?_
      refine lv_icmp_ge (tgt := 61) hx hb d_St_add_33 (by decide) (fun hc => ?_) (fun hc => ?_)
      · have hv := hv.trans (if_pos hc)
        have hk := hk.1 hc
        refine lv_aload_n hx hb d_St_add_61 rfl (lv_at hl 0 rfl) ?_
        refine va_get (v := .ref (h 33)) (C := R_St) (T := T_St) (N := 5) hx hb hg in_St hown hK hP 31 rfl rfl 1 (by decide) (hg _ m_269) (fun _ h9 => h9) rfl d_St_add_62 ?_
        refine lv_iload hx hb d_St_add_65 (lv_at hl 4 rfl) ?_
        refine lv_iload hx hb d_St_add_67 (lv_at hl 5 rfl) ?_
        obtain ⟨hk0, hk⟩ := hk
        refine va_iast hx hb hK hP hD hS 33 0 rfl rfl hk0 d_St_add_69 (fun H locs hP hD hS => ?_)
        have hP : va_P D classes (Wc ty h (sA σ 33 x4 x5) px) H := hP
        have hD : va_D A (Wc ty h (sA σ 33 x4 x5) px) := hD
        exact B70 _ _ _ x2 x3 x4 (sA σ 33 x4 x5) hv hk (lv_sub hl [0, 2, 3, 4] rfl) hP hD hS
      · have hv := hv.trans (if_neg hc)
        have hk := hk.2 hc
        refine lv_aload_n hx hb d_St_add_36 rfl (lv_at hl 0 rfl) ?_
        refine va_get (v := .ref (h 32)) (C := R_St) (T := T_St) (N := 5) hx hb hg in_St hown hK hP 31 rfl rfl 0 (by decide) (hg _ m_268) (fun _ h9 => h9) rfl d_St_add_37 ?_
        refine lv_iload hx hb d_St_add_40 (lv_at hl 4 rfl) ?_
        refine lv_bipush (v := 8) hx hb d_St_add_42 (by decide) ?_
        refine lv_imul hx hb d_St_add_44 ?_
        refine lv_iload hx hb d_St_add_45 (lv_at hl 6 rfl) ?_
        refine lv_iadd hx hb d_St_add_47 ?_
        refine lv_aload_n hx hb d_St_add_48 rfl (lv_at hl 1 rfl) ?_
        refine lv_iload hx hb d_St_add_49 (lv_at hl 6 rfl) ?_
        obtain ⟨hk0, hk⟩ := hk
        refine zz_callV (va_runV (As := [.int x6]) (rest := [.int ((x4 * 8) + x6), .ref (h 32)]) ⟨hx, hb, hml, hown, hg⟩ (c_Ro_truth l D ty h px σ x6 hk0) ⟨callB_of 1 hg (gw_C m_966) rfl rfl rfl (hg _ m_10) (hg _ m_963) hd_Ro_truth ⟨Nat.le_of_ble_eq_true rfl, Nat.le_of_ble_eq_true rfl⟩, hg _ m_964, hg _ m_965⟩ (zz_preV hN hK hP 25 rfl rfl) rfl rfl hl.1 rfl (lv_room (Nat.le_of_ble_eq_true rfl)) d_St_add_51 ⟨Nat.le_refl _, Nat.le_refl _⟩) ?_
        obtain ⟨hk0, hk⟩ := hk
        refine va_iast hx hb hK hP hD hS 32 0 rfl rfl hk0 d_St_add_54 (fun H locs hP hD hS => ?_)
        have hP : va_P D classes (Wc ty h (sA σ 32 ((x4 * 8) + x6) (f_Ro_truth x6 σ)) px) H := hP
        have hD : va_D A (Wc ty h (sA σ 32 ((x4 * 8) + x6) (f_Ro_truth x6 σ)) px) := hD
        exact B55 _ _ _ x2 x3 x4 x5 x6 (sA σ 32 ((x4 * 8) + x6) (f_Ro_truth x6 σ)) hv hk (lv_sub hl [0, 1, 2, 3, 4, 5, 6] rfl) hP hD hS
  have B26 : ∀ (H : Heap) (locs : List Loc) (ls : Array Slot) (x2 : Int32) (x3 : Int32) (x4 : Int32) (x5 : Int32) (σ : St), v = f_St_add_26 x2 x3 x4 x5 σ → k_St_add_26 x2 x3 x4 x5 σ → lv_has ls 7 [(0, .ref (h 31)), (1, .ref (h 25)), (2, .int x2), (3, .int x3), (4, .int x4), (5, .int x5)] → va_P D classes (Wc ty h σ px) H → va_D A (Wc ty h σ px) → va_S A s.heap H locs → W p l e (headSpec w_St_add rm_St_add).room s m args below meth c H locs 0 0 (MQ below (va_Qi (fun r (u : St) => (r, u) = v) (fun u t => va_P D classes (Wc ty h u px) t.heap) A) args s 0 0 A) (F0 m 26 ls []) := by
    intro H locs ls x2 x3 x4 x5 σ hv hk hl hP hD hS
    unfold f_St_add_26 at hv
    unfold k_St_add_26 at hk
    refine lv_iconst (v := 0) hx hb d_St_add_26 (by decide) ?_
    refine lv_istore (lv' := [(6, .int 0), (0, .ref (h 31)), (1, .ref (h 25)), (2, .int x2), (3, .int x3), (4, .int x4), (5, .int x5)]) hx hb d_St_add_27 hl (by decide) rfl (fun ls hl => ?_)
    exact B29 1000 _ _ _ x2 x3 x4 x5 0 σ hv hk (lv_sub hl [1, 2, 3, 4, 5, 6, 0] rfl) hP hD hS
  have B15 : ∀ (H : Heap) (locs : List Loc) (ls : Array Slot) (x2 : Int32) (x3 : Int32) (x4 : Int32) (σ : St), v = f_St_add_15 x2 x3 x4 σ → k_St_add_15 x2 x3 x4 σ → lv_has ls 7 [(0, .ref (h 31)), (1, .ref (h 25)), (2, .int x2), (3, .int x3), (4, .int x4)] → va_P D classes (Wc ty h σ px) H → va_D A (Wc ty h σ px) → va_S A s.heap H locs → W p l e (headSpec w_St_add rm_St_add).room s m args below meth c H locs 0 0 (MQ below (va_Qi (fun r (u : St) => (r, u) = v) (fun u t => va_P D classes (Wc ty h u px) t.heap) A) args s 0 0 A) (F0 m 15 ls []) := by
    intro H locs ls x2 x3 x4 σ hv hk hl hP hD hS
    unfold f_St_add_15 at hv
    unfold k_St_add_15 at hk
    refine lv_aload_n hx hb d_St_add_15 rfl (lv_at hl 1 rfl) ?_
    obtain ⟨hk0, hk⟩ := hk
    refine zz_callV (va_runV (As := []) (rest := []) ⟨hx, hb, hml, hown, hg⟩ (c_Ro_size l D ty h px σ  hk0) ⟨callB_of 0 hg (gw_C m_951) rfl rfl rfl (hg _ m_10) (hg _ m_961) hd_Ro_size ⟨Nat.le_of_ble_eq_true rfl, Nat.le_of_ble_eq_true rfl⟩, hg _ m_949, hg _ m_950⟩ (zz_preV hN hK hP 25 rfl rfl) rfl rfl hl.1 rfl (lv_room (Nat.le_of_ble_eq_true rfl)) d_St_add_16 ⟨Nat.le_refl _, Nat.le_refl _⟩) ?_
    refine lv_bipush (v := 8) hx hb d_St_add_19 (by decide) ?_
    refine va_mmin hx hb (hml.trans hl.1.symm) hown (hg _ m_962) (hg _ m_640) (hg _ m_14) (hg _ m_641) (Nat.le_of_ble_eq_true rfl) (Nat.le_of_ble_eq_true rfl) (Nat.le_refl _) (Nat.le_refl _) d_St_add_21 ?_
    refine lv_istore (lv' := [(5, .int (if 8 < (f_Ro_size σ) then 8 else (f_Ro_size σ))), (0, .ref (h 31)), (1, .ref (h 25)), (2, .int x2), (3, .int x3), (4, .int x4)]) hx hb d_St_add_24 hl (by decide) rfl (fun ls hl => ?_)
    exact B26 _ _ _ x2 x3 x4 (if 8 < (f_Ro_size σ) then 8 else (f_Ro_size σ)) σ hv hk (lv_sub hl [1, 2, 3, 4, 5, 0] rfl) hP hD hS
  unfold f_St_add at hv
  unfold k_St_add at hk
  refine lv_aload_n hx hb d_St_add_0 rfl (lv_at hl 0 rfl) ?_
  obtain ⟨hk0, hk⟩ := hk
  refine zz_callV (va_runV (As := []) (rest := []) ⟨hx, hb, hml, hown, hg⟩ (c_St_isFull l D ty h px σ  hk0) ⟨callB_of 0 hg (gw_C m_955) rfl rfl rfl (hg _ m_12) (hg _ m_960) hd_St_isFull ⟨Nat.le_of_ble_eq_true rfl, Nat.le_of_ble_eq_true rfl⟩, hg _ m_953, hg _ m_954⟩ (zz_preV hN hK hP 31 rfl rfl) rfl rfl hl.1 rfl (lv_room (Nat.le_of_ble_eq_true rfl)) d_St_add_1 ⟨Nat.le_refl _, Nat.le_refl _⟩) ?_
  refine lv_if_eq (tgt := 9) hx hb d_St_add_4 (by decide) (fun hc => ?_) (fun hc => ?_)
  · have hv := hv.trans (if_pos hc)
    have hk := hk.1 hc
    refine lv_aload_n hx hb d_St_add_9 rfl (lv_at hl 0 rfl) ?_
    refine va_get (v := .int (σ.1 31 4)) (C := R_St) (T := T_St) (N := 5) hx hb hg in_St hown hK hP 31 rfl rfl 4 (by decide) (hg _ m_272) (fun _ h9 => h9) rfl d_St_add_10 ?_
    refine lv_istore (lv' := [(4, .int (σ.1 31 4)), (0, .ref (h 31)), (1, .ref (h 25)), (2, .int a2), (3, .int a3)]) hx hb d_St_add_13 hl (by decide) rfl (fun ls hl => ?_)
    exact B15 _ _ _ a2 a3 (σ.1 31 4) σ hv hk (lv_sub hl [1, 2, 3, 4, 0] rfl) hP hD hS
  · have hv := hv.trans (if_neg hc)
    have hk := hk.2 hc
    refine lv_iconst (v := -1) hx hb d_St_add_7 (by decide) ?_
    exact W.iret hx hb hr (fun t ht hW => ⟨⟨_, _, rfl, hv.symm, by dsimp only; rw [ht]; exact hP⟩, hS.F ht⟩) hS.2.2 d_St_add_8

