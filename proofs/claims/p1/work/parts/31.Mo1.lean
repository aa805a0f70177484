-- ClauseLedgerModel.enter(II)I
abbrev b_Mo_enter : ByteArray := prog_14_method_15_code
def y_Mo_enter : MethodName := ⟨"ClauseLedgerModel", "enter", "(II)I"⟩
theorem hd_Mo_enter : y_Mo_enter.cls ≠ "java/lang/invoke/MethodHandle" ∧ y_Mo_enter.cls ≠ "java/lang/invoke/VarHandle" ∧ (parseMethodDescriptor y_Mo_enter.desc).map (fun d => d.parameters.length) = some 2 := by decide +kernel
theorem d_Mo_enter_0 : decode b_Mo_enter 0 = .ok (.aload_n 0, 1) := by decide +kernel
theorem d_Mo_enter_1 : decode b_Mo_enter 1 = .ok (.invokevirtual 129, 3) := by decide +kernel
theorem d_Mo_enter_4 : decode b_Mo_enter 4 = .ok (.ifCond .eq 10, 3) := by decide +kernel
theorem d_Mo_enter_7 : decode b_Mo_enter 7 = .ok (.aload_n 0, 1) := by decide +kernel
theorem d_Mo_enter_8 : decode b_Mo_enter 8 = .ok (.iconst 3, 1) := by decide +kernel
theorem d_Mo_enter_9 : decode b_Mo_enter 9 = .ok (.iload_n 2, 1) := by decide +kernel
theorem d_Mo_enter_10 : decode b_Mo_enter 10 = .ok (.invokevirtual 133, 3) := by decide +kernel
theorem d_Mo_enter_13 : decode b_Mo_enter 13 = .ok (.ireturn, 1) := by decide +kernel
theorem d_Mo_enter_14 : decode b_Mo_enter 14 = .ok (.aload_n 0, 1) := by decide +kernel
theorem d_Mo_enter_15 : decode b_Mo_enter 15 = .ok (.getfield 109, 3) := by decide +kernel
theorem d_Mo_enter_18 : decode b_Mo_enter 18 = .ok (.bipush 100, 2) := by decide +kernel
theorem d_Mo_enter_20 : decode b_Mo_enter 20 = .ok (.if_icmp .gt 21, 3) := by decide +kernel
theorem d_Mo_enter_23 : decode b_Mo_enter 23 = .ok (.aload_n 0, 1) := by decide +kernel
theorem d_Mo_enter_24 : decode b_Mo_enter 24 = .ok (.getfield 123, 3) := by decide +kernel
theorem d_Mo_enter_27 : decode b_Mo_enter 27 = .ok (.bipush 8, 2) := by decide +kernel
theorem d_Mo_enter_29 : decode b_Mo_enter 29 = .ok (.if_icmp .gt 12, 3) := by decide +kernel
theorem d_Mo_enter_32 : decode b_Mo_enter 32 = .ok (.aload_n 0, 1) := by decide +kernel
theorem d_Mo_enter_33 : decode b_Mo_enter 33 = .ok (.getfield 137, 3) := by decide +kernel
theorem d_Mo_enter_36 : decode b_Mo_enter 36 = .ok (.bipush 60, 2) := by decide +kernel
theorem d_Mo_enter_38 : decode b_Mo_enter 38 = .ok (.if_icmp .ne 10, 3) := by decide +kernel
theorem d_Mo_enter_41 : decode b_Mo_enter 41 = .ok (.aload_n 0, 1) := by decide +kernel
theorem d_Mo_enter_42 : decode b_Mo_enter 42 = .ok (.iconst 4, 1) := by decide +kernel
theorem d_Mo_enter_43 : decode b_Mo_enter 43 = .ok (.iload_n 2, 1) := by decide +kernel
theorem d_Mo_enter_44 : decode b_Mo_enter 44 = .ok (.invokevirtual 133, 3) := by decide +kernel
theorem d_Mo_enter_47 : decode b_Mo_enter 47 = .ok (.ireturn, 1) := by decide +kernel
theorem d_Mo_enter_48 : decode b_Mo_enter 48 = .ok (.iconst 0, 1) := by decide +kernel
theorem d_Mo_enter_49 : decode b_Mo_enter 49 = .ok (.istore_n 3, 1) := by decide +kernel
theorem d_Mo_enter_50 : decode b_Mo_enter 50 = .ok (.iload_n 3, 1) := by decide +kernel
theorem d_Mo_enter_51 : decode b_Mo_enter 51 = .ok (.aload_n 0, 1) := by decide +kernel
theorem d_Mo_enter_52 : decode b_Mo_enter 52 = .ok (.getfield 123, 3) := by decide +kernel
theorem d_Mo_enter_55 : decode b_Mo_enter 55 = .ok (.if_icmp .ge 29, 3) := by decide +kernel
theorem d_Mo_enter_58 : decode b_Mo_enter 58 = .ok (.aload_n 0, 1) := by decide +kernel
theorem d_Mo_enter_59 : decode b_Mo_enter 59 = .ok (.getfield 56, 3) := by decide +kernel
theorem d_Mo_enter_62 : decode b_Mo_enter 62 = .ok (.bipush 8, 2) := by decide +kernel
theorem d_Mo_enter_64 : decode b_Mo_enter 64 = .ok (.aload_n 0, 1) := by decide +kernel
theorem d_Mo_enter_65 : decode b_Mo_enter 65 = .ok (.getfield 137, 3) := by decide +kernel
theorem d_Mo_enter_68 : decode b_Mo_enter 68 = .ok (.imul, 1) := by decide +kernel
theorem d_Mo_enter_69 : decode b_Mo_enter 69 = .ok (.iload_n 3, 1) := by decide +kernel
theorem d_Mo_enter_70 : decode b_Mo_enter 70 = .ok (.iadd, 1) := by decide +kernel
theorem d_Mo_enter_71 : decode b_Mo_enter 71 = .ok (.aload_n 0, 1) := by decide +kernel
theorem d_Mo_enter_72 : decode b_Mo_enter 72 = .ok (.getfield 72, 3) := by decide +kernel
theorem d_Mo_enter_75 : decode b_Mo_enter 75 = .ok (.iload_n 3, 1) := by decide +kernel
theorem d_Mo_enter_76 : decode b_Mo_enter 76 = .ok (.iaload, 1) := by decide +kernel
theorem d_Mo_enter_77 : decode b_Mo_enter 77 = .ok (.iastore, 1) := by decide +kernel
theorem d_Mo_enter_78 : decode b_Mo_enter 78 = .ok (.iinc 3 1, 3) := by decide +kernel
theorem d_Mo_enter_81 : decode b_Mo_enter 81 = .ok (.goto (-31), 3) := by decide +kernel
theorem d_Mo_enter_84 : decode b_Mo_enter 84 = .ok (.aload_n 0, 1) := by decide +kernel
theorem d_Mo_enter_85 : decode b_Mo_enter 85 = .ok (.getfield 53, 3) := by decide +kernel
theorem d_Mo_enter_88 : decode b_Mo_enter 88 = .ok (.aload_n 0, 1) := by decide +kernel
theorem d_Mo_enter_89 : decode b_Mo_enter 89 = .ok (.getfield 137, 3) := by decide +kernel
theorem d_Mo_enter_92 : decode b_Mo_enter 92 = .ok (.aload_n 0, 1) := by decide +kernel
theorem d_Mo_enter_93 : decode b_Mo_enter 93 = .ok (.getfield 123, 3) := by decide +kernel
theorem d_Mo_enter_96 : decode b_Mo_enter 96 = .ok (.iastore, 1) := by decide +kernel
theorem d_Mo_enter_97 : decode b_Mo_enter 97 = .ok (.aload_n 0, 1) := by decide +kernel
theorem d_Mo_enter_98 : decode b_Mo_enter 98 = .ok (.getfield 59, 3) := by decide +kernel
theorem d_Mo_enter_101 : decode b_Mo_enter 101 = .ok (.aload_n 0, 1) := by decide +kernel
theorem d_Mo_enter_102 : decode b_Mo_enter 102 = .ok (.getfield 137, 3) := by decide +kernel
theorem d_Mo_enter_105 : decode b_Mo_enter 105 = .ok (.iload_n 1, 1) := by decide +kernel
theorem d_Mo_enter_106 : decode b_Mo_enter 106 = .ok (.iastore, 1) := by decide +kernel
theorem d_Mo_enter_107 : decode b_Mo_enter 107 = .ok (.aload_n 0, 1) := by decide +kernel
theorem d_Mo_enter_108 : decode b_Mo_enter 108 = .ok (.getfield 62, 3) := by decide +kernel
theorem d_Mo_enter_111 : decode b_Mo_enter 111 = .ok (.aload_n 0, 1) := by decide +kernel
theorem d_Mo_enter_112 : decode b_Mo_enter 112 = .ok (.getfield 137, 3) := by decide +kernel
theorem d_Mo_enter_115 : decode b_Mo_enter 115 = .ok (.iconst 0, 1) := by decide +kernel
theorem d_Mo_enter_116 : decode b_Mo_enter 116 = .ok (.bastore, 1) := by decide +kernel
theorem d_Mo_enter_117 : decode b_Mo_enter 117 = .ok (.aload_n 0, 1) := by decide +kernel
theorem d_Mo_enter_118 : decode b_Mo_enter 118 = .ok (.dup, 1) := by decide +kernel
theorem d_Mo_enter_119 : decode b_Mo_enter 119 = .ok (.getfield 137, 3) := by decide +kernel
theorem d_Mo_enter_122 : decode b_Mo_enter 122 = .ok (.iconst 1, 1) := by decide +kernel
theorem d_Mo_enter_123 : decode b_Mo_enter 123 = .ok (.iadd, 1) := by decide +kernel
theorem d_Mo_enter_124 : decode b_Mo_enter 124 = .ok (.putfield 137, 3) := by decide +kernel
theorem d_Mo_enter_127 : decode b_Mo_enter 127 = .ok (.aload_n 0, 1) := by decide +kernel
theorem d_Mo_enter_128 : decode b_Mo_enter 128 = .ok (.getfield 137, 3) := by decide +kernel
theorem d_Mo_enter_131 : decode b_Mo_enter 131 = .ok (.iconst 1, 1) := by decide +kernel
theorem d_Mo_enter_132 : decode b_Mo_enter 132 = .ok (.isub, 1) := by decide +kernel
theorem d_Mo_enter_133 : decode b_Mo_enter 133 = .ok (.ireturn, 1) := by decide +kernel
def f_Mo_enter_13 (s0 : Int32) (σ : St) : Int32 × St := (s0, σ)
def k_Mo_enter_13 (s0 : Int32) (σ : St) : Prop := True
def f_Mo_enter_47 (s0 : Int32) (σ : St) : Int32 × St := (s0, σ)
def k_Mo_enter_47 (s0 : Int32) (σ : St) : Prop := True
def f_Mo_enter_41 (x2 : Int32) (σ : St) : Int32 × St := f_Mo_enter_47 ((f_Mo_fails 4 x2 σ).1) ((f_Mo_fails 4 x2 σ).2)
def k_Mo_enter_41 (x2 : Int32) (σ : St) : Prop := (k_Mo_fails 4 x2 σ) ∧ (k_Mo_enter_47 ((f_Mo_fails 4 x2 σ).1) ((f_Mo_fails 4 x2 σ).2))
def f_Mo_enter_78 (F50 : (Int32 → Int32 → St → Int32 × St)) (x1 : Int32) (x3 : Int32) (σ : St) : Int32 × St := F50 x1 (x3 + 1) σ
def k_Mo_enter_78 (K50 : (Int32 → Int32 → St → Prop)) (x1 : Int32) (x3 : Int32) (σ : St) : Prop := K50 x1 (x3 + 1) σ
def f_Mo_enter_127 (σ : St) : Int32 × St := ((σ.1 0 19) - 1, σ)
def k_Mo_enter_127 (σ : St) : Prop := True
def f_Mo_enter_117 (σ : St) : Int32 × St := f_Mo_enter_127 (sF σ 0 19 ((σ.1 0 19) + 1))
def k_Mo_enter_117 (σ : St) : Prop := k_Mo_enter_127 (sF σ 0 19 ((σ.1 0 19) + 1))
def f_Mo_enter_107 (σ : St) : Int32 × St := f_Mo_enter_117 (sA σ 17 (σ.1 0 19) (vp_nar .boolean 0))
def k_Mo_enter_107 (σ : St) : Prop := vp_in (σ.1 0 19) 60 ∧ (k_Mo_enter_117 (sA σ 17 (σ.1 0 19) (vp_nar .boolean 0)))
def f_Mo_enter_97 (x1 : Int32) (σ : St) : Int32 × St := f_Mo_enter_107 (sA σ 16 (σ.1 0 19) x1)
def k_Mo_enter_97 (x1 : Int32) (σ : St) : Prop := vp_in (σ.1 0 19) 60 ∧ (k_Mo_enter_107 (sA σ 16 (σ.1 0 19) x1))
def f_Mo_enter_50 : Nat → Int32 → Int32 → St → Int32 × St
  | 0, _, _, σ => (0, σ)
  | n + 1, x1, x3, σ => if (σ.1 0 28) ≤ x3 then (f_Mo_enter_97 x1 (sA σ 14 (σ.1 0 19) (σ.1 0 28))) else (f_Mo_enter_78 (f_Mo_enter_50 n) x1 x3 (sA σ 15 ((8 * (σ.1 0 19)) + x3) (σ.1 20 x3.toNatClampNeg)))
def k_Mo_enter_50 : Nat → Int32 → Int32 → St → Prop
  | 0, _, _, _ => False
  | n + 1, x1, x3, σ => ((σ.1 0 28) ≤ x3 → (vp_in (σ.1 0 19) 60 ∧ (k_Mo_enter_97 x1 (sA σ 14 (σ.1 0 19) (σ.1 0 28))))) ∧ (¬ (σ.1 0 28) ≤ x3 → (vp_in x3 100 ∧ (vp_in ((8 * (σ.1 0 19)) + x3) 480 ∧ (k_Mo_enter_78 (k_Mo_enter_50 n) x1 x3 (sA σ 15 ((8 * (σ.1 0 19)) + x3) (σ.1 20 x3.toNatClampNeg))))))
def f_Mo_enter (a1 : Int32) (a2 : Int32) (σ : St) : Int32 × St := if (f_Mo_tooDeep σ) = 0 then (if 100 < (σ.1 0 8) then (f_Mo_enter_41 a2 σ) else (if 8 < (σ.1 0 28) then (f_Mo_enter_41 a2 σ) else (if (σ.1 0 19) = 60 then (f_Mo_enter_41 a2 σ) else (f_Mo_enter_50 1000 a1 0 σ)))) else (f_Mo_enter_13 ((f_Mo_fails 3 a2 σ).1) ((f_Mo_fails 3 a2 σ).2))
def k_Mo_enter (a1 : Int32) (a2 : Int32) (σ : St) : Prop := (k_Mo_tooDeep σ) ∧ (((f_Mo_tooDeep σ) = 0 → ((100 < (σ.1 0 8) → (k_Mo_enter_41 a2 σ)) ∧ (¬ 100 < (σ.1 0 8) → ((8 < (σ.1 0 28) → (k_Mo_enter_41 a2 σ)) ∧ (¬ 8 < (σ.1 0 28) → (((σ.1 0 19) = 60 → (k_Mo_enter_41 a2 σ)) ∧ (¬ (σ.1 0 19) = 60 → (k_Mo_enter_50 1000 a1 0 σ)))))))) ∧ (¬ (f_Mo_tooDeep σ) = 0 → ((k_Mo_fails 3 a2 σ) ∧ (k_Mo_enter_13 ((f_Mo_fails 3 a2 σ).1) ((f_Mo_fails 3 a2 σ).2)))))
abbrev w_Mo_enter : List Cond := Cond.code y_Mo_enter b_Mo_enter 4 (some .int) :: gw
abbrev rm_Mo_enter : Room := { frames := 1, cells := 0, slots := 0, locals := 22 }
set_option maxHeartbeats 4000000 in
set_option maxRecDepth 100000 in
theorem c_Mo_enter (l : Launch) (D : va_G) (ty : Nat → ClassId) (h : Nat → Nat) (px : va_W) (sa : Nat → Nat) (σ : St) (sz : Nat) (a1 : Int32) (a2 : Int32) (hk : k_Mo_enter a1 a2 σ) : Met l y_Mo_enter w_Mo_enter rm_Mo_enter (va_Pc [.ref (h 0), .int a1, .int a2] (fun U => U.heap.size = sz ∧ va_P D classes (Wm ty h σ px) U.heap ∧ va_K D classes (Ta ty) U ∧ NW U ∧ MK sa (va_A (Wm ty h σ px) sz) U U.heap ∧ va_D (fun _ => True) (Wm ty h σ px))) (va_Qi (fun r (u : St) => (r, u) = f_Mo_enter a1 a2 σ) (fun u t => va_P D classes (Wm ty h u px) t.heap) (va_A (Wm ty h σ px) sz)) 0 0 (va_A (Wm ty h σ px) sz) := by
  refine Met.ofW (cc := b_Mo_enter) (maxL := 4) (ret := (some .int)) (by decide) rfl ?_
  intro p e s m args below meth c s₁ B hml hv
  obtain ⟨ha, hsz, hP, hK, hN, hM, hD0⟩ := hv
  have hx := B.exec
  have hb := B.bytes
  have hr := B.returns
  have hg : ∀ w ∈ gw, w.before args s = true := fun w h9 => atoms_spec (ws := w_Mo_enter) B.pre w (List.mem_cons_of_mem _ h9)
  have hown : s.vm.findClass "ClauseLedgerModel" = some m.cls := findClass_of_methodNamed B.named
  have hlocks := B.notSynchronized
  subst hsz
  have hD := hD0.self (sz := s.heap.size)
  generalize hAe : va_A (Wm ty h σ px) s.heap.size = A at hD hM ⊢
  have hA : ∀ q : Nat, s.heap.size ≤ q → A q := fun q h9 => by rw [← hAe]; exact Or.inr h9
  have hS : va_S A s.heap s.heap [] := va_S.rf
  have he : entryFrame m args 4 = entryFrame m ([.ref (h 0), .int a1, .int a2] : List Value).toArray 4 := by rw [ha]
  rw [he, lg_entry_eq]
  have hl := lv_entry ([.ref (h 0), .int a1, .int a2]) (n := 4) (Nat.le_of_ble_eq_true rfl)
  generalize (lg_sl ([.ref (h 0), .int a1, .int a2]) ++ List.replicate (4 - (lg_sl ([.ref (h 0), .int a1, .int a2])).length) Slot.unset).toArray = ls at hl ⊢
  have hl : lv_has ls 4 [(0, .ref (h 0)), (1, .int a1), (2, .int a2)] := hl
  generalize hv : f_Mo_enter a1 a2 σ = v
  replace hv := hv.symm
  have B13 : ∀ (H : Heap) (locs : List Loc) (ls : Array Slot) (s0 : Int32) (σ : St), v = f_Mo_enter_13 s0 σ → k_Mo_enter_13 s0 σ → lv_has ls 4 [] → va_P D classes (Wm ty h σ px) H → va_D A (Wm ty h σ px) → va_S A s.heap H locs → W p l e (headSpec w_Mo_enter rm_Mo_enter).room s m args below meth c H locs 0 0 (MQ below (va_Qi (fun r (u : St) => (r, u) = v) (fun u t => va_P D classes (Wm ty h u px) t.heap) A) args s 0 0 A) (F0 m 13 ls [.int s0]) := by
    intro H locs ls s0 σ hv hk hl hP hD hS
    unfold f_Mo_enter_13 at hv
    unfold k_Mo_enter_13 at hk
    exact W.iret hx hb hr (fun t ht hW => ⟨⟨_, _, rfl, hv.symm, by dsimp only; rw [ht]; exact hP⟩, hS.F ht⟩) hS.2.2 d_Mo_enter_13
  have B47 : ∀ (H : Heap) (locs : List Loc) (ls : Array Slot) (s0 : Int32) (σ : St), v = f_Mo_enter_47 s0 σ → k_Mo_enter_47 s0 σ → lv_has ls 4 [] → va_P D classes (Wm ty h σ px) H → va_D A (Wm ty h σ px) → va_S A s.heap H locs → W p l e (headSpec w_Mo_enter rm_Mo_enter).room s m args below meth c H locs 0 0 (MQ below (va_Qi (fun r (u : St) => (r, u) = v) (fun u t => va_P D classes (Wm ty h u px) t.heap) A) args s 0 0 A) (F0 m 47 ls [.int s0]) := by
    intro H locs ls s0 σ hv hk hl hP hD hS
    unfold f_Mo_enter_47 at hv
    unfold k_Mo_enter_47 at hk
    exact W.iret hx hb hr (fun t ht hW => ⟨⟨_, _, rfl, hv.symm, by dsimp only; rw [ht]; exact hP⟩, hS.F ht⟩) hS.2.2 d_Mo_enter_47
  have B41 : ∀ (H : Heap) (locs : List Loc) (ls : Array Slot) (x2 : Int32) (σ : St), v = f_Mo_enter_41 x2 σ → k_Mo_enter_41 x2 σ → lv_has ls 4 [(0, .ref (h 0)), (2, .int x2)] → va_P D classes (Wm ty h σ px) H → va_D A (Wm ty h σ px) → va_S A s.heap H locs → W p l e (headSpec w_Mo_enter rm_Mo_enter).room s m args below meth c H locs 0 0 (MQ below (va_Qi (fun r (u : St) => (r, u) = v) (fun u t => va_P D classes (Wm ty h u px) t.heap) A) args s 0 0 A) (F0 m 41 ls []) := by
    intro H locs ls x2 σ hv hk hl hP hD hS
    unfold f_Mo_enter_41 at hv
    unfold k_Mo_enter_41 at hk
    refine lv_aload_n hx hb d_Mo_enter_41 rfl (lv_at hl 0 rfl) ?_
    refine lv_iconst (v := 4) hx hb d_Mo_enter_42 (by decide) ?_
    refine lv_iload_n hx hb d_Mo_enter_43 rfl (lv_at hl 1 rfl) ?_
    obtain ⟨hk0, hk⟩ := hk
    refine va_calli (va_runV (As := [.int 4, .int x2]) (rest := []) ⟨hx, hb, hml, hown, hg⟩ (c_Mo_fails l D ty h px sa σ H.size 4 x2 hk0) ⟨callB_of 2 hg (gw_C m_1507) rfl rfl rfl (hg _ m_13) (hg _ m_1504) hd_Mo_fails ⟨Nat.le_of_ble_eq_true rfl, Nat.le_of_ble_eq_true rfl⟩, hg _ m_1506, hg _ ms_62⟩ (zz_preVW hM hS hA hN hK hP hD 0 rfl rfl) rfl rfl hl.1 rfl (lv_room (Nat.le_of_ble_eq_true rfl)) d_Mo_enter_44 ⟨Nat.le_of_ble_eq_true rfl, Nat.le_of_ble_eq_true rfl⟩) hS (fun q _ h => zz_free hD hS hA q h) (zz_free hD hS hA) (fun r44 u44 t H locs ht hvm hp hP1 hz hk1 hS => ?_)
    rw [ht] at hP1
    rw [← hp] at hv hk
    have hD : va_D A (Wm ty h u44 px) := zz_D hD rfl
    have hP := hP1
    exact B47 _ _ _ r44 u44 hv hk (lv_sub hl [] rfl) hP hD hS
  have B127 : ∀ (H : Heap) (locs : List Loc) (ls : Array Slot) (σ : St), v = f_Mo_enter_127 σ → k_Mo_enter_127 σ → lv_has ls 4 [(0, .ref (h 0))] → va_P D classes (Wm ty h σ px) H → va_D A (Wm ty h σ px) → va_S A s.heap H locs → W p l e (headSpec w_Mo_enter rm_Mo_enter).room s m args below meth c H locs 0 0 (MQ below (va_Qi (fun r (u : St) => (r, u) = v) (fun u t => va_P D classes (Wm ty h u px) t.heap) A) args s 0 0 A) (F0 m 127 ls []) := by
    intro H locs ls σ hv hk hl hP hD hS
    unfold f_Mo_enter_127 at hv
    unfold k_Mo_enter_127 at hk
    refine lv_aload_n hx hb d_Mo_enter_127 rfl (lv_at hl 0 rfl) ?_
    refine va_get (v := .int (σ.1 0 19)) (C := R_Mo) (T := T_Mo) (N := 51) hx hb hg in_Mo hown hK hP 0 rfl rfl 19 (by decide) (hg _ m_1278) (fun _ h9 => h9) rfl d_Mo_enter_128 ?_
    refine lv_iconst (v := 1) hx hb d_Mo_enter_131 (by decide) ?_
    refine lv_isub hx hb d_Mo_enter_132 ?_
    exact W.iret hx hb hr (fun t ht hW => ⟨⟨_, _, rfl, hv.symm, by dsimp only; rw [ht]; exact hP⟩, hS.F ht⟩) hS.2.2 d_Mo_enter_133
  have B117 : ∀ (H : Heap) (locs : List Loc) (ls : Array Slot) (σ : St), v = f_Mo_enter_117 σ → k_Mo_enter_117 σ → lv_has ls 4 [(0, .ref (h 0))] → va_P D classes (Wm ty h σ px) H → va_D A (Wm ty h σ px) → va_S A s.heap H locs → W p l e (headSpec w_Mo_enter rm_Mo_enter).room s m args below meth c H locs 0 0 (MQ below (va_Qi (fun r (u : St) => (r, u) = v) (fun u t => va_P D classes (Wm ty h u px) t.heap) A) args s 0 0 A) (F0 m 117 ls []) := by
    intro H locs ls σ hv hk hl hP hD hS
    unfold f_Mo_enter_117 at hv
    unfold k_Mo_enter_117 at hk
    refine lv_aload_n hx hb d_Mo_enter_117 rfl (lv_at hl 0 rfl) ?_
    refine lv_dup hx hb d_Mo_enter_118 rfl ?_
    refine va_get (v := .int (σ.1 0 19)) (C := R_Mo) (T := T_Mo) (N := 51) hx hb hg in_Mo hown hK hP 0 rfl rfl 19 (by decide) (hg _ m_1278) (fun _ h9 => h9) rfl d_Mo_enter_119 ?_
    refine lv_iconst (v := 1) hx hb d_Mo_enter_122 (by decide) ?_
    refine lv_iadd hx hb d_Mo_enter_123 ?_
    refine va_put (v := .int ((σ.1 0 19) + 1)) (ty := .int) (C := R_Mo) (T := T_Mo) (N := 51) hx hb hg in_Mo ty_Mo ok_Mo nm_Mo hown hK hP hD hS 0 rfl rfl 19 (by decide) (hg _ m_1278) (fun _ h9 => h9) rfl (by decide +kernel) rfl rfl (Nat.le_of_ble_eq_true rfl) d_Mo_enter_124 (fun H locs hP hD hS => ?_)
    have hP : va_P D classes (Wm ty h (sF σ 0 19 ((σ.1 0 19) + 1)) px) H := hP
    have hD : va_D A (Wm ty h (sF σ 0 19 ((σ.1 0 19) + 1)) px) := hD
    exact B127 _ _ _  (sF σ 0 19 ((σ.1 0 19) + 1)) hv hk (lv_sub hl [0] rfl) hP hD hS
  have B107 : ∀ (H : Heap) (locs : List Loc) (ls : Array Slot) (σ : St), v = f_Mo_enter_107 σ → k_Mo_enter_107 σ → lv_has ls 4 [(0, .ref (h 0))] → va_P D classes (Wm ty h σ px) H → va_D A (Wm ty h σ px) → va_S A s.heap H locs → W p l e (headSpec w_Mo_enter rm_Mo_enter).room s m args below meth c H locs 0 0 (MQ below (va_Qi (fun r (u : St) => (r, u) = v) (fun u t => va_P D classes (Wm ty h u px) t.heap) A) args s 0 0 A) (F0 m 107 ls []) := by
    intro H locs ls σ hv hk hl hP hD hS
    unfold f_Mo_enter_107 at hv
    unfold k_Mo_enter_107 at hk
    refine lv_aload_n hx hb d_Mo_enter_107 rfl (lv_at hl 0 rfl) ?_
    refine va_get (v := .ref (h 17)) (C := R_Mo) (T := T_Mo) (N := 51) hx hb hg in_Mo hown hK hP 0 rfl rfl 23 (by decide) (hg _ m_1282) (fun _ h9 => h9) rfl d_Mo_enter_108 ?_
    refine lv_aload_n hx hb d_Mo_enter_111 rfl (lv_at hl 0 rfl) ?_
    refine va_get (v := .int (σ.1 0 19)) (C := R_Mo) (T := T_Mo) (N := 51) hx hb hg in_Mo hown hK hP 0 rfl rfl 19 (by decide) (hg _ m_1278) (fun _ h9 => h9) rfl d_Mo_enter_112 ?_
    refine lv_iconst (v := 0) hx hb d_Mo_enter_115 (by decide) ?_
    obtain ⟨hk0, hk⟩ := hk
    refine va_zast hx hb hK hP hD hS 17 3 rfl rfl hk0 d_Mo_enter_116 (fun H locs hP hD hS => ?_)
    have hP : va_P D classes (Wm ty h (sA σ 17 (σ.1 0 19) (vp_nar .boolean 0)) px) H := hP
    have hD : va_D A (Wm ty h (sA σ 17 (σ.1 0 19) (vp_nar .boolean 0)) px) := hD
    exact B117 _ _ _  (sA σ 17 (σ.1 0 19) (vp_nar .boolean 0)) hv hk (lv_sub hl [0] rfl) hP hD hS
  have B97 : ∀ (H : Heap) (locs : List Loc) (ls : Array Slot) (x1 : Int32) (σ : St), v = f_Mo_enter_97 x1 σ → k_Mo_enter_97 x1 σ → lv_has ls 4 [(0, .ref (h 0)), (1, .int x1)] → va_P D classes (Wm ty h σ px) H → va_D A (Wm ty h σ px) → va_S A s.heap H locs → W p l e (headSpec w_Mo_enter rm_Mo_enter).room s m args below meth c H locs 0 0 (MQ below (va_Qi (fun r (u : St) => (r, u) = v) (fun u t => va_P D classes (Wm ty h u px) t.heap) A) args s 0 0 A) (F0 m 97 ls []) := by
    intro H locs ls x1 σ hv hk hl hP hD hS
    unfold f_Mo_enter_97 at hv
    unfold k_Mo_enter_97 at hk
    refine lv_aload_n hx hb d_Mo_enter_97 rfl (lv_at hl 0 rfl) ?_
    refine va_get (v := .ref (h 16)) (C := R_Mo) (T := T_Mo) (N := 51) hx hb hg in_Mo hown hK hP 0 rfl rfl 22 (by decide) (hg _ m_1281) (fun _ h9 => h9) rfl d_Mo_enter_98 ?_
    refine lv_aload_n hx hb d_Mo_enter_101 rfl (lv_at hl 0 rfl) ?_
    refine va_get (v := .int (σ.1 0 19)) (C := R_Mo) (T := T_Mo) (N := 51) hx hb hg in_Mo hown hK hP 0 rfl rfl 19 (by decide) (hg _ m_1278) (fun _ h9 => h9) rfl d_Mo_enter_102 ?_
    refine lv_iload_n hx hb d_Mo_enter_105 rfl (lv_at hl 1 rfl) ?_
    obtain ⟨hk0, hk⟩ := hk
    refine va_iast hx hb hK hP hD hS 16 0 rfl rfl hk0 d_Mo_enter_106 (fun H locs hP hD hS => ?_)
    have hP : va_P D classes (Wm ty h (sA σ 16 (σ.1 0 19) x1) px) H := hP
    have hD : va_D A (Wm ty h (sA σ 16 (σ.1 0 19) x1) px) := hD
    exact B107 _ _ _  (sA σ 16 (σ.1 0 19) x1) hv hk (lv_sub hl [0] rfl) hP hD hS
  have B50 : ∀ (n50 : Nat) (H : Heap) (locs : List Loc) (ls : Array Slot) (x1 : Int32) (x3 : Int32) (σ : St), v = f_Mo_enter_50 n50 x1 x3 σ → k_Mo_enter_50 n50 x1 x3 σ → lv_has ls 4 [(0, .ref (h 0)), (1, .int x1), (3, .int x3)] → va_P D classes (Wm ty h σ px) H → va_D A (Wm ty h σ px) → va_S A s.heap H locs → W p l e (headSpec w_Mo_enter rm_Mo_enter).room s m args below meth c H locs 0 0 (MQ below (va_Qi (fun r (u : St) => (r, u) = v) (fun u t => va_P D classes (Wm ty h u px) t.heap) A) args s 0 0 A) (F0 m 50 ls []) := by
    intro n50
    induction n50 with
    | zero => intro H locs ls x1 x3 σ hv hk hl hP hD hS; exact hk.elim
    | succ n50 ih50 =>
      have B78 : ∀ (H : Heap) (locs : List Loc) (ls : Array Slot) (x1 : Int32) (x3 : Int32) (σ : St), v = f_Mo_enter_78 (f_Mo_enter_50 n50) x1 x3 σ → k_Mo_enter_78 (k_Mo_enter_50 n50) x1 x3 σ → lv_has ls 4 [(0, .ref (h 0)), (1, .int x1), (3, .int x3)] → va_P D classes (Wm ty h σ px) H → va_D A (Wm ty h σ px) → va_S A s.heap H locs → W p l e (headSpec w_Mo_enter rm_Mo_enter).room s m args below meth c H locs 0 0 (MQ below (va_Qi (fun r (u : St) => (r, u) = v) (fun u t => va_P D classes (Wm ty h u px) t.heap) A) args s 0 0 A) (F0 m 78 ls []) := by
        intro H locs ls x1 x3 σ hv hk hl hP hD hS
        unfold f_Mo_enter_78 at hv
        unfold k_Mo_enter_78 at hk
        refine lv_iinc (k := 2) (v := x3 + 1) (lv' := [(3, .int (x3 + 1)), (0, .ref (h 0)), (1, .int x1)]) hx hb d_Mo_enter_78 hl rfl (by first | rfl | simp [lit1, litm1]) (by decide) rfl (fun ls hl => ?_)
        refine lv_goto (tgt := 50) hx hb d_Mo_enter_81 (by decide) ?_
        exact ih50 _ _ _ x1 (x3 + 1) σ hv hk (lv_sub hl [1, 2, 0] rfl) hP hD hS
      intro H locs ls x1 x3 σ hv hk hl hP hD hS
      rw [f_Mo_enter_50] at hv
      rw [k_Mo_enter_50] at hk
      refine lv_iload_n hx hb d_Mo_enter_50 rfl (lv_at hl 2 rfl) ?_
      refine lv_aload_n hx hb d_Mo_enter_51 rfl (lv_at hl 0 rfl) ?_
      refine va_get (v := .int (σ.1 0 28)) (C := R_Mo) (T := T_Mo) (N := 51) hx hb hg in_Mo hown hK hP 0 rfl rfl 28 (by decide) (hg _ m_1287) (fun _ h9 => h9) rfl d_Mo_enter_52 ?_
      refine lv_icmp_ge (tgt := 84) hx hb d_Mo_enter_55 (by decide) (fun hc => ?_) (fun hc => ?_)
      · have hv := hv.trans (if_pos hc)
        have hk := hk.1 hc
        refine lv_aload_n hx hb d_Mo_enter_84 rfl (lv_at hl 0 rfl) ?_
        refine va_get (v := .ref (h 14)) (C := R_Mo) (T := T_Mo) (N := 51) hx hb hg in_Mo hown hK hP 0 rfl rfl 20 (by decide) (hg _ m_1279) (fun _ h9 => h9) rfl d_Mo_enter_85 ?_
        refine lv_aload_n hx hb d_Mo_enter_88 rfl (lv_at hl 0 rfl) ?_
        refine va_get (v := .int (σ.1 0 19)) (C := R_Mo) (T := T_Mo) (N := 51) hx hb hg in_Mo hown hK hP 0 rfl rfl 19 (by decide) (hg _ m_1278) (fun _ h9 => h9) rfl d_Mo_enter_89 ?_
        refine lv_aload_n hx hb d_Mo_enter_92 rfl (lv_at hl 0 rfl) ?_
        refine va_get (v := .int (σ.1 0 28)) (C := R_Mo) (T := T_Mo) (N := 51) hx hb hg in_Mo hown hK hP 0 rfl rfl 28 (by decide) (hg _ m_1287) (fun _ h9 => h9) rfl d_Mo_enter_93 ?_
        obtain ⟨hk0, hk⟩ := hk
        refine va_iast hx hb hK hP hD hS 14 0 rfl rfl hk0 d_Mo_enter_96 (fun H locs hP hD hS => ?_)
        have hP : va_P D classes (Wm ty h (sA σ 14 (σ.1 0 19) (σ.1 0 28)) px) H := hP
        have hD : va_D A (Wm ty h (sA σ 14 (σ.1 0 19) (σ.1 0 28)) px) := hD
        exact B97 _ _ _ x1 (sA σ 14 (σ.1 0 19) (σ.1 0 28)) hv hk (lv_sub hl [0, 1] rfl) hP hD hS
      · have hv := hv.trans (if_neg hc)
        have hk := hk.2 hc
        refine lv_aload_n hx hb d_Mo_enter_58 rfl (lv_at hl 0 rfl) ?_
        refine va_get (v := .ref (h 15)) (C := R_Mo) (T := T_Mo) (N := 51) hx hb hg in_Mo hown hK hP 0 rfl rfl 21 (by decide) (hg _ m_1280) (fun _ h9 => h9) rfl d_Mo_enter_59 ?_
        refine lv_bipush (v := 8) hx hb d_Mo_enter_62 (by decide) ?_
        refine lv_aload_n hx hb d_Mo_enter_64 rfl (lv_at hl 0 rfl) ?_
        refine va_get (v := .int (σ.1 0 19)) (C := R_Mo) (T := T_Mo) (N := 51) hx hb hg in_Mo hown hK hP 0 rfl rfl 19 (by decide) (hg _ m_1278) (fun _ h9 => h9) rfl d_Mo_enter_65 ?_
        refine lv_imul hx hb d_Mo_enter_68 ?_
        refine lv_iload_n hx hb d_Mo_enter_69 rfl (lv_at hl 2 rfl) ?_
        refine lv_iadd hx hb d_Mo_enter_70 ?_
        refine lv_aload_n hx hb d_Mo_enter_71 rfl (lv_at hl 0 rfl) ?_
        refine va_get (v := .ref (h 20)) (C := R_Mo) (T := T_Mo) (N := 51) hx hb hg in_Mo hown hK hP 0 rfl rfl 29 (by decide) (hg _ m_1288) (fun _ h9 => h9) rfl d_Mo_enter_72 ?_
        refine lv_iload_n hx hb d_Mo_enter_75 rfl (lv_at hl 2 rfl) ?_
        obtain ⟨hk0, hk⟩ := hk
        refine va_iald hx hb hK hP 20 0 rfl rfl hk0 d_Mo_enter_76 ?_
        obtain ⟨hk0, hk⟩ := hk
        refine va_iast hx hb hK hP hD hS 15 0 rfl rfl hk0 d_Mo_enter_77 (fun H locs hP hD hS => ?_)
        have hP : va_P D classes (Wm ty h (sA σ 15 ((8 * (σ.1 0 19)) + x3) (σ.1 20 x3.toNatClampNeg)) px) H := hP
        have hD : va_D A (Wm ty h (sA σ 15 ((8 * (σ.1 0 19)) + x3) (σ.1 20 x3.toNatClampNeg)) px) := hD
        exact B78 _ _ _ x1 x3 (sA σ 15 ((8 * (σ.1 0 19)) + x3) (σ.1 20 x3.toNatClampNeg)) hv hk (lv_sub hl [0, 1, 2] rfl) hP hD hS
  unfold f_Mo_enter at hv
  unfold k_Mo_enter at hk
  refine lv_aload_n hx hb d_Mo_enter_0 rfl (lv_at hl 0 rfl) ?_
  obtain ⟨hk0, hk⟩ := hk
  refine zz_callV (va_runV (As := []) (rest := []) ⟨hx, hb, hml, hown, hg⟩ (c_Mo_tooDeep l D ty h px sa σ  hk0) ⟨callB_of 0 hg (gw_C m_1511) rfl rfl rfl (hg _ m_13) (hg _ m_1508) hd_Mo_tooDeep ⟨Nat.le_of_ble_eq_true rfl, Nat.le_of_ble_eq_true rfl⟩, hg _ m_1510, hg _ ms_63⟩ (zz_preV (hM.at hS) hN hK hP 0 rfl rfl) rfl rfl hl.1 rfl (lv_room (Nat.le_of_ble_eq_true rfl)) d_Mo_enter_1 ⟨Nat.le_of_ble_eq_true rfl, Nat.le_of_ble_eq_true rfl⟩) ?_
  refine lv_if_eq (tgt := 14) hx hb d_Mo_enter_4 (by decide) (fun hc => ?_) (fun hc => ?_)
  · have hv := hv.trans (if_pos hc)
    have hk := hk.1 hc
    refine lv_aload_n hx hb d_Mo_enter_14 rfl (lv_at hl 0 rfl) ?_
    refine va_get (v := .int (σ.1 0 8)) (C := R_Mo) (T := T_Mo) (N := 51) hx hb hg in_Mo hown hK hP 0 rfl rfl 8 (by decide) (hg _ m_1267) (fun _ h9 => h9) rfl d_Mo_enter_15 ?_
    refine lv_bipush (v := 100) hx hb d_Mo_enter_18 (by decide) ?_
    refine lv_icmp_gt (tgt := 41) hx hb d_Mo_enter_20 (by decide) (fun hc => ?_) (fun hc => ?_)
    · have hv := hv.trans (if_pos hc)
      have hk := hk.1 hc
      exact B41 _ _ _ a2 σ hv hk (lv_sub hl [0, 2] rfl) hP hD hS
    · have hv := hv.trans (if_neg hc)
      have hk := hk.2 hc
      refine lv_aload_n hx hb d_Mo_enter_23 rfl (lv_at hl 0 rfl) ?_
      refine va_get (v := .int (σ.1 0 28)) (C := R_Mo) (T := T_Mo) (N := 51) hx hb hg in_Mo hown hK hP 0 rfl rfl 28 (by decide) (hg _ m_1287) (fun _ h9 => h9) rfl d_Mo_enter_24 ?_
      refine lv_bipush (v := 8) hx hb d_Mo_enter_27 (by decide) ?_
      refine lv_icmp_gt (tgt := 41) hx hb d_Mo_enter_29 (by decide) (fun hc => ?_) (fun hc => ?_)
      · have hv := hv.trans (if_pos hc)
        have hk := hk.1 hc
        exact B41 _ _ _ a2 σ hv hk (lv_sub hl [0, 2] rfl) hP hD hS
      · have hv := hv.trans (if_neg hc)
        have hk := hk.2 hc
        refine lv_aload_n hx hb d_Mo_enter_32 rfl (lv_at hl 0 rfl) ?_
        refine va_get (v := .int (σ.1 0 19)) (C := R_Mo) (T := T_Mo) (N := 51) hx hb hg in_Mo hown hK hP 0 rfl rfl 19 (by decide) (hg _ m_1278) (fun _ h9 => h9) rfl d_Mo_enter_33 ?_
        refine lv_bipush (v := 60) hx hb d_Mo_enter_36 (by decide) ?_
        refine lv_icmp_ne (tgt := 48) hx hb d_Mo_enter_38 (by decide) (fun hc => ?_) (fun hc => ?_)
        · have hv := hv.trans (if_neg hc)
          have hk := hk.2 hc
          refine lv_iconst (v := 0) hx hb d_Mo_enter_48 (by decide) ?_
          refine lv_istore_n (lv' := [(3, .int 0), (0, .ref (h 0)), (1, .int a1), (2, .int a2)]) hx hb d_Mo_enter_49 rfl hl (by decide) rfl (fun ls hl => ?_)
          exact B50 1000 _ _ _ a1 0 σ hv hk (lv_sub hl [1, 2, 0] rfl) hP hD hS
        · have hv := hv.trans (if_pos hc)
          have hk := hk.1 hc
          exact B41 _ _ _ a2 σ hv hk (lv_sub hl [0, 2] rfl) hP hD hS
  · have hv := hv.trans (if_neg hc)
    have hk := hk.2 hc
    refine lv_aload_n hx hb d_Mo_enter_7 rfl (lv_at hl 0 rfl) ?_
    refine lv_iconst (v := 3) hx hb d_Mo_enter_8 (by decide) ?_
    refine lv_iload_n hx hb d_Mo_enter_9 rfl (lv_at hl 2 rfl) ?_
    obtain ⟨hk0, hk⟩ := hk
    refine va_calli (va_runV (As := [.int 3, .int a2]) (rest := []) ⟨hx, hb, hml, hown, hg⟩ (c_Mo_fails l D ty h px sa σ s.heap.size 3 a2 hk0) ⟨callB_of 2 hg (gw_C m_1507) rfl rfl rfl (hg _ m_13) (hg _ m_1504) hd_Mo_fails ⟨Nat.le_of_ble_eq_true rfl, Nat.le_of_ble_eq_true rfl⟩, hg _ m_1506, hg _ ms_62⟩ (zz_preVW hM hS hA hN hK hP hD 0 rfl rfl) rfl rfl hl.1 rfl (lv_room (Nat.le_of_ble_eq_true rfl)) d_Mo_enter_10 ⟨Nat.le_of_ble_eq_true rfl, Nat.le_of_ble_eq_true rfl⟩) hS (fun q _ h => zz_free hD hS hA q h) (zz_free hD hS hA) (fun r10 u10 t H locs ht hvm hp hP1 hz hk1 hS => ?_)
    rw [ht] at hP1
    rw [← hp] at hv hk
    have hD : va_D A (Wm ty h u10 px) := zz_D hD rfl
    have hP := hP1
    exact B13 _ _ _ r10 u10 hv hk (lv_sub hl [] rfl) hP hD hS

-- ClauseLedgerModel.draft(J)Z
abbrev b_Mo_draft : ByteArray := prog_14_method_16_code
def y_Mo_draft : MethodName := ⟨"ClauseLedgerModel", "draft", "(J)Z"⟩
theorem hd_Mo_draft : y_Mo_draft.cls ≠ "java/lang/invoke/MethodHandle" ∧ y_Mo_draft.cls ≠ "java/lang/invoke/VarHandle" ∧ (parseMethodDescriptor y_Mo_draft.desc).map (fun d => d.parameters.length) = some 1 := by decide +kernel
theorem d_Mo_draft_0 : decode b_Mo_draft 0 = .ok (.aload_n 0, 1) := by decide +kernel
theorem d_Mo_draft_1 : decode b_Mo_draft 1 = .ok (.iconst 0, 1) := by decide +kernel
theorem d_Mo_draft_2 : decode b_Mo_draft 2 = .ok (.putfield 103, 3) := by decide +kernel
theorem d_Mo_draft_5 : decode b_Mo_draft 5 = .ok (.iconst 0, 1) := by decide +kernel
theorem d_Mo_draft_6 : decode b_Mo_draft 6 = .ok (.istore_n 3, 1) := by decide +kernel
theorem d_Mo_draft_7 : decode b_Mo_draft 7 = .ok (.iconst 1, 1) := by decide +kernel
theorem d_Mo_draft_8 : decode b_Mo_draft 8 = .ok (.istore 4, 2) := by decide +kernel
theorem d_Mo_draft_10 : decode b_Mo_draft 10 = .ok (.iload_n 3, 1) := by decide +kernel
theorem d_Mo_draft_11 : decode b_Mo_draft 11 = .ok (.bipush 8, 2) := by decide +kernel
theorem d_Mo_draft_13 : decode b_Mo_draft 13 = .ok (.if_icmp .ge 66, 3) := by decide +kernel
theorem d_Mo_draft_16 : decode b_Mo_draft 16 = .ok (.lload_n 1, 1) := by decide +kernel
theorem d_Mo_draft_17 : decode b_Mo_draft 17 = .ok (.bipush 8, 2) := by decide +kernel
theorem d_Mo_draft_19 : decode b_Mo_draft 19 = .ok (.iload_n 3, 1) := by decide +kernel
theorem d_Mo_draft_20 : decode b_Mo_draft 20 = .ok (.imul, 1) := by decide +kernel
theorem d_Mo_draft_21 : decode b_Mo_draft 21 = .ok (.lushr, 1) := by decide +kernel
theorem d_Mo_draft_22 : decode b_Mo_draft 22 = .ok (.ldc2_w 140, 3) := by decide +kernel
theorem d_Mo_draft_25 : decode b_Mo_draft 25 = .ok (.land, 1) := by decide +kernel
theorem d_Mo_draft_26 : decode b_Mo_draft 26 = .ok (.lconst 0, 1) := by decide +kernel
theorem d_Mo_draft_27 : decode b_Mo_draft 27 = .ok (.lcmp, 1) := by decide +kernel
theorem d_Mo_draft_28 : decode b_Mo_draft 28 = .ok (.ifCond .eq 51, 3) := by decide +kernel
theorem d_Mo_draft_31 : decode b_Mo_draft 31 = .ok (.lload_n 1, 1) := by decide +kernel
theorem d_Mo_draft_32 : decode b_Mo_draft 32 = .ok (.bipush 8, 2) := by decide +kernel
theorem d_Mo_draft_34 : decode b_Mo_draft 34 = .ok (.iload_n 3, 1) := by decide +kernel
theorem d_Mo_draft_35 : decode b_Mo_draft 35 = .ok (.imul, 1) := by decide +kernel
theorem d_Mo_draft_36 : decode b_Mo_draft 36 = .ok (.lushr, 1) := by decide +kernel
theorem d_Mo_draft_37 : decode b_Mo_draft 37 = .ok (.ldc2_w 140, 3) := by decide +kernel
theorem d_Mo_draft_40 : decode b_Mo_draft 40 = .ok (.land, 1) := by decide +kernel
theorem d_Mo_draft_41 : decode b_Mo_draft 41 = .ok (.lstore 5, 2) := by decide +kernel
theorem d_Mo_draft_43 : decode b_Mo_draft 43 = .ok (.iload 4, 2) := by decide +kernel
theorem d_Mo_draft_45 : decode b_Mo_draft 45 = .ok (.ifCond .eq 25, 3) := by decide +kernel
theorem d_Mo_draft_48 : decode b_Mo_draft 48 = .ok (.lload 5, 2) := by decide +kernel
theorem d_Mo_draft_50 : decode b_Mo_draft 50 = .ok (.ldc2_w 142, 3) := by decide +kernel
theorem d_Mo_draft_53 : decode b_Mo_draft 53 = .ok (.lcmp, 1) := by decide +kernel
theorem d_Mo_draft_54 : decode b_Mo_draft 54 = .ok (.ifCond .lt 16, 3) := by decide +kernel
theorem d_Mo_draft_57 : decode b_Mo_draft 57 = .ok (.lload 5, 2) := by decide +kernel
theorem d_Mo_draft_59 : decode b_Mo_draft 59 = .ok (.ldc2_w 144, 3) := by decide +kernel
theorem d_Mo_draft_62 : decode b_Mo_draft 62 = .ok (.lcmp, 1) := by decide +kernel
theorem d_Mo_draft_63 : decode b_Mo_draft 63 = .ok (.ifCond .gt 7, 3) := by decide +kernel
theorem d_Mo_draft_66 : decode b_Mo_draft 66 = .ok (.iconst 1, 1) := by decide +kernel
theorem d_Mo_draft_67 : decode b_Mo_draft 67 = .ok (.goto 4, 3) := by decide +kernel
theorem d_Mo_draft_70 : decode b_Mo_draft 70 = .ok (.iconst 0, 1) := by decide +kernel
theorem d_Mo_draft_71 : decode b_Mo_draft 71 = .ok (.istore 4, 2) := by decide +kernel
theorem d_Mo_draft_73 : decode b_Mo_draft 73 = .ok (.iinc 3 1, 3) := by decide +kernel
theorem d_Mo_draft_76 : decode b_Mo_draft 76 = .ok (.goto (-66), 3) := by decide +kernel
theorem d_Mo_draft_79 : decode b_Mo_draft 79 = .ok (.iload_n 3, 1) := by decide +kernel
theorem d_Mo_draft_80 : decode b_Mo_draft 80 = .ok (.ifCond .eq 19, 3) := by decide +kernel
theorem d_Mo_draft_83 : decode b_Mo_draft 83 = .ok (.iload 4, 2) := by decide +kernel
theorem d_Mo_draft_85 : decode b_Mo_draft 85 = .ok (.ifCond .eq 14, 3) := by decide +kernel
theorem d_Mo_draft_88 : decode b_Mo_draft 88 = .ok (.aload_n 0, 1) := by decide +kernel
theorem d_Mo_draft_89 : decode b_Mo_draft 89 = .ok (.getfield 146, 3) := by decide +kernel
theorem d_Mo_draft_92 : decode b_Mo_draft 92 = .ok (.iload_n 3, 1) := by decide +kernel
theorem d_Mo_draft_93 : decode b_Mo_draft 93 = .ok (.iadd, 1) := by decide +kernel
theorem d_Mo_draft_94 : decode b_Mo_draft 94 = .ok (.bipush 120, 2) := by decide +kernel
theorem d_Mo_draft_96 : decode b_Mo_draft 96 = .ok (.if_icmp .le 5, 3) := by decide +kernel
theorem d_Mo_draft_99 : decode b_Mo_draft 99 = .ok (.iconst 0, 1) := by decide +kernel
theorem d_Mo_draft_100 : decode b_Mo_draft 100 = .ok (.ireturn, 1) := by decide +kernel
theorem d_Mo_draft_101 : decode b_Mo_draft 101 = .ok (.iconst 0, 1) := by decide +kernel
theorem d_Mo_draft_102 : decode b_Mo_draft 102 = .ok (.istore 5, 2) := by decide +kernel
theorem d_Mo_draft_104 : decode b_Mo_draft 104 = .ok (.iload 5, 2) := by decide +kernel
theorem d_Mo_draft_106 : decode b_Mo_draft 106 = .ok (.iload_n 3, 1) := by decide +kernel
theorem d_Mo_draft_107 : decode b_Mo_draft 107 = .ok (.if_icmp .ge 33, 3) := by decide +kernel
theorem d_Mo_draft_110 : decode b_Mo_draft 110 = .ok (.aload_n 0, 1) := by decide +kernel
theorem d_Mo_draft_111 : decode b_Mo_draft 111 = .ok (.getfield 75, 3) := by decide +kernel
theorem d_Mo_draft_114 : decode b_Mo_draft 114 = .ok (.aload_n 0, 1) := by decide +kernel
theorem d_Mo_draft_115 : decode b_Mo_draft 115 = .ok (.getfield 146, 3) := by decide +kernel
theorem d_Mo_draft_118 : decode b_Mo_draft 118 = .ok (.iload 5, 2) := by decide +kernel
theorem d_Mo_draft_120 : decode b_Mo_draft 120 = .ok (.iadd, 1) := by decide +kernel
theorem d_Mo_draft_121 : decode b_Mo_draft 121 = .ok (.lload_n 1, 1) := by decide +kernel
theorem d_Mo_draft_122 : decode b_Mo_draft 122 = .ok (.bipush 8, 2) := by decide +kernel
theorem d_Mo_draft_124 : decode b_Mo_draft 124 = .ok (.iload 5, 2) := by decide +kernel
theorem d_Mo_draft_126 : decode b_Mo_draft 126 = .ok (.imul, 1) := by decide +kernel
theorem d_Mo_draft_127 : decode b_Mo_draft 127 = .ok (.lushr, 1) := by decide +kernel
theorem d_Mo_draft_128 : decode b_Mo_draft 128 = .ok (.ldc2_w 140, 3) := by decide +kernel
theorem d_Mo_draft_131 : decode b_Mo_draft 131 = .ok (.land, 1) := by decide +kernel
theorem d_Mo_draft_132 : decode b_Mo_draft 132 = .ok (.l2i, 1) := by decide +kernel
theorem d_Mo_draft_133 : decode b_Mo_draft 133 = .ok (.iastore, 1) := by decide +kernel
theorem d_Mo_draft_134 : decode b_Mo_draft 134 = .ok (.iinc 5 1, 3) := by decide +kernel
theorem d_Mo_draft_137 : decode b_Mo_draft 137 = .ok (.goto (-33), 3) := by decide +kernel
theorem d_Mo_draft_140 : decode b_Mo_draft 140 = .ok (.aload_n 0, 1) := by decide +kernel
theorem d_Mo_draft_141 : decode b_Mo_draft 141 = .ok (.dup, 1) := by decide +kernel
theorem d_Mo_draft_142 : decode b_Mo_draft 142 = .ok (.getfield 146, 3) := by decide +kernel
theorem d_Mo_draft_145 : decode b_Mo_draft 145 = .ok (.iload_n 3, 1) := by decide +kernel
theorem d_Mo_draft_146 : decode b_Mo_draft 146 = .ok (.iadd, 1) := by decide +kernel
theorem d_Mo_draft_147 : decode b_Mo_draft 147 = .ok (.putfield 146, 3) := by decide +kernel
theorem d_Mo_draft_150 : decode b_Mo_draft 150 = .ok (.iconst 1, 1) := by decide +kernel
theorem d_Mo_draft_151 : decode b_Mo_draft 151 = .ok (.ireturn, 1) := by decide +kernel
def f_Mo_draft_71 (F10 : (Int64 → Int32 → Int32 → St → Int32 × St)) (x1 : Int64) (x3 : Int32) (s0 : Int32) (σ : St) : Int32 × St := F10 x1 (x3 + 1) s0 σ
def k_Mo_draft_71 (K10 : (Int64 → Int32 → Int32 → St → Prop)) (x1 : Int64) (x3 : Int32) (s0 : Int32) (σ : St) : Prop := K10 x1 (x3 + 1) s0 σ
def f_Mo_draft_70 (F10 : (Int64 → Int32 → Int32 → St → Int32 × St)) (x1 : Int64) (x3 : Int32) (σ : St) : Int32 × St := f_Mo_draft_71 F10 x1 x3 0 σ
def k_Mo_draft_70 (K10 : (Int64 → Int32 → Int32 → St → Prop)) (x1 : Int64) (x3 : Int32) (σ : St) : Prop := k_Mo_draft_71 K10 x1 x3 0 σ
def f_Mo_draft_43 (F10 : (Int64 → Int32 → Int32 → St → Int32 × St)) (x1 : Int64) (x3 : Int32) (x4 : Int32) (x5 : Int64) (σ : St) : Int32 × St := if x4 = 0 then (f_Mo_draft_70 F10 x1 x3 σ) else (if (lg_cmp x5 32) < 0 then (f_Mo_draft_70 F10 x1 x3 σ) else (if 0 < (lg_cmp x5 126) then (f_Mo_draft_70 F10 x1 x3 σ) else (f_Mo_draft_71 F10 x1 x3 1 σ)))
def k_Mo_draft_43 (K10 : (Int64 → Int32 → Int32 → St → Prop)) (x1 : Int64) (x3 : Int32) (x4 : Int32) (x5 : Int64) (σ : St) : Prop := (x4 = 0 → (k_Mo_draft_70 K10 x1 x3 σ)) ∧ (¬ x4 = 0 → (((lg_cmp x5 32) < 0 → (k_Mo_draft_70 K10 x1 x3 σ)) ∧ (¬ (lg_cmp x5 32) < 0 → ((0 < (lg_cmp x5 126) → (k_Mo_draft_70 K10 x1 x3 σ)) ∧ (¬ 0 < (lg_cmp x5 126) → (k_Mo_draft_71 K10 x1 x3 1 σ))))))
def f_Mo_draft_99 (σ : St) : Int32 × St := (0, σ)
def k_Mo_draft_99 (σ : St) : Prop := True
def f_Mo_draft_134 (F104 : (Int64 → Int32 → Int32 → St → Int32 × St)) (x1 : Int64) (x3 : Int32) (x5 : Int32) (σ : St) : Int32 × St := F104 x1 x3 (x5 + 1) σ
def k_Mo_draft_134 (K104 : (Int64 → Int32 → Int32 → St → Prop)) (x1 : Int64) (x3 : Int32) (x5 : Int32) (σ : St) : Prop := K104 x1 x3 (x5 + 1) σ
def f_Mo_draft_150 (σ : St) : Int32 × St := (1, σ)
def k_Mo_draft_150 (σ : St) : Prop := True
def f_Mo_draft_104 : Nat → Int64 → Int32 → Int32 → St → Int32 × St
  | 0, _, _, _, σ => (0, σ)
  | n + 1, x1, x3, x5, σ => if x3 ≤ x5 then (f_Mo_draft_150 (sF σ 0 30 ((σ.1 0 30) + x3))) else (f_Mo_draft_134 (f_Mo_draft_104 n) x1 x3 x5 (sA σ 21 ((σ.1 0 30) + x5) ((((x1.toUInt64 >>> ((8 * x5).toInt64.toUInt64 &&& Int64.toUInt64 63)).toInt64) &&& 255).toInt32)))
def k_Mo_draft_104 : Nat → Int64 → Int32 → Int32 → St → Prop
  | 0, _, _, _, _ => False
  | n + 1, x1, x3, x5, σ => (x3 ≤ x5 → (k_Mo_draft_150 (sF σ 0 30 ((σ.1 0 30) + x3)))) ∧ (¬ x3 ≤ x5 → (vp_in ((σ.1 0 30) + x5) 120 ∧ (k_Mo_draft_134 (k_Mo_draft_104 n) x1 x3 x5 (sA σ 21 ((σ.1 0 30) + x5) ((((x1.toUInt64 >>> ((8 * x5).toInt64.toUInt64 &&& Int64.toUInt64 63)).toInt64) &&& 255).toInt32)))))
def f_Mo_draft_79 (x1 : Int64) (x3 : Int32) (x4 : Int32) (σ : St) : Int32 × St := if x3 = 0 then (f_Mo_draft_99 σ) else (if x4 = 0 then (f_Mo_draft_99 σ) else (if ((σ.1 0 30) + x3) ≤ 120 then (f_Mo_draft_104 1000 x1 x3 0 σ) else (f_Mo_draft_99 σ)))
def k_Mo_draft_79 (x1 : Int64) (x3 : Int32) (x4 : Int32) (σ : St) : Prop := (x3 = 0 → (k_Mo_draft_99 σ)) ∧ (¬ x3 = 0 → ((x4 = 0 → (k_Mo_draft_99 σ)) ∧ (¬ x4 = 0 → ((((σ.1 0 30) + x3) ≤ 120 → (k_Mo_draft_104 1000 x1 x3 0 σ)) ∧ (¬ ((σ.1 0 30) + x3) ≤ 120 → (k_Mo_draft_99 σ))))))
def f_Mo_draft_10 : Nat → Int64 → Int32 → Int32 → St → Int32 × St
  | 0, _, _, _, σ => (0, σ)
  | n + 1, x1, x3, x4, σ => if 8 ≤ x3 then (f_Mo_draft_79 x1 x3 x4 σ) else (if (lg_cmp (((x1.toUInt64 >>> ((8 * x3).toInt64.toUInt64 &&& Int64.toUInt64 63)).toInt64) &&& 255) 0) = 0 then (f_Mo_draft_79 x1 x3 x4 σ) else (f_Mo_draft_43 (f_Mo_draft_10 n) x1 x3 x4 (((x1.toUInt64 >>> ((8 * x3).toInt64.toUInt64 &&& Int64.toUInt64 63)).toInt64) &&& 255) σ))
def k_Mo_draft_10 : Nat → Int64 → Int32 → Int32 → St → Prop
  | 0, _, _, _, _ => False
  | n + 1, x1, x3, x4, σ => (8 ≤ x3 → (k_Mo_draft_79 x1 x3 x4 σ)) ∧ (¬ 8 ≤ x3 → (((lg_cmp (((x1.toUInt64 >>> ((8 * x3).toInt64.toUInt64 &&& Int64.toUInt64 63)).toInt64) &&& 255) 0) = 0 → (k_Mo_draft_79 x1 x3 x4 σ)) ∧ (¬ (lg_cmp (((x1.toUInt64 >>> ((8 * x3).toInt64.toUInt64 &&& Int64.toUInt64 63)).toInt64) &&& 255) 0) = 0 → (k_Mo_draft_43 (k_Mo_draft_10 n) x1 x3 x4 (((x1.toUInt64 >>> ((8 * x3).toInt64.toUInt64 &&& Int64.toUInt64 63)).toInt64) &&& 255) σ))))
def f_Mo_draft_5 (x1 : Int64) (σ : St) : Int32 × St := f_Mo_draft_10 1000 x1 0 1 σ
def k_Mo_draft_5 (x1 : Int64) (σ : St) : Prop := k_Mo_draft_10 1000 x1 0 1 σ
def f_Mo_draft (a1 : Int64) (σ : St) : Int32 × St := f_Mo_draft_5 a1 (sF σ 0 0 0)
def k_Mo_draft (a1 : Int64) (σ : St) : Prop := k_Mo_draft_5 a1 (sF σ 0 0 0)
abbrev w_Mo_draft : List Cond := Cond.code y_Mo_draft b_Mo_draft 7 (some .boolean) :: gw
abbrev rm_Mo_draft : Room := { frames := 0, cells := 0, slots := 0, locals := 0 }
set_option maxHeartbeats 4000000 in
set_option maxRecDepth 100000 in
theorem c_Mo_draft (l : Launch) (D : va_G) (ty : Nat → ClassId) (h : Nat → Nat) (px : va_W) (sa : Nat → Nat) (σ : St) (sz : Nat) (a1 : Int64) (hk : k_Mo_draft a1 σ) : Met l y_Mo_draft w_Mo_draft rm_Mo_draft (va_Pc [.ref (h 0), .long a1] (fun U => U.heap.size = sz ∧ va_P D classes (Wm ty h σ px) U.heap ∧ va_K D classes (Ta ty) U ∧ NW U ∧ MK sa (va_A (Wm ty h σ px) sz) U U.heap ∧ va_D (fun _ => True) (Wm ty h σ px))) (va_Qi (fun r (u : St) => (r, u) = f_Mo_draft a1 σ) (fun u t => va_P D classes (Wm ty h u px) t.heap) (va_A (Wm ty h σ px) sz)) 0 0 (va_A (Wm ty h σ px) sz) := by
  refine Met.ofW (cc := b_Mo_draft) (maxL := 7) (ret := (some .boolean)) (by decide) rfl ?_
  intro p e s m args below meth c s₁ B hml hv
  obtain ⟨ha, hsz, hP, hK, hN, hM, hD0⟩ := hv
  have hx := B.exec
  have hb := B.bytes
  have hr := B.returns
  have hg : ∀ w ∈ gw, w.before args s = true := fun w h9 => atoms_spec (ws := w_Mo_draft) B.pre w (List.mem_cons_of_mem _ h9)
  have hown : s.vm.findClass "ClauseLedgerModel" = some m.cls := findClass_of_methodNamed B.named
  have hlocks := B.notSynchronized
  subst hsz
  have hD := hD0.self (sz := s.heap.size)
  generalize hAe : va_A (Wm ty h σ px) s.heap.size = A at hD hM ⊢
  have hA : ∀ q : Nat, s.heap.size ≤ q → A q := fun q h9 => by rw [← hAe]; exact Or.inr h9
  have hS : va_S A s.heap s.heap [] := va_S.rf
  have he : entryFrame m args 7 = entryFrame m ([.ref (h 0), .long a1] : List Value).toArray 7 := by rw [ha]
  rw [he, lg_entry_eq]
  have hl := lv_entry ([.ref (h 0), .long a1]) (n := 7) (Nat.le_of_ble_eq_true rfl)
  generalize (lg_sl ([.ref (h 0), .long a1]) ++ List.replicate (7 - (lg_sl ([.ref (h 0), .long a1])).length) Slot.unset).toArray = ls at hl ⊢
  have hl : lv_has ls 7 [(0, .ref (h 0)), (1, .long a1)] := hl
  generalize hv : f_Mo_draft a1 σ = v
  replace hv := hv.symm
  have B99 : ∀ (H : Heap) (locs : List Loc) (ls : Array Slot) (σ : St), v = f_Mo_draft_99 σ → k_Mo_draft_99 σ → lv_has ls 7 [] → va_P D classes (Wm ty h σ px) H → va_D A (Wm ty h σ px) → va_S A s.heap H locs → W p l e (headSpec w_Mo_draft rm_Mo_draft).room s m args below meth c H locs 0 0 (MQ below (va_Qi (fun r (u : St) => (r, u) = v) (fun u t => va_P D classes (Wm ty h u px) t.heap) A) args s 0 0 A) (F0 m 99 ls []) := by
    intro H locs ls σ hv hk hl hP hD hS
    unfold f_Mo_draft_99 at hv
    unfold k_Mo_draft_99 at hk
    refine lv_iconst (v := 0) hx hb d_Mo_draft_99 (by decide) ?_
    exact W.zret hx hb hr rfl (fun t ht hW => ⟨⟨_, _, rfl, hv.symm, by dsimp only; rw [ht]; exact hP⟩, hS.F ht⟩) hS.2.2 d_Mo_draft_100
  have B150 : ∀ (H : Heap) (locs : List Loc) (ls : Array Slot) (σ : St), v = f_Mo_draft_150 σ → k_Mo_draft_150 σ → lv_has ls 7 [] → va_P D classes (Wm ty h σ px) H → va_D A (Wm ty h σ px) → va_S A s.heap H locs → W p l e (headSpec w_Mo_draft rm_Mo_draft).room s m args below meth c H locs 0 0 (MQ below (va_Qi (fun r (u : St) => (r, u) = v) (fun u t => va_P D classes (Wm ty h u px) t.heap) A) args s 0 0 A) (F0 m 150 ls []) := by
    intro H locs ls σ hv hk hl hP hD hS
    unfold f_Mo_draft_150 at hv
    unfold k_Mo_draft_150 at hk
    refine lv_iconst (v := 1) hx hb d_Mo_draft_150 (by decide) ?_
    exact W.zret hx hb hr rfl (fun t ht hW => ⟨⟨_, _, rfl, hv.symm, by dsimp only; rw [ht]; exact hP⟩, hS.F ht⟩) hS.2.2 d_Mo_draft_151
  have B104 : ∀ (n104 : Nat) (H : Heap) (locs : List Loc) (ls : Array Slot) (x1 : Int64) (x3 : Int32) (x5 : Int32) (σ : St), v = f_Mo_draft_104 n104 x1 x3 x5 σ → k_Mo_draft_104 n104 x1 x3 x5 σ → lv_has ls 7 [(0, .ref (h 0)), (1, .long x1), (3, .int x3), (5, .int x5)] → va_P D classes (Wm ty h σ px) H → va_D A (Wm ty h σ px) → va_S A s.heap H locs → W p l e (headSpec w_Mo_draft rm_Mo_draft).room s m args below meth c H locs 0 0 (MQ below (va_Qi (fun r (u : St) => (r, u) = v) (fun u t => va_P D classes (Wm ty h u px) t.heap) A) args s 0 0 A) (F0 m 104 ls []) := by
    intro n104
    induction n104 with
    | zero => intro H locs ls x1 x3 x5 σ hv hk hl hP hD hS; exact hk.elim
    | succ n104 ih104 =>
      have B134 : ∀ (H : Heap) (locs : List Loc) (ls : Array Slot) (x1 : Int64) (x3 : Int32) (x5 : Int32) (σ : St), v = f_Mo_draft_134 (f_Mo_draft_104 n104) x1 x3 x5 σ → k_Mo_draft_134 (k_Mo_draft_104 n104) x1 x3 x5 σ → lv_has ls 7 [(0, .ref (h 0)), (1, .long x1), (3, .int x3), (5, .int x5)] → va_P D classes (Wm ty h σ px) H → va_D A (Wm ty h σ px) → va_S A s.heap H locs → W p l e (headSpec w_Mo_draft rm_Mo_draft).room s m args below meth c H locs 0 0 (MQ below (va_Qi (fun r (u : St) => (r, u) = v) (fun u t => va_P D classes (Wm ty h u px) t.heap) A) args s 0 0 A) (F0 m 134 ls []) := by
        intro H locs ls x1 x3 x5 σ hv hk hl hP hD hS
        unfold f_Mo_draft_134 at hv
        unfold k_Mo_draft_134 at hk
        refine lv_iinc (k := 3) (v := x5 + 1) (lv' := [(5, .int (x5 + 1)), (0, .ref (h 0)), (1, .long x1), (3, .int x3)]) hx hb d_Mo_draft_134 hl rfl (by first | rfl | simp [lit1, litm1]) (by decide) rfl (fun ls hl => ?_)
        refine lv_goto (tgt := 104) hx hb d_Mo_draft_137 (by decide) ?_
        exact ih104 _ _ _ x1 x3 (x5 + 1) σ hv hk (lv_sub hl [1, 2, 3, 0] rfl) hP hD hS
      intro H locs ls x1 x3 x5 σ hv hk hl hP hD hS
      rw [f_Mo_draft_104] at hv
      rw [k_Mo_draft_104] at hk
      refine lv_iload hx hb d_Mo_draft_104 (lv_at hl 3 rfl) ?_
      refine lv_iload_n hx hb d_Mo_draft_106 rfl (lv_at hl 2 rfl) ?_
      refine lv_icmp_ge (tgt := 140) hx hb d_Mo_draft_107 (by decide) (fun hc => ?_) (fun hc => ?_)
      · have hv := hv.trans (if_pos hc)
        have hk := hk.1 hc
        refine lv_aload_n hx hb d_Mo_draft_140 rfl (lv_at hl 0 rfl) ?_
        refine lv_dup hx hb d_Mo_draft_141 rfl ?_
        refine va_get (v := .int (σ.1 0 30)) (C := R_Mo) (T := T_Mo) (N := 51) hx hb hg in_Mo hown hK hP 0 rfl rfl 30 (by decide) (hg _ m_1289) (fun _ h9 => h9) rfl d_Mo_draft_142 ?_
        refine lv_iload_n hx hb d_Mo_draft_145 rfl (lv_at hl 2 rfl) ?_
        refine lv_iadd hx hb d_Mo_draft_146 ?_
        refine va_put (v := .int ((σ.1 0 30) + x3)) (ty := .int) (C := R_Mo) (T := T_Mo) (N := 51) hx hb hg in_Mo ty_Mo ok_Mo nm_Mo hown hK hP hD hS 0 rfl rfl 30 (by decide) (hg _ m_1289) (fun _ h9 => h9) rfl (by decide +kernel) rfl rfl (Nat.le_of_ble_eq_true rfl) d_Mo_draft_147 (fun H locs hP hD hS => ?_)
        have hP : va_P D classes (Wm ty h (sF σ 0 30 ((σ.1 0 30) + x3)) px) H := hP
        have hD : va_D A (Wm ty h (sF σ 0 30 ((σ.1 0 30) + x3)) px) := hD
        exact B150 _ _ _  (sF σ 0 30 ((σ.1 0 30) + x3)) hv hk (lv_sub hl [] rfl) hP hD hS
      · have hv := hv.trans (if_neg hc)
        have hk := hk.2 hc
        refine lv_aload_n hx hb d_Mo_draft_110 rfl (lv_at hl 0 rfl) ?_
        refine va_get (v := .ref (h 21)) (C := R_Mo) (T := T_Mo) (N := 51) hx hb hg in_Mo hown hK hP 0 rfl rfl 31 (by decide) (hg _ m_1290) (fun _ h9 => h9) rfl d_Mo_draft_111 ?_
        refine lv_aload_n hx hb d_Mo_draft_114 rfl (lv_at hl 0 rfl) ?_
        refine va_get (v := .int (σ.1 0 30)) (C := R_Mo) (T := T_Mo) (N := 51) hx hb hg in_Mo hown hK hP 0 rfl rfl 30 (by decide) (hg _ m_1289) (fun _ h9 => h9) rfl d_Mo_draft_115 ?_
        refine lv_iload hx hb d_Mo_draft_118 (lv_at hl 3 rfl) ?_
        refine lv_iadd hx hb d_Mo_draft_120 ?_
        refine lv_lload_n hx hb d_Mo_draft_121 rfl (lv_at hl 1 rfl) ?_
        refine lv_bipush (v := 8) hx hb d_Mo_draft_122 (by decide) ?_
        refine lv_iload hx hb d_Mo_draft_124 (lv_at hl 3 rfl) ?_
        refine lv_imul hx hb d_Mo_draft_126 ?_
        refine lv_lushr hx hb d_Mo_draft_127 rfl ?_
        refine lv_ldc2 (v := 255) hx hb hown (hg _ m_1433) d_Mo_draft_128 ?_
        refine lv_land hx hb d_Mo_draft_131 ?_
        refine lv_l2i hx hb d_Mo_draft_132 rfl ?_
        obtain ⟨hk0, hk⟩ := hk
        refine va_iast hx hb hK hP hD hS 21 0 rfl rfl hk0 d_Mo_draft_133 (fun H locs hP hD hS => ?_)
        have hP : va_P D classes (Wm ty h (sA σ 21 ((σ.1 0 30) + x5) ((((x1.toUInt64 >>> ((8 * x5).toInt64.toUInt64 &&& Int64.toUInt64 63)).toInt64) &&& 255).toInt32)) px) H := hP
        have hD : va_D A (Wm ty h (sA σ 21 ((σ.1 0 30) + x5) ((((x1.toUInt64 >>> ((8 * x5).toInt64.toUInt64 &&& Int64.toUInt64 63)).toInt64) &&& 255).toInt32)) px) := hD
        exact B134 _ _ _ x1 x3 x5 (sA σ 21 ((σ.1 0 30) + x5) ((((x1.toUInt64 >>> ((8 * x5).toInt64.toUInt64 &&& Int64.toUInt64 63)).toInt64) &&& 255).toInt32)) hv hk (lv_sub hl [0, 1, 2, 3] rfl) hP hD hS
  have B79 : ∀ (H : Heap) (locs : List Loc) (ls : Array Slot) (x1 : Int64) (x3 : Int32) (x4 : Int32) (σ : St), v = f_Mo_draft_79 x1 x3 x4 σ → k_Mo_draft_79 x1 x3 x4 σ → lv_has ls 7 [(0, .ref (h 0)), (1, .long x1), (3, .int x3), (4, .int x4)] → va_P D classes (Wm ty h σ px) H → va_D A (Wm ty h σ px) → va_S A s.heap H locs → W p l e (headSpec w_Mo_draft rm_Mo_draft).room s m args below meth c H locs 0 0 (MQ below (va_Qi (fun r (u : St) => (r, u) = v) (fun u t => va_P D classes (Wm ty h u px) t.heap) A) args s 0 0 A) (F0 m 79 ls []) := by
    intro H locs ls x1 x3 x4 σ hv hk hl hP hD hS
    unfold f_Mo_draft_79 at hv
    unfold k_Mo_draft_79 at hk
    refine lv_iload_n hx hb d_Mo_draft_79 rfl (lv_at hl 2 rfl) ?_
    refine lv_if_eq (tgt := 99) hx hb d_Mo_draft_80 (by decide) (fun hc => ?_) (fun hc => ?_)
    · have hv := hv.trans (if_pos hc)
      have hk := hk.1 hc
      exact B99 _ _ _  σ hv hk (lv_sub hl [] rfl) hP hD hS
    · have hv := hv.trans (if_neg hc)
      have hk := hk.2 hc
      refine lv_iload hx hb d_Mo_draft_83 (lv_at hl 3 rfl) ?_
      refine lv_if_eq (tgt := 99) hx hb d_Mo_draft_85 (by decide) (fun hc => ?_) (fun hc => ?_)
      · have hv := hv.trans (if_pos hc)
        have hk := hk.1 hc
        exact B99 _ _ _  σ hv hk (lv_sub hl [] rfl) hP hD hS
      · have hv := hv.trans (if_neg hc)
        have hk := hk.2 hc
        refine lv_aload_n hx hb d_Mo_draft_88 rfl (lv_at hl 0 rfl) ?_
        refine va_get (v := .int (σ.1 0 30)) (C := R_Mo) (T := T_Mo) (N := 51) hx hb hg in_Mo hown hK hP 0 rfl rfl 30 (by decide) (hg _ m_1289) (fun _ h9 => h9) rfl d_Mo_draft_89 ?_
        refine lv_iload_n hx hb d_Mo_draft_92 rfl (lv_at hl 2 rfl) ?_
        refine lv_iadd hx hb d_Mo_draft_93 ?_
        refine lv_bipush (v := 120) hx hb d_Mo_draft_94 (by decide) ?_
        refine lv_icmp_le (tgt := 101) hx hb d_Mo_draft_96 (by decide) (fun hc => ?_) (fun hc => ?_)
        · have hv := hv.trans (if_pos hc)
          have hk := hk.1 hc
          refine lv_iconst (v := 0) hx hb d_Mo_draft_101 (by decide) ?_
          refine lv_istore (lv' := [(5, .int 0), (0, .ref (h 0)), (1, .long x1), (3, .int x3), (4, .int x4)]) hx hb d_Mo_draft_102 hl (by decide) rfl (fun ls hl => ?_)
          exact B104 1000 _ _ _ x1 x3 0 σ hv hk (lv_sub hl [1, 2, 3, 0] rfl) hP hD hS
        · have hv := hv.trans (if_neg hc)
          have hk := hk.2 hc
          exact B99 _ _ _  σ hv hk (lv_sub hl [] rfl) hP hD hS
  have B10 : ∀ (n10 : Nat) (H : Heap) (locs : List Loc) (ls : Array Slot) (x1 : Int64) (x3 : Int32) (x4 : Int32) (σ : St), v = f_Mo_draft_10 n10 x1 x3 x4 σ → k_Mo_draft_10 n10 x1 x3 x4 σ → lv_has ls 7 [(0, .ref (h 0)), (1, .long x1), (3, .int x3), (4, .int x4)] → va_P D classes (Wm ty h σ px) H → va_D A (Wm ty h σ px) → va_S A s.heap H locs → W p l e (headSpec w_Mo_draft rm_Mo_draft).room s m args below meth c H locs 0 0 (MQ below (va_Qi (fun r (u : St) => (r, u) = v) (fun u t => va_P D classes (Wm ty h u px) t.heap) A) args s 0 0 A) (F0 m 10 ls []) := by
    intro n10
    induction n10 with
    | zero => intro H locs ls x1 x3 x4 σ hv hk hl hP hD hS; exact hk.elim
    | succ n10 ih10 =>
      have B71 : ∀ (H : Heap) (locs : List Loc) (ls : Array Slot) (x1 : Int64) (x3 : Int32) (s0 : Int32) (σ : St), v = f_Mo_draft_71 (f_Mo_draft_10 n10) x1 x3 s0 σ → k_Mo_draft_71 (k_Mo_draft_10 n10) x1 x3 s0 σ → lv_has ls 7 [(0, .ref (h 0)), (1, .long x1), (3, .int x3)] → va_P D classes (Wm ty h σ px) H → va_D A (Wm ty h σ px) → va_S A s.heap H locs → W p l e (headSpec w_Mo_draft rm_Mo_draft).room s m args below meth c H locs 0 0 (MQ below (va_Qi (fun r (u : St) => (r, u) = v) (fun u t => va_P D classes (Wm ty h u px) t.heap) A) args s 0 0 A) (F0 m 71 ls [.int s0]) := by
        intro H locs ls x1 x3 s0 σ hv hk hl hP hD hS
        unfold f_Mo_draft_71 at hv
        unfold k_Mo_draft_71 at hk
        refine lv_istore (lv' := [(4, .int s0), (0, .ref (h 0)), (1, .long x1), (3, .int x3)]) hx hb d_Mo_draft_71 hl (by decide) rfl (fun ls hl => ?_)
        refine lv_iinc (k := 3) (v := x3 + 1) (lv' := [(3, .int (x3 + 1)), (4, .int s0), (0, .ref (h 0)), (1, .long x1)]) hx hb d_Mo_draft_73 hl rfl (by first | rfl | simp [lit1, litm1]) (by decide) rfl (fun ls hl => ?_)
        refine lv_goto (tgt := 10) hx hb d_Mo_draft_76 (by decide) ?_
        exact ih10 _ _ _ x1 (x3 + 1) s0 σ hv hk (lv_sub hl [2, 3, 0, 1] rfl) hP hD hS
      have B70 : ∀ (H : Heap) (locs : List Loc) (ls : Array Slot) (x1 : Int64) (x3 : Int32) (σ : St), v = f_Mo_draft_70 (f_Mo_draft_10 n10) x1 x3 σ → k_Mo_draft_70 (k_Mo_draft_10 n10) x1 x3 σ → lv_has ls 7 [(0, .ref (h 0)), (1, .long x1), (3, .int x3)] → va_P D classes (Wm ty h σ px) H → va_D A (Wm ty h σ px) → va_S A s.heap H locs → W p l e (headSpec w_Mo_draft rm_Mo_draft).room s m args below meth c H locs 0 0 (MQ below (va_Qi (fun r (u : St) => (r, u) = v) (fun u t => va_P D classes (Wm ty h u px) t.heap) A) args s 0 0 A) (F0 m 70 ls []) := by
        intro H locs ls x1 x3 σ hv hk hl hP hD hS
        unfold f_Mo_draft_70 at hv
        unfold k_Mo_draft_70 at hk
        refine lv_iconst (v := 0) hx hb d_Mo_draft_70 (by decide) ?_
        exact B71 _ _ _ x1 x3 0 σ hv hk (lv_sub hl [0, 1, 2] rfl) hP hD hS
      have B43 : ∀ (H : Heap) (locs : List Loc) (ls : Array Slot) (x1 : Int64) (x3 : Int32) (x4 : Int32) (x5 : Int64) (σ : St), v = f_Mo_draft_43 (f_Mo_draft_10 n10) x1 x3 x4 x5 σ → k_Mo_draft_43 (k_Mo_draft_10 n10) x1 x3 x4 x5 σ → lv_has ls 7 [(0, .ref (h 0)), (1, .long x1), (3, .int x3), (4, .int x4), (5, .long x5)] → va_P D classes (Wm ty h σ px) H → va_D A (Wm ty h σ px) → va_S A s.heap H locs → W p l e (headSpec w_Mo_draft rm_Mo_draft).room s m args below meth c H locs 0 0 (MQ below (va_Qi (fun r (u : St) => (r, u) = v) (fun u t => va_P D classes (Wm ty h u px) t.heap) A) args s 0 0 A) (F0 m 43 ls []) := by
        intro H locs ls x1 x3 x4 x5 σ hv hk hl hP hD hS
        unfold f_Mo_draft_43 at hv
        unfold k_Mo_draft_43 at hk
        refine lv_iload hx hb d_Mo_draft_43 (lv_at hl 3 rfl) ?_
        refine lv_if_eq (tgt := 70) hx hb d_Mo_draft_45 (by decide) (fun hc => ?_) (fun hc => ?_)
        · have hv := hv.trans (if_pos hc)
          have hk := hk.1 hc
          exact B70 _ _ _ x1 x3 σ hv hk (lv_sub hl [0, 1, 2] rfl) hP hD hS
        · have hv := hv.trans (if_neg hc)
          have hk := hk.2 hc
          refine lv_lload hx hb d_Mo_draft_48 (lv_at hl 4 rfl) ?_
          refine lv_ldc2 (v := 32) hx hb hown (hg _ m_1434) d_Mo_draft_50 ?_
          refine W.lcmp hx hb d_Mo_draft_53 ?_
          refine lv_if_lt (tgt := 70) hx hb d_Mo_draft_54 (by decide) (fun hc => ?_) (fun hc => ?_)
          · have hv := hv.trans (if_pos hc)
            have hk := hk.1 hc
            exact B70 _ _ _ x1 x3 σ hv hk (lv_sub hl [0, 1, 2] rfl) hP hD hS
          · have hv := hv.trans (if_neg hc)
            have hk := hk.2 hc
            refine lv_lload hx hb d_Mo_draft_57 (lv_at hl 4 rfl) ?_
            refine lv_ldc2 (v := 126) hx hb hown (hg _ m_1435) d_Mo_draft_59 ?_
            refine W.lcmp hx hb d_Mo_draft_62 ?_
            refine lv_if_gt (tgt := 70) hx hb d_Mo_draft_63 (by decide) (fun hc => ?_) (fun hc => ?_)
            · have hv := hv.trans (if_pos hc)
              have hk := hk.1 hc
              exact B70 _ _ _ x1 x3 σ hv hk (lv_sub hl [0, 1, 2] rfl) hP hD hS
            · have hv := hv.trans (if_neg hc)
              have hk := hk.2 hc
              refine lv_iconst (v := 1) hx hb d_Mo_draft_66 (by decide) ?_
              refine lv_goto (tgt := 71) hx hb d_Mo_draft_67 (by decide) ?_
              exact B71 _ _ _ x1 x3 1 σ hv hk (lv_sub hl [0, 1, 2] rfl) hP hD hS
      intro H locs ls x1 x3 x4 σ hv hk hl hP hD hS
      rw [f_Mo_draft_10] at hv
      rw [k_Mo_draft_10] at hk
      refine lv_iload_n hx hb d_Mo_draft_10 rfl (lv_at hl 2 rfl) ?_
      refine lv_bipush (v := 8) hx hb d_Mo_draft_11 (by decide) ?_
      refine lv_icmp_ge (tgt := 79) hx hb d_Mo_draft_13 (by decide) (fun hc => ?_) (fun hc => ?_)
      · have hv := hv.trans (if_pos hc)
        have hk := hk.1 hc
        exact B79 _ _ _ x1 x3 x4 σ hv hk (lv_sub hl [0, 1, 2, 3] rfl) hP hD hS
      · have hv := hv.trans (if_neg hc)
        have hk := hk.2 hc
        refine lv_lload_n hx hb d_Mo_draft_16 rfl (lv_at hl 1 rfl) ?_
        refine lv_bipush (v := 8) hx hb d_Mo_draft_17 (by decide) ?_
        refine lv_iload_n hx hb d_Mo_draft_19 rfl (lv_at hl 2 rfl) ?_
        refine lv_imul hx hb d_Mo_draft_20 ?_
        refine lv_lushr hx hb d_Mo_draft_21 rfl ?_
        refine lv_ldc2 (v := 255) hx hb hown (hg _ m_1433) d_Mo_draft_22 ?_
        refine lv_land hx hb d_Mo_draft_25 ?_
        refine lv_lconst (v := 0) hx hb d_Mo_draft_26 (by decide) ?_
        refine W.lcmp hx hb d_Mo_draft_27 ?_
        refine lv_if_eq (tgt := 79) hx hb d_Mo_draft_28 (by decide) (fun hc => ?_) (fun hc => ?_)
        · have hv := hv.trans (if_pos hc)
          have hk := hk.1 hc
          exact B79 _ _ _ x1 x3 x4 σ hv hk (lv_sub hl [0, 1, 2, 3] rfl) hP hD hS
        · have hv := hv.trans (if_neg hc)
          have hk := hk.2 hc
          refine lv_lload_n hx hb d_Mo_draft_31 rfl (lv_at hl 1 rfl) ?_
          refine lv_bipush (v := 8) hx hb d_Mo_draft_32 (by decide) ?_
          refine lv_iload_n hx hb d_Mo_draft_34 rfl (lv_at hl 2 rfl) ?_
          refine lv_imul hx hb d_Mo_draft_35 ?_
          refine lv_lushr hx hb d_Mo_draft_36 rfl ?_
          refine lv_ldc2 (v := 255) hx hb hown (hg _ m_1433) d_Mo_draft_37 ?_
          refine lv_land hx hb d_Mo_draft_40 ?_
          refine lv_lstore (lv' := [(5, .long (((x1.toUInt64 >>> ((8 * x3).toInt64.toUInt64 &&& Int64.toUInt64 63)).toInt64) &&& 255)), (0, .ref (h 0)), (1, .long x1), (3, .int x3), (4, .int x4)]) hx hb d_Mo_draft_41 hl (by decide) rfl (fun ls hl => ?_)
          exact B43 _ _ _ x1 x3 x4 (((x1.toUInt64 >>> ((8 * x3).toInt64.toUInt64 &&& Int64.toUInt64 63)).toInt64) &&& 255) σ hv hk (lv_sub hl [1, 2, 3, 4, 0] rfl) hP hD hS
  have B5 : ∀ (H : Heap) (locs : List Loc) (ls : Array Slot) (x1 : Int64) (σ : St), v = f_Mo_draft_5 x1 σ → k_Mo_draft_5 x1 σ → lv_has ls 7 [(0, .ref (h 0)), (1, .long x1)] → va_P D classes (Wm ty h σ px) H → va_D A (Wm ty h σ px) → va_S A s.heap H locs → W p l e (headSpec w_Mo_draft rm_Mo_draft).room s m args below meth c H locs 0 0 (MQ below (va_Qi (fun r (u : St) => (r, u) = v) (fun u t => va_P D classes (Wm ty h u px) t.heap) A) args s 0 0 A) (F0 m 5 ls []) := by
    intro H locs ls x1 σ hv hk hl hP hD hS
    unfold f_Mo_draft_5 at hv
    unfold k_Mo_draft_5 at hk
    refine lv_iconst (v := 0) hx hb d_Mo_draft_5 (by decide) ?_
    refine lv_istore_n (lv' := [(3, .int 0), (0, .ref (h 0)), (1, .long x1)]) hx hb d_Mo_draft_6 rfl hl (by decide) rfl (fun ls hl => ?_)
    refine lv_iconst (v := 1) hx hb d_Mo_draft_7 (by decide) ?_
    refine lv_istore (lv' := [(4, .int 1), (3, .int 0), (0, .ref (h 0)), (1, .long x1)]) hx hb d_Mo_draft_8 hl (by decide) rfl (fun ls hl => ?_)
    exact B10 1000 _ _ _ x1 0 1 σ hv hk (lv_sub hl [2, 3, 1, 0] rfl) hP hD hS
  unfold f_Mo_draft at hv
  unfold k_Mo_draft at hk
  refine lv_aload_n hx hb d_Mo_draft_0 rfl (lv_at hl 0 rfl) ?_
  refine lv_iconst (v := 0) hx hb d_Mo_draft_1 (by decide) ?_
  refine va_put (v := .int 0) (ty := .int) (C := R_Mo) (T := T_Mo) (N := 51) hx hb hg in_Mo ty_Mo ok_Mo nm_Mo hown hK hP hD hS 0 rfl rfl 0 (by decide) (hg _ m_1259) (fun _ h9 => h9) rfl (by decide +kernel) rfl rfl (Nat.le_of_ble_eq_true rfl) d_Mo_draft_2 (fun H locs hP hD hS => ?_)
  have hP : va_P D classes (Wm ty h (sF σ 0 0 0) px) H := hP
  have hD : va_D A (Wm ty h (sF σ 0 0 0) px) := hD
  exact B5 _ _ _ a1 (sF σ 0 0 0) hv hk (lv_sub hl [0, 1] rfl) hP hD hS

-- ClauseLedgerModel.peek()I
abbrev b_Mo_peek : ByteArray := prog_14_method_17_code
def y_Mo_peek : MethodName := ⟨"ClauseLedgerModel", "peek", "()I"⟩
theorem hd_Mo_peek : y_Mo_peek.cls ≠ "java/lang/invoke/MethodHandle" ∧ y_Mo_peek.cls ≠ "java/lang/invoke/VarHandle" ∧ (parseMethodDescriptor y_Mo_peek.desc).map (fun d => d.parameters.length) = some 0 := by decide +kernel
theorem d_Mo_peek_0 : decode b_Mo_peek 0 = .ok (.aload_n 0, 1) := by decide +kernel
theorem d_Mo_peek_1 : decode b_Mo_peek 1 = .ok (.getfield 149, 3) := by decide +kernel
theorem d_Mo_peek_4 : decode b_Mo_peek 4 = .ok (.aload_n 0, 1) := by decide +kernel
theorem d_Mo_peek_5 : decode b_Mo_peek 5 = .ok (.getfield 146, 3) := by decide +kernel
theorem d_Mo_peek_8 : decode b_Mo_peek 8 = .ok (.if_icmp .ge 15, 3) := by decide +kernel
theorem d_Mo_peek_11 : decode b_Mo_peek 11 = .ok (.aload_n 0, 1) := by decide +kernel
theorem d_Mo_peek_12 : decode b_Mo_peek 12 = .ok (.getfield 75, 3) := by decide +kernel
theorem d_Mo_peek_15 : decode b_Mo_peek 15 = .ok (.aload_n 0, 1) := by decide +kernel
theorem d_Mo_peek_16 : decode b_Mo_peek 16 = .ok (.getfield 149, 3) := by decide +kernel
theorem d_Mo_peek_19 : decode b_Mo_peek 19 = .ok (.iaload, 1) := by decide +kernel
theorem d_Mo_peek_20 : decode b_Mo_peek 20 = .ok (.goto 4, 3) := by decide +kernel
theorem d_Mo_peek_23 : decode b_Mo_peek 23 = .ok (.iconst 0, 1) := by decide +kernel
theorem d_Mo_peek_24 : decode b_Mo_peek 24 = .ok (.ireturn, 1) := by decide +kernel
def f_Mo_peek_24 (s0 : Int32) (σ : St) : Int32 := s0
def k_Mo_peek_24 (s0 : Int32) (σ : St) : Prop := True
def f_Mo_peek (σ : St) : Int32 := if (σ.1 0 30) ≤ (σ.1 0 32) then (f_Mo_peek_24 0 σ) else (f_Mo_peek_24 (σ.1 21 (σ.1 0 32).toNatClampNeg) σ)
def k_Mo_peek (σ : St) : Prop := ((σ.1 0 30) ≤ (σ.1 0 32) → (k_Mo_peek_24 0 σ)) ∧ (¬ (σ.1 0 30) ≤ (σ.1 0 32) → (vp_in (σ.1 0 32) 120 ∧ (k_Mo_peek_24 (σ.1 21 (σ.1 0 32).toNatClampNeg) σ)))
abbrev w_Mo_peek : List Cond := Cond.code y_Mo_peek b_Mo_peek 1 (some .int) :: gw
abbrev rm_Mo_peek : Room := { frames := 0, cells := 0, slots := 0, locals := 0 }
set_option maxHeartbeats 4000000 in
set_option maxRecDepth 100000 in
theorem c_Mo_peek (l : Launch) (D : va_G) (ty : Nat → ClassId) (h : Nat → Nat) (px : va_W) (sa : Nat → Nat) (σ : St) (hk : k_Mo_peek σ) : Met l y_Mo_peek w_Mo_peek rm_Mo_peek (va_Pc [.ref (h 0)] (fun U => va_P D classes (Wm ty h σ px) U.heap ∧ va_K D classes (Ta ty) U ∧ NW U ∧ MK sa (fun _ => False) U U.heap)) (k2_QcV (.int (f_Mo_peek σ))) 0 0 (fun _ => False) := by
  refine Met.ofW (cc := b_Mo_peek) (maxL := 1) (ret := (some .int)) (by decide) rfl ?_
  intro p e s m args below meth c s₁ B hml hv
  obtain ⟨ha, hP, hK, hN, hM⟩ := hv
  have hx := B.exec
  have hb := B.bytes
  have hr := B.returns
  have hg : ∀ w ∈ gw, w.before args s = true := fun w h9 => atoms_spec (ws := w_Mo_peek) B.pre w (List.mem_cons_of_mem _ h9)
  have hown : s.vm.findClass "ClauseLedgerModel" = some m.cls := findClass_of_methodNamed B.named
  have hlocks := B.notSynchronized
  have he : entryFrame m args 1 = entryFrame m ([.ref (h 0)] : List Value).toArray 1 := by rw [ha]
  rw [he, lg_entry_eq]
  have hl := lv_entry ([.ref (h 0)]) (n := 1) (Nat.le_of_ble_eq_true rfl)
  generalize (lg_sl ([.ref (h 0)]) ++ List.replicate (1 - (lg_sl ([.ref (h 0)])).length) Slot.unset).toArray = ls at hl ⊢
  have hl : lv_has ls 1 [(0, .ref (h 0))] := hl
  generalize hv : f_Mo_peek σ = v
  replace hv := hv.symm
  have B24 : ∀ (ls : Array Slot) (s0 : Int32), v = f_Mo_peek_24 s0 σ → k_Mo_peek_24 s0 σ → lv_has ls 1 [] → W p l e (headSpec w_Mo_peek rm_Mo_peek).room s m args below meth c s.heap [] 0 0 (MQ below (k2_QcV (.int v)) args s 0 0 (fun _ => False)) (F0 m 24 ls [.int s0]) := by
    intro ls s0 hv hk hl
    unfold f_Mo_peek_24 at hv
    unfold k_Mo_peek_24 at hk
    exact W.iret hx hb hr (fun t ht hW => ⟨by rw [hv], ht⟩) (fun q h => nomatch h) d_Mo_peek_24
  unfold f_Mo_peek at hv
  unfold k_Mo_peek at hk
  refine lv_aload_n hx hb d_Mo_peek_0 rfl (lv_at hl 0 rfl) ?_
  refine va_get (v := .int (σ.1 0 32)) (C := R_Mo) (T := T_Mo) (N := 51) hx hb hg in_Mo hown hK hP 0 rfl rfl 32 (by decide) (hg _ m_1291) (fun _ h9 => h9) rfl d_Mo_peek_1 ?_
  refine lv_aload_n hx hb d_Mo_peek_4 rfl (lv_at hl 0 rfl) ?_
  refine va_get (v := .int (σ.1 0 30)) (C := R_Mo) (T := T_Mo) (N := 51) hx hb hg in_Mo hown hK hP 0 rfl rfl 30 (by decide) (hg _ m_1289) (fun _ h9 => h9) rfl d_Mo_peek_5 ?_
  refine lv_icmp_ge (tgt := 23) hx hb d_Mo_peek_8 (by decide) (fun hc => ?_) (fun hc => ?_)
  · have hv := hv.trans (if_pos hc)
    have hk := hk.1 hc
    refine lv_iconst (v := 0) hx hb d_Mo_peek_23 (by decide) ?_
    exact B24 _ 0 hv hk (lv_sub hl [] rfl)
  · have hv := hv.trans (if_neg hc)
    have hk := hk.2 hc
    refine lv_aload_n hx hb d_Mo_peek_11 rfl (lv_at hl 0 rfl) ?_
    refine va_get (v := .ref (h 21)) (C := R_Mo) (T := T_Mo) (N := 51) hx hb hg in_Mo hown hK hP 0 rfl rfl 31 (by decide) (hg _ m_1290) (fun _ h9 => h9) rfl d_Mo_peek_12 ?_
    refine lv_aload_n hx hb d_Mo_peek_15 rfl (lv_at hl 0 rfl) ?_
    refine va_get (v := .int (σ.1 0 32)) (C := R_Mo) (T := T_Mo) (N := 51) hx hb hg in_Mo hown hK hP 0 rfl rfl 32 (by decide) (hg _ m_1291) (fun _ h9 => h9) rfl d_Mo_peek_16 ?_
    obtain ⟨hk0, hk⟩ := hk
    refine va_iald hx hb hK hP 21 0 rfl rfl hk0 d_Mo_peek_19 ?_
    refine lv_goto (tgt := 24) hx hb d_Mo_peek_20 (by decide) ?_
    exact B24 _ (σ.1 21 (σ.1 0 32).toNatClampNeg) hv hk (lv_sub hl [] rfl)

-- ClauseLedgerModel.digit(I)Z
abbrev b_Mo_digit : ByteArray := prog_14_method_18_code
def y_Mo_digit : MethodName := ⟨"ClauseLedgerModel", "digit", "(I)Z"⟩
theorem hd_Mo_digit : y_Mo_digit.cls ≠ "java/lang/invoke/MethodHandle" ∧ y_Mo_digit.cls ≠ "java/lang/invoke/VarHandle" ∧ (parseMethodDescriptor y_Mo_digit.desc).map (fun d => d.parameters.length) = some 1 := by decide +kernel
theorem d_Mo_digit_0 : decode b_Mo_digit 0 = .ok (.iload_n 0, 1) := by decide +kernel
theorem d_Mo_digit_1 : decode b_Mo_digit 1 = .ok (.bipush 48, 2) := by decide +kernel
theorem d_Mo_digit_3 : decode b_Mo_digit 3 = .ok (.if_icmp .lt 13, 3) := by decide +kernel
theorem d_Mo_digit_6 : decode b_Mo_digit 6 = .ok (.iload_n 0, 1) := by decide +kernel
theorem d_Mo_digit_7 : decode b_Mo_digit 7 = .ok (.bipush 57, 2) := by decide +kernel
theorem d_Mo_digit_9 : decode b_Mo_digit 9 = .ok (.if_icmp .gt 7, 3) := by decide +kernel
theorem d_Mo_digit_12 : decode b_Mo_digit 12 = .ok (.iconst 1, 1) := by decide +kernel
theorem d_Mo_digit_13 : decode b_Mo_digit 13 = .ok (.goto 4, 3) := by decide +kernel
theorem d_Mo_digit_16 : decode b_Mo_digit 16 = .ok (.iconst 0, 1) := by decide +kernel
theorem d_Mo_digit_17 : decode b_Mo_digit 17 = .ok (.ireturn, 1) := by decide +kernel
def f_Mo_digit_17 (s0 : Int32) (σ : St) : Int32 := s0
def k_Mo_digit_17 (s0 : Int32) (σ : St) : Prop := (narrow .boolean (.int s0) = .int s0) ∧ True
def f_Mo_digit_16 (σ : St) : Int32 := f_Mo_digit_17 0 σ
def k_Mo_digit_16 (σ : St) : Prop := k_Mo_digit_17 0 σ
def f_Mo_digit (a0 : Int32) (σ : St) : Int32 := if a0 < 48 then (f_Mo_digit_16 σ) else (if 57 < a0 then (f_Mo_digit_16 σ) else (f_Mo_digit_17 1 σ))
def k_Mo_digit (a0 : Int32) (σ : St) : Prop := (a0 < 48 → (k_Mo_digit_16 σ)) ∧ (¬ a0 < 48 → ((57 < a0 → (k_Mo_digit_16 σ)) ∧ (¬ 57 < a0 → (k_Mo_digit_17 1 σ))))
abbrev w_Mo_digit : List Cond := Cond.code y_Mo_digit b_Mo_digit 1 (some .boolean) :: gw
abbrev rm_Mo_digit : Room := { frames := 0, cells := 0, slots := 0, locals := 0 }
set_option maxHeartbeats 4000000 in
set_option maxRecDepth 100000 in
theorem c_Mo_digit (l : Launch) (D : va_G) (ty : Nat → ClassId) (h : Nat → Nat) (px : va_W) (sa : Nat → Nat) (σ : St) (a0 : Int32) (hk : k_Mo_digit a0 σ) : Met l y_Mo_digit w_Mo_digit rm_Mo_digit (va_Pc [.int a0] (fun U => va_P D classes (Wm ty h σ px) U.heap ∧ va_K D classes (Ta ty) U ∧ NW U ∧ MK sa (fun _ => False) U U.heap)) (k2_QcV (.int (f_Mo_digit a0 σ))) 0 0 (fun _ => False) := by
  refine Met.ofW (cc := b_Mo_digit) (maxL := 1) (ret := (some .boolean)) (by decide) rfl ?_
  intro p e s m args below meth c s₁ B hml hv
  obtain ⟨ha, hP, hK, hN, hM⟩ := hv
  have hx := B.exec
  have hb := B.bytes
  have hr := B.returns
  have hg : ∀ w ∈ gw, w.before args s = true := fun w h9 => atoms_spec (ws := w_Mo_digit) B.pre w (List.mem_cons_of_mem _ h9)
  have hown : s.vm.findClass "ClauseLedgerModel" = some m.cls := findClass_of_methodNamed B.named
  have hlocks := B.notSynchronized
  have he : entryFrame m args 1 = entryFrame m ([.int a0] : List Value).toArray 1 := by rw [ha]
  rw [he, lg_entry_eq]
  have hl := lv_entry ([.int a0]) (n := 1) (Nat.le_of_ble_eq_true rfl)
  generalize (lg_sl ([.int a0]) ++ List.replicate (1 - (lg_sl ([.int a0])).length) Slot.unset).toArray = ls at hl ⊢
  have hl : lv_has ls 1 [(0, .int a0)] := hl
  generalize hv : f_Mo_digit a0 σ = v
  replace hv := hv.symm
  have B17 : ∀ (ls : Array Slot) (s0 : Int32), v = f_Mo_digit_17 s0 σ → k_Mo_digit_17 s0 σ → lv_has ls 1 [] → W p l e (headSpec w_Mo_digit rm_Mo_digit).room s m args below meth c s.heap [] 0 0 (MQ below (k2_QcV (.int v)) args s 0 0 (fun _ => False)) (F0 m 17 ls [.int s0]) := by
    intro ls s0 hv hk hl
    unfold f_Mo_digit_17 at hv
    unfold k_Mo_digit_17 at hk
    obtain ⟨hk0, hk⟩ := hk
    exact W.zret hx hb hr hk0 (fun t ht hW => ⟨by rw [hv], ht⟩) (fun q h => nomatch h) d_Mo_digit_17
  have B16 : ∀ (ls : Array Slot), v = f_Mo_digit_16 σ → k_Mo_digit_16 σ → lv_has ls 1 [] → W p l e (headSpec w_Mo_digit rm_Mo_digit).room s m args below meth c s.heap [] 0 0 (MQ below (k2_QcV (.int v)) args s 0 0 (fun _ => False)) (F0 m 16 ls []) := by
    intro ls hv hk hl
    unfold f_Mo_digit_16 at hv
    unfold k_Mo_digit_16 at hk
    refine lv_iconst (v := 0) hx hb d_Mo_digit_16 (by decide) ?_
    exact B17 _ 0 hv hk (lv_sub hl [] rfl)
  unfold f_Mo_digit at hv
  unfold k_Mo_digit at hk
  refine lv_iload_n hx hb d_Mo_digit_0 rfl (lv_at hl 0 rfl) ?_
  refine lv_bipush (v := 48) hx hb d_Mo_digit_1 (by decide) ?_
  refine lv_icmp_lt (tgt := 16) hx hb d_Mo_digit_3 (by decide) (fun hc => ?_) (fun hc => ?_)
  · have hv := hv.trans (if_pos hc)
    have hk := hk.1 hc
    exact B16 _  hv hk (lv_sub hl [] rfl)
  · have hv := hv.trans (if_neg hc)
    have hk := hk.2 hc
    refine lv_iload_n hx hb d_Mo_digit_6 rfl (lv_at hl 0 rfl) ?_
    refine lv_bipush (v := 57) hx hb d_Mo_digit_7 (by decide) ?_
    refine lv_icmp_gt (tgt := 16) hx hb d_Mo_digit_9 (by decide) (fun hc => ?_) (fun hc => ?_)
    · have hv := hv.trans (if_pos hc)
      have hk := hk.1 hc
      exact B16 _  hv hk (lv_sub hl [] rfl)
    · have hv := hv.trans (if_neg hc)
      have hk := hk.2 hc
      refine lv_iconst (v := 1) hx hb d_Mo_digit_12 (by decide) ?_
      refine lv_goto (tgt := 17) hx hb d_Mo_digit_13 (by decide) ?_
      exact B17 _ 1 hv hk (lv_sub hl [] rfl)

-- ClauseLedgerModel.digits()I
abbrev b_Mo_digits : ByteArray := prog_14_method_19_code
def y_Mo_digits : MethodName := ⟨"ClauseLedgerModel", "digits", "()I"⟩
theorem hd_Mo_digits : y_Mo_digits.cls ≠ "java/lang/invoke/MethodHandle" ∧ y_Mo_digits.cls ≠ "java/lang/invoke/VarHandle" ∧ (parseMethodDescriptor y_Mo_digits.desc).map (fun d => d.parameters.length) = some 0 := by decide +kernel
theorem d_Mo_digits_0 : decode b_Mo_digits 0 = .ok (.iconst 0, 1) := by decide +kernel
theorem d_Mo_digits_1 : decode b_Mo_digits 1 = .ok (.istore_n 1, 1) := by decide +kernel
theorem d_Mo_digits_2 : decode b_Mo_digits 2 = .ok (.iconst 0, 1) := by decide +kernel
theorem d_Mo_digits_3 : decode b_Mo_digits 3 = .ok (.istore_n 2, 1) := by decide +kernel
theorem d_Mo_digits_4 : decode b_Mo_digits 4 = .ok (.aload_n 0, 1) := by decide +kernel
theorem d_Mo_digits_5 : decode b_Mo_digits 5 = .ok (.invokevirtual 152, 3) := by decide +kernel
theorem d_Mo_digits_8 : decode b_Mo_digits 8 = .ok (.invokestatic 156, 3) := by decide +kernel
theorem d_Mo_digits_11 : decode b_Mo_digits 11 = .ok (.ifCond .eq 38, 3) := by decide +kernel
theorem d_Mo_digits_14 : decode b_Mo_digits 14 = .ok (.iload_n 1, 1) := by decide +kernel
theorem d_Mo_digits_15 : decode b_Mo_digits 15 = .ok (.bipush 6, 2) := by decide +kernel
theorem d_Mo_digits_17 : decode b_Mo_digits 17 = .ok (.if_icmp .ge 32, 3) := by decide +kernel
theorem d_Mo_digits_20 : decode b_Mo_digits 20 = .ok (.bipush 10, 2) := by decide +kernel
theorem d_Mo_digits_22 : decode b_Mo_digits 22 = .ok (.iload_n 2, 1) := by decide +kernel
theorem d_Mo_digits_23 : decode b_Mo_digits 23 = .ok (.imul, 1) := by decide +kernel
theorem d_Mo_digits_24 : decode b_Mo_digits 24 = .ok (.aload_n 0, 1) := by decide +kernel
theorem d_Mo_digits_25 : decode b_Mo_digits 25 = .ok (.invokevirtual 152, 3) := by decide +kernel
theorem d_Mo_digits_28 : decode b_Mo_digits 28 = .ok (.iadd, 1) := by decide +kernel
theorem d_Mo_digits_29 : decode b_Mo_digits 29 = .ok (.bipush 48, 2) := by decide +kernel
theorem d_Mo_digits_31 : decode b_Mo_digits 31 = .ok (.isub, 1) := by decide +kernel
theorem d_Mo_digits_32 : decode b_Mo_digits 32 = .ok (.istore_n 2, 1) := by decide +kernel
theorem d_Mo_digits_33 : decode b_Mo_digits 33 = .ok (.iinc 1 1, 3) := by decide +kernel
theorem d_Mo_digits_36 : decode b_Mo_digits 36 = .ok (.aload_n 0, 1) := by decide +kernel
theorem d_Mo_digits_37 : decode b_Mo_digits 37 = .ok (.dup, 1) := by decide +kernel
theorem d_Mo_digits_38 : decode b_Mo_digits 38 = .ok (.getfield 149, 3) := by decide +kernel
theorem d_Mo_digits_41 : decode b_Mo_digits 41 = .ok (.iconst 1, 1) := by decide +kernel
theorem d_Mo_digits_42 : decode b_Mo_digits 42 = .ok (.iadd, 1) := by decide +kernel
theorem d_Mo_digits_43 : decode b_Mo_digits 43 = .ok (.putfield 149, 3) := by decide +kernel
theorem d_Mo_digits_46 : decode b_Mo_digits 46 = .ok (.goto (-42), 3) := by decide +kernel
theorem d_Mo_digits_49 : decode b_Mo_digits 49 = .ok (.iload_n 1, 1) := by decide +kernel
theorem d_Mo_digits_50 : decode b_Mo_digits 50 = .ok (.ifCond .eq 9, 3) := by decide +kernel
theorem d_Mo_digits_53 : decode b_Mo_digits 53 = .ok (.iload_n 1, 1) := by decide +kernel
theorem d_Mo_digits_54 : decode b_Mo_digits 54 = .ok (.bipush 6, 2) := by decide +kernel
theorem d_Mo_digits_56 : decode b_Mo_digits 56 = .ok (.if_icmp .ne 7, 3) := by decide +kernel
theorem d_Mo_digits_59 : decode b_Mo_digits 59 = .ok (.iconst (-1), 1) := by decide +kernel
theorem d_Mo_digits_60 : decode b_Mo_digits 60 = .ok (.goto 4, 3) := by decide +kernel
theorem d_Mo_digits_63 : decode b_Mo_digits 63 = .ok (.iload_n 2, 1) := by decide +kernel
theorem d_Mo_digits_64 : decode b_Mo_digits 64 = .ok (.ireturn, 1) := by decide +kernel
def f_Mo_digits_46 (F4 : (Int32 → Int32 → St → Int32 × St)) (x1 : Int32) (x2 : Int32) (σ : St) : Int32 × St := F4 x1 x2 σ
def k_Mo_digits_46 (K4 : (Int32 → Int32 → St → Prop)) (x1 : Int32) (x2 : Int32) (σ : St) : Prop := K4 x1 x2 σ
def f_Mo_digits_33 (F4 : (Int32 → Int32 → St → Int32 × St)) (x1 : Int32) (x2 : Int32) (σ : St) : Int32 × St := f_Mo_digits_46 F4 (x1 + 1) x2 (sF σ 0 32 ((σ.1 0 32) + 1))
def k_Mo_digits_33 (K4 : (Int32 → Int32 → St → Prop)) (x1 : Int32) (x2 : Int32) (σ : St) : Prop := k_Mo_digits_46 K4 (x1 + 1) x2 (sF σ 0 32 ((σ.1 0 32) + 1))
def f_Mo_digits_64 (s0 : Int32) (σ : St) : Int32 × St := (s0, σ)
def k_Mo_digits_64 (s0 : Int32) (σ : St) : Prop := True
def f_Mo_digits_59 (σ : St) : Int32 × St := f_Mo_digits_64 (-1) σ
def k_Mo_digits_59 (σ : St) : Prop := k_Mo_digits_64 (-1) σ
def f_Mo_digits_49 (x1 : Int32) (x2 : Int32) (σ : St) : Int32 × St := if x1 = 0 then (f_Mo_digits_59 σ) else (if x1 = 6 then (f_Mo_digits_59 σ) else (f_Mo_digits_64 x2 σ))
def k_Mo_digits_49 (x1 : Int32) (x2 : Int32) (σ : St) : Prop := (x1 = 0 → (k_Mo_digits_59 σ)) ∧ (¬ x1 = 0 → ((x1 = 6 → (k_Mo_digits_59 σ)) ∧ (¬ x1 = 6 → (k_Mo_digits_64 x2 σ))))
def f_Mo_digits_4 : Nat → Int32 → Int32 → St → Int32 × St
  | 0, _, _, σ => (0, σ)
  | n + 1, x1, x2, σ => if (f_Mo_digit (f_Mo_peek σ) σ) = 0 then (f_Mo_digits_49 x1 x2 σ) else (if 6 ≤ x1 then (f_Mo_digits_49 x1 x2 σ) else (f_Mo_digits_33 (f_Mo_digits_4 n) x1 (((10 * x2) + (f_Mo_peek σ)) - 48) σ))
def k_Mo_digits_4 : Nat → Int32 → Int32 → St → Prop
  | 0, _, _, _ => False
  | n + 1, x1, x2, σ => (k_Mo_peek σ) ∧ ((k_Mo_digit (f_Mo_peek σ) σ) ∧ (((f_Mo_digit (f_Mo_peek σ) σ) = 0 → (k_Mo_digits_49 x1 x2 σ)) ∧ (¬ (f_Mo_digit (f_Mo_peek σ) σ) = 0 → ((6 ≤ x1 → (k_Mo_digits_49 x1 x2 σ)) ∧ (¬ 6 ≤ x1 → ((k_Mo_peek σ) ∧ (k_Mo_digits_33 (k_Mo_digits_4 n) x1 (((10 * x2) + (f_Mo_peek σ)) - 48) σ)))))))
def f_Mo_digits (σ : St) : Int32 × St := f_Mo_digits_4 1000 0 0 σ
def k_Mo_digits (σ : St) : Prop := k_Mo_digits_4 1000 0 0 σ
abbrev w_Mo_digits : List Cond := Cond.code y_Mo_digits b_Mo_digits 3 (some .int) :: gw
abbrev rm_Mo_digits : Room := { frames := 1, cells := 0, slots := 0, locals := 20 }
set_option maxHeartbeats 4000000 in
set_option maxRecDepth 100000 in
theorem c_Mo_digits (l : Launch) (D : va_G) (ty : Nat → ClassId) (h : Nat → Nat) (px : va_W) (sa : Nat → Nat) (σ : St) (sz : Nat) (hk : k_Mo_digits σ) : Met l y_Mo_digits w_Mo_digits rm_Mo_digits (va_Pc [.ref (h 0)] (fun U => U.heap.size = sz ∧ va_P D classes (Wm ty h σ px) U.heap ∧ va_K D classes (Ta ty) U ∧ NW U ∧ MK sa (va_A (Wm ty h σ px) sz) U U.heap ∧ va_D (fun _ => True) (Wm ty h σ px))) (va_Qi (fun r (u : St) => (r, u) = f_Mo_digits σ) (fun u t => va_P D classes (Wm ty h u px) t.heap) (va_A (Wm ty h σ px) sz)) 0 0 (va_A (Wm ty h σ px) sz) := by
  refine Met.ofW (cc := b_Mo_digits) (maxL := 3) (ret := (some .int)) (by decide) rfl ?_
  intro p e s m args below meth c s₁ B hml hv
  obtain ⟨ha, hsz, hP, hK, hN, hM, hD0⟩ := hv
  have hx := B.exec
  have hb := B.bytes
  have hr := B.returns
  have hg : ∀ w ∈ gw, w.before args s = true := fun w h9 => atoms_spec (ws := w_Mo_digits) B.pre w (List.mem_cons_of_mem _ h9)
  have hown : s.vm.findClass "ClauseLedgerModel" = some m.cls := findClass_of_methodNamed B.named
  have hlocks := B.notSynchronized
  subst hsz
  have hD := hD0.self (sz := s.heap.size)
  generalize hAe : va_A (Wm ty h σ px) s.heap.size = A at hD hM ⊢
  have hA : ∀ q : Nat, s.heap.size ≤ q → A q := fun q h9 => by rw [← hAe]; exact Or.inr h9
  have hS : va_S A s.heap s.heap [] := va_S.rf
  have he : entryFrame m args 3 = entryFrame m ([.ref (h 0)] : List Value).toArray 3 := by rw [ha]
  rw [he, lg_entry_eq]
  have hl := lv_entry ([.ref (h 0)]) (n := 3) (Nat.le_of_ble_eq_true rfl)
  generalize (lg_sl ([.ref (h 0)]) ++ List.replicate (3 - (lg_sl ([.ref (h 0)])).length) Slot.unset).toArray = ls at hl ⊢
  have hl : lv_has ls 3 [(0, .ref (h 0))] := hl
  generalize hv : f_Mo_digits σ = v
  replace hv := hv.symm
  have B64 : ∀ (H : Heap) (locs : List Loc) (ls : Array Slot) (s0 : Int32) (σ : St), v = f_Mo_digits_64 s0 σ → k_Mo_digits_64 s0 σ → lv_has ls 3 [] → va_P D classes (Wm ty h σ px) H → va_D A (Wm ty h σ px) → va_S A s.heap H locs → W p l e (headSpec w_Mo_digits rm_Mo_digits).room s m args below meth c H locs 0 0 (MQ below (va_Qi (fun r (u : St) => (r, u) = v) (fun u t => va_P D classes (Wm ty h u px) t.heap) A) args s 0 0 A) (F0 m 64 ls [.int s0]) := by
    intro H locs ls s0 σ hv hk hl hP hD hS
    unfold f_Mo_digits_64 at hv
    unfold k_Mo_digits_64 at hk
    exact W.iret hx hb hr (fun t ht hW => ⟨⟨_, _, rfl, hv.symm, by dsimp only; rw [ht]; exact hP⟩, hS.F ht⟩) hS.2.2 d_Mo_digits_64
  have B59 : ∀ (H : Heap) (locs : List Loc) (ls : Array Slot) (σ : St), v = f_Mo_digits_59 σ → k_Mo_digits_59 σ → lv_has ls 3 [] → va_P D classes (Wm ty h σ px) H → va_D A (Wm ty h σ px) → va_S A s.heap H locs → W p l e (headSpec w_Mo_digits rm_Mo_digits).room s m args below meth c H locs 0 0 (MQ below (va_Qi (fun r (u : St) => (r, u) = v) (fun u t => va_P D classes (Wm ty h u px) t.heap) A) args s 0 0 A) (F0 m 59 ls []) := by
    intro H locs ls σ hv hk hl hP hD hS
    unfold f_Mo_digits_59 at hv
    unfold k_Mo_digits_59 at hk
    refine lv_iconst (v := -1) hx hb d_Mo_digits_59 (by decide) ?_
    refine lv_goto (tgt := 64) hx hb d_Mo_digits_60 (by decide) ?_
    exact B64 _ _ _ (-1) σ hv hk (lv_sub hl [] rfl) hP hD hS
  have B49 : ∀ (H : Heap) (locs : List Loc) (ls : Array Slot) (x1 : Int32) (x2 : Int32) (σ : St), v = f_Mo_digits_49 x1 x2 σ → k_Mo_digits_49 x1 x2 σ → lv_has ls 3 [(1, .int x1), (2, .int x2)] → va_P D classes (Wm ty h σ px) H → va_D A (Wm ty h σ px) → va_S A s.heap H locs → W p l e (headSpec w_Mo_digits rm_Mo_digits).room s m args below meth c H locs 0 0 (MQ below (va_Qi (fun r (u : St) => (r, u) = v) (fun u t => va_P D classes (Wm ty h u px) t.heap) A) args s 0 0 A) (F0 m 49 ls []) := by
    intro H locs ls x1 x2 σ hv hk hl hP hD hS
    unfold f_Mo_digits_49 at hv
    unfold k_Mo_digits_49 at hk
    refine lv_iload_n hx hb d_Mo_digits_49 rfl (lv_at hl 0 rfl) ?_
    refine lv_if_eq (tgt := 59) hx hb d_Mo_digits_50 (by decide) (fun hc => ?_) (fun hc => ?_)
    · have hv := hv.trans (if_pos hc)
      have hk := hk.1 hc
      exact B59 _ _ _  σ hv hk (lv_sub hl [] rfl) hP hD hS
    · have hv := hv.trans (if_neg hc)
      have hk := hk.2 hc
      refine lv_iload_n hx hb d_Mo_digits_53 rfl (lv_at hl 0 rfl) ?_
      refine lv_bipush (v := 6) hx hb d_Mo_digits_54 (by decide) ?_
      refine lv_icmp_ne (tgt := 63) hx hb d_Mo_digits_56 (by decide) (fun hc => ?_) (fun hc => ?_)
      · have hv := hv.trans (if_neg hc)
        have hk := hk.2 hc
        refine lv_iload_n hx hb d_Mo_digits_63 rfl (lv_at hl 1 rfl) ?_
        exact B64 _ _ _ x2 σ hv hk (lv_sub hl [] rfl) hP hD hS
      · have hv := hv.trans (if_pos hc)
        have hk := hk.1 hc
        exact B59 _ _ _  σ hv hk (lv_sub hl [] rfl) hP hD hS
  have B4 : ∀ (n4 : Nat) (H : Heap) (locs : List Loc) (ls : Array Slot) (x1 : Int32) (x2 : Int32) (σ : St), v = f_Mo_digits_4 n4 x1 x2 σ → k_Mo_digits_4 n4 x1 x2 σ → lv_has ls 3 [(0, .ref (h 0)), (1, .int x1), (2, .int x2)] → va_P D classes (Wm ty h σ px) H → va_D A (Wm ty h σ px) → va_S A s.heap H locs → W p l e (headSpec w_Mo_digits rm_Mo_digits).room s m args below meth c H locs 0 0 (MQ below (va_Qi (fun r (u : St) => (r, u) = v) (fun u t => va_P D classes (Wm ty h u px) t.heap) A) args s 0 0 A) (F0 m 4 ls []) := by
    intro n4
    induction n4 with
    | zero => intro H locs ls x1 x2 σ hv hk hl hP hD hS; exact hk.elim
    | succ n4 ih4 =>
      have B46 : ∀ (H : Heap) (locs : List Loc) (ls : Array Slot) (x1 : Int32) (x2 : Int32) (σ : St), v = f_Mo_digits_46 (f_Mo_digits_4 n4) x1 x2 σ → k_Mo_digits_46 (k_Mo_digits_4 n4) x1 x2 σ → lv_has ls 3 [(0, .ref (h 0)), (1, .int x1), (2, .int x2)] → va_P D classes (Wm ty h σ px) H → va_D A (Wm ty h σ px) → va_S A s.heap H locs → W p l e (headSpec w_Mo_digits rm_Mo_digits).room s m args below meth c H locs 0 0 (MQ below (va_Qi (fun r (u : St) => (r, u) = v) (fun u t => va_P D classes (Wm ty h u px) t.heap) A) args s 0 0 A) (F0 m 46 ls []) := by
        intro H locs ls x1 x2 σ hv hk hl hP hD hS
        unfold f_Mo_digits_46 at hv
        unfold k_Mo_digits_46 at hk
        refine lv_goto (tgt := 4) hx hb d_Mo_digits_46 (by decide) ?_
        exact ih4 _ _ _ x1 x2 σ hv hk (lv_sub hl [0, 1, 2] rfl) hP hD hS
      have B33 : ∀ (H : Heap) (locs : List Loc) (ls : Array Slot) (x1 : Int32) (x2 : Int32) (σ : St), v = f_Mo_digits_33 (f_Mo_digits_4 n4) x1 x2 σ → k_Mo_digits_33 (k_Mo_digits_4 n4) x1 x2 σ → lv_has ls 3 [(0, .ref (h 0)), (1, .int x1), (2, .int x2)] → va_P D classes (Wm ty h σ px) H → va_D A (Wm ty h σ px) → va_S A s.heap H locs → W p l e (headSpec w_Mo_digits rm_Mo_digits).room s m args below meth c H locs 0 0 (MQ below (va_Qi (fun r (u : St) => (r, u) = v) (fun u t => va_P D classes (Wm ty h u px) t.heap) A) args s 0 0 A) (F0 m 33 ls []) := by
        intro H locs ls x1 x2 σ hv hk hl hP hD hS
        unfold f_Mo_digits_33 at hv
        unfold k_Mo_digits_33 at hk
        refine lv_iinc (k := 1) (v := x1 + 1) (lv' := [(1, .int (x1 + 1)), (0, .ref (h 0)), (2, .int x2)]) hx hb d_Mo_digits_33 hl rfl (by first | rfl | simp [lit1, litm1]) (by decide) rfl (fun ls hl => ?_)
        refine lv_aload_n hx hb d_Mo_digits_36 rfl (lv_at hl 1 rfl) ?_
        refine lv_dup hx hb d_Mo_digits_37 rfl ?_
        refine va_get (v := .int (σ.1 0 32)) (C := R_Mo) (T := T_Mo) (N := 51) hx hb hg in_Mo hown hK hP 0 rfl rfl 32 (by decide) (hg _ m_1291) (fun _ h9 => h9) rfl d_Mo_digits_38 ?_
        refine lv_iconst (v := 1) hx hb d_Mo_digits_41 (by decide) ?_
        refine lv_iadd hx hb d_Mo_digits_42 ?_
        refine va_put (v := .int ((σ.1 0 32) + 1)) (ty := .int) (C := R_Mo) (T := T_Mo) (N := 51) hx hb hg in_Mo ty_Mo ok_Mo nm_Mo hown hK hP hD hS 0 rfl rfl 32 (by decide) (hg _ m_1291) (fun _ h9 => h9) rfl (by decide +kernel) rfl rfl (Nat.le_of_ble_eq_true rfl) d_Mo_digits_43 (fun H locs hP hD hS => ?_)
        have hP : va_P D classes (Wm ty h (sF σ 0 32 ((σ.1 0 32) + 1)) px) H := hP
        have hD : va_D A (Wm ty h (sF σ 0 32 ((σ.1 0 32) + 1)) px) := hD
        exact B46 _ _ _ (x1 + 1) x2 (sF σ 0 32 ((σ.1 0 32) + 1)) hv hk (lv_sub hl [1, 0, 2] rfl) hP hD hS
      intro H locs ls x1 x2 σ hv hk hl hP hD hS
      rw [f_Mo_digits_4] at hv
      rw [k_Mo_digits_4] at hk
      refine lv_aload_n hx hb d_Mo_digits_4 rfl (lv_at hl 0 rfl) ?_
      obtain ⟨hk0, hk⟩ := hk
      refine zz_callV (va_runV (As := []) (rest := []) ⟨hx, hb, hml, hown, hg⟩ (c_Mo_peek l D ty h px sa σ  hk0) ⟨callB_of 0 hg (gw_C m_1451) rfl rfl rfl (hg _ m_13) (hg _ m_1448) hd_Mo_peek ⟨Nat.le_of_ble_eq_true rfl, Nat.le_of_ble_eq_true rfl⟩, hg _ m_1450, hg _ ms_51⟩ (zz_preV (hM.at hS) hN hK hP 0 rfl rfl) rfl rfl hl.1 rfl (lv_room (Nat.le_of_ble_eq_true rfl)) d_Mo_digits_5 ⟨Nat.le_of_ble_eq_true rfl, Nat.le_of_ble_eq_true rfl⟩) ?_
      obtain ⟨hk0, hk⟩ := hk
      refine zz_callV (va_runS (As := [.int (f_Mo_peek σ)]) (rest := []) ⟨hx, hb, hml, hown, hg⟩ (c_Mo_digit l D ty h px sa σ (f_Mo_peek σ) hk0) ⟨callB_of 1 hg (gw_C m_1469) rfl rfl rfl (hg _ m_13) (hg _ m_1467) hd_Mo_digit ⟨Nat.le_of_ble_eq_true rfl, Nat.le_of_ble_eq_true rfl⟩, hg _ m_1468⟩ (zz_preS (hM.at hS) hN hK hP) rfl rfl hl.1 rfl (lv_room (Nat.le_of_ble_eq_true rfl)) d_Mo_digits_8 ⟨Nat.le_of_ble_eq_true rfl, Nat.le_of_ble_eq_true rfl⟩) ?_
      refine lv_if_eq (tgt := 49) hx hb d_Mo_digits_11 (by decide) (fun hc => ?_) (fun hc => ?_)
      · have hv := hv.trans (if_pos hc)
        have hk := hk.1 hc
        exact B49 _ _ _ x1 x2 σ hv hk (lv_sub hl [1, 2] rfl) hP hD hS
      · have hv := hv.trans (if_neg hc)
        have hk := hk.2 hc
        refine lv_iload_n hx hb d_Mo_digits_14 rfl (lv_at hl 1 rfl) ?_
        refine lv_bipush (v := 6) hx hb d_Mo_digits_15 (by decide) ?_
        refine lv_icmp_ge (tgt := 49) hx hb d_Mo_digits_17 (by decide) (fun hc => ?_) (fun hc => ?_)
        · have hv := hv.trans (if_pos hc)
          have hk := hk.1 hc
          exact B49 _ _ _ x1 x2 σ hv hk (lv_sub hl [1, 2] rfl) hP hD hS
        · have hv := hv.trans (if_neg hc)
          have hk := hk.2 hc
          refine lv_bipush (v := 10) hx hb d_Mo_digits_20 (by decide) ?_
          refine lv_iload_n hx hb d_Mo_digits_22 rfl (lv_at hl 2 rfl) ?_
          refine lv_imul hx hb d_Mo_digits_23 ?_
          refine lv_aload_n hx hb d_Mo_digits_24 rfl (lv_at hl 0 rfl) ?_
          obtain ⟨hk0, hk⟩ := hk
          refine zz_callV (va_runV (As := []) (rest := [.int (10 * x2)]) ⟨hx, hb, hml, hown, hg⟩ (c_Mo_peek l D ty h px sa σ  hk0) ⟨callB_of 0 hg (gw_C m_1451) rfl rfl rfl (hg _ m_13) (hg _ m_1448) hd_Mo_peek ⟨Nat.le_of_ble_eq_true rfl, Nat.le_of_ble_eq_true rfl⟩, hg _ m_1450, hg _ ms_51⟩ (zz_preV (hM.at hS) hN hK hP 0 rfl rfl) rfl rfl hl.1 rfl (lv_room (Nat.le_of_ble_eq_true rfl)) d_Mo_digits_25 ⟨Nat.le_of_ble_eq_true rfl, Nat.le_of_ble_eq_true rfl⟩) ?_
          refine lv_iadd hx hb d_Mo_digits_28 ?_
          refine lv_bipush (v := 48) hx hb d_Mo_digits_29 (by decide) ?_
          refine lv_isub hx hb d_Mo_digits_31 ?_
          refine lv_istore_n (lv' := [(2, .int (((10 * x2) + (f_Mo_peek σ)) - 48)), (0, .ref (h 0)), (1, .int x1)]) hx hb d_Mo_digits_32 rfl hl (by decide) rfl (fun ls hl => ?_)
          exact B33 _ _ _ x1 (((10 * x2) + (f_Mo_peek σ)) - 48) σ hv hk (lv_sub hl [1, 2, 0] rfl) hP hD hS
  unfold f_Mo_digits at hv
  unfold k_Mo_digits at hk
  refine lv_iconst (v := 0) hx hb d_Mo_digits_0 (by decide) ?_
  refine lv_istore_n (lv' := [(1, .int 0), (0, .ref (h 0))]) hx hb d_Mo_digits_1 rfl hl (by decide) rfl (fun ls hl => ?_)
  refine lv_iconst (v := 0) hx hb d_Mo_digits_2 (by decide) ?_
  refine lv_istore_n (lv' := [(2, .int 0), (1, .int 0), (0, .ref (h 0))]) hx hb d_Mo_digits_3 rfl hl (by decide) rfl (fun ls hl => ?_)
  exact B4 1000 _ _ _ 0 0 σ hv hk (lv_sub hl [2, 1, 0] rfl) hP hD hS

-- ClauseLedgerModel.common(II)I
abbrev b_Mo_common : ByteArray := prog_14_method_20_code
def y_Mo_common : MethodName := ⟨"ClauseLedgerModel", "common", "(II)I"⟩
theorem hd_Mo_common : y_Mo_common.cls ≠ "java/lang/invoke/MethodHandle" ∧ y_Mo_common.cls ≠ "java/lang/invoke/VarHandle" ∧ (parseMethodDescriptor y_Mo_common.desc).map (fun d => d.parameters.length) = some 2 := by decide +kernel
theorem d_Mo_common_0 : decode b_Mo_common 0 = .ok (.iload_n 0, 1) := by decide +kernel
theorem d_Mo_common_1 : decode b_Mo_common 1 = .ok (.istore_n 2, 1) := by decide +kernel
theorem d_Mo_common_2 : decode b_Mo_common 2 = .ok (.iload_n 1, 1) := by decide +kernel
theorem d_Mo_common_3 : decode b_Mo_common 3 = .ok (.istore_n 3, 1) := by decide +kernel
theorem d_Mo_common_4 : decode b_Mo_common 4 = .ok (.iload_n 3, 1) := by decide +kernel
theorem d_Mo_common_5 : decode b_Mo_common 5 = .ok (.ifCond .eq 16, 3) := by decide +kernel
theorem d_Mo_common_8 : decode b_Mo_common 8 = .ok (.iload_n 2, 1) := by decide +kernel
theorem d_Mo_common_9 : decode b_Mo_common 9 = .ok (.iload_n 3, 1) := by decide +kernel
theorem d_Mo_common_10 : decode b_Mo_common 10 = .ok (.irem, 1) := by decide +kernel
theorem d_Mo_common_11 : decode b_Mo_common 11 = .ok (.istore 4, 2) := by decide +kernel
theorem d_Mo_common_13 : decode b_Mo_common 13 = .ok (.iload_n 3, 1) := by decide +kernel
theorem d_Mo_common_14 : decode b_Mo_common 14 = .ok (.istore_n 2, 1) := by decide +kernel
theorem d_Mo_common_15 : decode b_Mo_common 15 = .ok (.iload 4, 2) := by decide +kernel
theorem d_Mo_common_17 : decode b_Mo_common 17 = .ok (.istore_n 3, 1) := by decide +kernel
theorem d_Mo_common_18 : decode b_Mo_common 18 = .ok (.goto (-14), 3) := by decide +kernel
theorem d_Mo_common_21 : decode b_Mo_common 21 = .ok (.iload_n 2, 1) := by decide +kernel
theorem d_Mo_common_22 : decode b_Mo_common 22 = .ok (.ireturn, 1) := by decide +kernel
def f_Mo_common_4 : Nat → Int32 → Int32 → St → Int32
  | 0, _, _, σ => 0
  | n + 1, x2, x3, σ => if x3 = 0 then x2 else ((f_Mo_common_4 n) x3 (x2 - x2 / x3 * x3) σ)
def k_Mo_common_4 : Nat → Int32 → Int32 → St → Prop
  | 0, _, _, _ => False
  | n + 1, x2, x3, σ => (x3 = 0 → True) ∧ (¬ x3 = 0 → ((¬ (x3 : Int32) = 0) ∧ ((k_Mo_common_4 n) x3 (x2 - x2 / x3 * x3) σ)))
def f_Mo_common (a0 : Int32) (a1 : Int32) (σ : St) : Int32 := f_Mo_common_4 1000 a0 a1 σ
def k_Mo_common (a0 : Int32) (a1 : Int32) (σ : St) : Prop := k_Mo_common_4 1000 a0 a1 σ
abbrev w_Mo_common : List Cond := Cond.code y_Mo_common b_Mo_common 5 (some .int) :: gw
abbrev rm_Mo_common : Room := { frames := 0, cells := 0, slots := 0, locals := 0 }
set_option maxHeartbeats 4000000 in
set_option maxRecDepth 100000 in
theorem c_Mo_common (l : Launch) (D : va_G) (ty : Nat → ClassId) (h : Nat → Nat) (px : va_W) (sa : Nat → Nat) (σ : St) (a0 : Int32) (a1 : Int32) (hk : k_Mo_common a0 a1 σ) : Met l y_Mo_common w_Mo_common rm_Mo_common (va_Pc [.int a0, .int a1] (fun U => va_P D classes (Wm ty h σ px) U.heap ∧ va_K D classes (Ta ty) U ∧ NW U ∧ MK sa (fun _ => False) U U.heap)) (k2_QcV (.int (f_Mo_common a0 a1 σ))) 0 0 (fun _ => False) := by
  refine Met.ofW (cc := b_Mo_common) (maxL := 5) (ret := (some .int)) (by decide) rfl ?_
  intro p e s m args below meth c s₁ B hml hv
  obtain ⟨ha, hP, hK, hN, hM⟩ := hv
  have hx := B.exec
  have hb := B.bytes
  have hr := B.returns
  have hg : ∀ w ∈ gw, w.before args s = true := fun w h9 => atoms_spec (ws := w_Mo_common) B.pre w (List.mem_cons_of_mem _ h9)
  have hown : s.vm.findClass "ClauseLedgerModel" = some m.cls := findClass_of_methodNamed B.named
  have hlocks := B.notSynchronized
  have he : entryFrame m args 5 = entryFrame m ([.int a0, .int a1] : List Value).toArray 5 := by rw [ha]
  rw [he, lg_entry_eq]
  have hl := lv_entry ([.int a0, .int a1]) (n := 5) (Nat.le_of_ble_eq_true rfl)
  generalize (lg_sl ([.int a0, .int a1]) ++ List.replicate (5 - (lg_sl ([.int a0, .int a1])).length) Slot.unset).toArray = ls at hl ⊢
  have hl : lv_has ls 5 [(0, .int a0), (1, .int a1)] := hl
  generalize hv : f_Mo_common a0 a1 σ = v
  replace hv := hv.symm
  have B4 : ∀ (n4 : Nat) (ls : Array Slot) (x2 : Int32) (x3 : Int32), v = f_Mo_common_4 n4 x2 x3 σ → k_Mo_common_4 n4 x2 x3 σ → lv_has ls 5 [(2, .int x2), (3, .int x3)] → W p l e (headSpec w_Mo_common rm_Mo_common).room s m args below meth c s.heap [] 0 0 (MQ below (k2_QcV (.int v)) args s 0 0 (fun _ => False)) (F0 m 4 ls []) := by
    intro n4
    induction n4 with
    | zero => intro ls x2 x3 hv hk hl; exact hk.elim
    | succ n4 ih4 =>
      intro ls x2 x3 hv hk hl
      rw [f_Mo_common_4] at hv
      rw [k_Mo_common_4] at hk
      refine lv_iload_n hx hb d_Mo_common_4 rfl (lv_at hl 1 rfl) ?_
      refine lv_if_eq (tgt := 21) hx hb d_Mo_common_5 (by decide) (fun hc => ?_) (fun hc => ?_)
      · have hv := hv.trans (if_pos hc)
        have hk := hk.1 hc
        refine lv_iload_n hx hb d_Mo_common_21 rfl (lv_at hl 0 rfl) ?_
        exact W.iret hx hb hr (fun t ht hW => ⟨by rw [hv], ht⟩) (fun q h => nomatch h) d_Mo_common_22
      · have hv := hv.trans (if_neg hc)
        have hk := hk.2 hc
        refine lv_iload_n hx hb d_Mo_common_8 rfl (lv_at hl 0 rfl) ?_
        refine lv_iload_n hx hb d_Mo_common_9 rfl (lv_at hl 1 rfl) ?_
        obtain ⟨hk0, hk⟩ := hk
        refine lv_irem hx hb d_Mo_common_10 hk0 ?_
        refine lv_istore (lv' := [(4, .int (x2 - x2 / x3 * x3)), (2, .int x2), (3, .int x3)]) hx hb d_Mo_common_11 hl (by decide) rfl (fun ls hl => ?_)
        refine lv_iload_n hx hb d_Mo_common_13 rfl (lv_at hl 2 rfl) ?_
        refine lv_istore_n (lv' := [(2, .int x3), (4, .int (x2 - x2 / x3 * x3)), (3, .int x3)]) hx hb d_Mo_common_14 rfl hl (by decide) rfl (fun ls hl => ?_)
        refine lv_iload hx hb d_Mo_common_15 (lv_at hl 1 rfl) ?_
        refine lv_istore_n (lv' := [(3, .int (x2 - x2 / x3 * x3)), (2, .int x3), (4, .int (x2 - x2 / x3 * x3))]) hx hb d_Mo_common_17 rfl hl (by decide) rfl (fun ls hl => ?_)
        refine lv_goto (tgt := 4) hx hb d_Mo_common_18 (by decide) ?_
        exact ih4 _ x3 (x2 - x2 / x3 * x3) hv hk (lv_sub hl [1, 0] rfl)
  unfold f_Mo_common at hv
  unfold k_Mo_common at hk
  refine lv_iload_n hx hb d_Mo_common_0 rfl (lv_at hl 0 rfl) ?_
  refine lv_istore_n (lv' := [(2, .int a0), (0, .int a0), (1, .int a1)]) hx hb d_Mo_common_1 rfl hl (by decide) rfl (fun ls hl => ?_)
  refine lv_iload_n hx hb d_Mo_common_2 rfl (lv_at hl 2 rfl) ?_
  refine lv_istore_n (lv' := [(3, .int a1), (2, .int a0), (0, .int a0), (1, .int a1)]) hx hb d_Mo_common_3 rfl hl (by decide) rfl (fun ls hl => ?_)
  exact B4 1000 _ a0 a1 hv hk (lv_sub hl [1, 0] rfl)

-- ClauseLedgerModel.readConstant()I
abbrev b_Mo_readConstant : ByteArray := prog_14_method_21_code
def y_Mo_readConstant : MethodName := ⟨"ClauseLedgerModel", "readConstant", "()I"⟩
theorem hd_Mo_readConstant : y_Mo_readConstant.cls ≠ "java/lang/invoke/MethodHandle" ∧ y_Mo_readConstant.cls ≠ "java/lang/invoke/VarHandle" ∧ (parseMethodDescriptor y_Mo_readConstant.desc).map (fun d => d.parameters.length) = some 0 := by decide +kernel
theorem d_Mo_readConstant_0 : decode b_Mo_readConstant 0 = .ok (.aload_n 0, 1) := by decide +kernel
theorem d_Mo_readConstant_1 : decode b_Mo_readConstant 1 = .ok (.invokevirtual 152, 3) := by decide +kernel
theorem d_Mo_readConstant_4 : decode b_Mo_readConstant 4 = .ok (.bipush 45, 2) := by decide +kernel
theorem d_Mo_readConstant_6 : decode b_Mo_readConstant 6 = .ok (.if_icmp .ne 7, 3) := by decide +kernel
theorem d_Mo_readConstant_9 : decode b_Mo_readConstant 9 = .ok (.iconst 1, 1) := by decide +kernel
theorem d_Mo_readConstant_10 : decode b_Mo_readConstant 10 = .ok (.goto 4, 3) := by decide +kernel
theorem d_Mo_readConstant_13 : decode b_Mo_readConstant 13 = .ok (.iconst 0, 1) := by decide +kernel
theorem d_Mo_readConstant_14 : decode b_Mo_readConstant 14 = .ok (.istore_n 1, 1) := by decide +kernel
theorem d_Mo_readConstant_15 : decode b_Mo_readConstant 15 = .ok (.aload_n 0, 1) := by decide +kernel
theorem d_Mo_readConstant_16 : decode b_Mo_readConstant 16 = .ok (.dup, 1) := by decide +kernel
theorem d_Mo_readConstant_17 : decode b_Mo_readConstant 17 = .ok (.getfield 149, 3) := by decide +kernel
theorem d_Mo_readConstant_20 : decode b_Mo_readConstant 20 = .ok (.iload_n 1, 1) := by decide +kernel
theorem d_Mo_readConstant_21 : decode b_Mo_readConstant 21 = .ok (.ifCond .eq 7, 3) := by decide +kernel
theorem d_Mo_readConstant_24 : decode b_Mo_readConstant 24 = .ok (.iconst 1, 1) := by decide +kernel
theorem d_Mo_readConstant_25 : decode b_Mo_readConstant 25 = .ok (.goto 4, 3) := by decide +kernel
theorem d_Mo_readConstant_28 : decode b_Mo_readConstant 28 = .ok (.iconst 0, 1) := by decide +kernel
theorem d_Mo_readConstant_29 : decode b_Mo_readConstant 29 = .ok (.iadd, 1) := by decide +kernel
theorem d_Mo_readConstant_30 : decode b_Mo_readConstant 30 = .ok (.putfield 149, 3) := by decide +kernel
theorem d_Mo_readConstant_33 : decode b_Mo_readConstant 33 = .ok (.aload_n 0, 1) := by decide +kernel
theorem d_Mo_readConstant_34 : decode b_Mo_readConstant 34 = .ok (.invokevirtual 160, 3) := by decide +kernel
theorem d_Mo_readConstant_37 : decode b_Mo_readConstant 37 = .ok (.istore_n 2, 1) := by decide +kernel
theorem d_Mo_readConstant_38 : decode b_Mo_readConstant 38 = .ok (.iconst 1, 1) := by decide +kernel
theorem d_Mo_readConstant_39 : decode b_Mo_readConstant 39 = .ok (.istore_n 3, 1) := by decide +kernel
theorem d_Mo_readConstant_40 : decode b_Mo_readConstant 40 = .ok (.aload_n 0, 1) := by decide +kernel
theorem d_Mo_readConstant_41 : decode b_Mo_readConstant 41 = .ok (.invokevirtual 152, 3) := by decide +kernel
theorem d_Mo_readConstant_44 : decode b_Mo_readConstant 44 = .ok (.bipush 47, 2) := by decide +kernel
theorem d_Mo_readConstant_46 : decode b_Mo_readConstant 46 = .ok (.if_icmp .ne 18, 3) := by decide +kernel
theorem d_Mo_readConstant_49 : decode b_Mo_readConstant 49 = .ok (.aload_n 0, 1) := by decide +kernel
theorem d_Mo_readConstant_50 : decode b_Mo_readConstant 50 = .ok (.dup, 1) := by decide +kernel
theorem d_Mo_readConstant_51 : decode b_Mo_readConstant 51 = .ok (.getfield 149, 3) := by decide +kernel
theorem d_Mo_readConstant_54 : decode b_Mo_readConstant 54 = .ok (.iconst 1, 1) := by decide +kernel
theorem d_Mo_readConstant_55 : decode b_Mo_readConstant 55 = .ok (.iadd, 1) := by decide +kernel
theorem d_Mo_readConstant_56 : decode b_Mo_readConstant 56 = .ok (.putfield 149, 3) := by decide +kernel
theorem d_Mo_readConstant_59 : decode b_Mo_readConstant 59 = .ok (.aload_n 0, 1) := by decide +kernel
theorem d_Mo_readConstant_60 : decode b_Mo_readConstant 60 = .ok (.invokevirtual 160, 3) := by decide +kernel
theorem d_Mo_readConstant_63 : decode b_Mo_readConstant 63 = .ok (.istore_n 3, 1) := by decide +kernel
theorem d_Mo_readConstant_64 : decode b_Mo_readConstant 64 = .ok (.iload_n 2, 1) := by decide +kernel
theorem d_Mo_readConstant_65 : decode b_Mo_readConstant 65 = .ok (.ifCond .lt 8, 3) := by decide +kernel
theorem d_Mo_readConstant_68 : decode b_Mo_readConstant 68 = .ok (.iload_n 3, 1) := by decide +kernel
theorem d_Mo_readConstant_69 : decode b_Mo_readConstant 69 = .ok (.iconst 1, 1) := by decide +kernel
theorem d_Mo_readConstant_70 : decode b_Mo_readConstant 70 = .ok (.if_icmp .ge 10, 3) := by decide +kernel
theorem d_Mo_readConstant_73 : decode b_Mo_readConstant 73 = .ok (.aload_n 0, 1) := by decide +kernel
theorem d_Mo_readConstant_74 : decode b_Mo_readConstant 74 = .ok (.iconst 1, 1) := by decide +kernel
theorem d_Mo_readConstant_75 : decode b_Mo_readConstant 75 = .ok (.putfield 163, 3) := by decide +kernel
theorem d_Mo_readConstant_78 : decode b_Mo_readConstant 78 = .ok (.iconst 0, 1) := by decide +kernel
theorem d_Mo_readConstant_79 : decode b_Mo_readConstant 79 = .ok (.ireturn, 1) := by decide +kernel
theorem d_Mo_readConstant_80 : decode b_Mo_readConstant 80 = .ok (.iload_n 3, 1) := by decide +kernel
theorem d_Mo_readConstant_81 : decode b_Mo_readConstant 81 = .ok (.iload_n 2, 1) := by decide +kernel
theorem d_Mo_readConstant_82 : decode b_Mo_readConstant 82 = .ok (.invokestatic 167, 3) := by decide +kernel
theorem d_Mo_readConstant_85 : decode b_Mo_readConstant 85 = .ok (.istore 4, 2) := by decide +kernel
theorem d_Mo_readConstant_87 : decode b_Mo_readConstant 87 = .ok (.aload_n 0, 1) := by decide +kernel
theorem d_Mo_readConstant_88 : decode b_Mo_readConstant 88 = .ok (.iconst 2, 1) := by decide +kernel
theorem d_Mo_readConstant_89 : decode b_Mo_readConstant 89 = .ok (.iconst 1, 1) := by decide +kernel
theorem d_Mo_readConstant_90 : decode b_Mo_readConstant 90 = .ok (.iconst (-1), 1) := by decide +kernel
theorem d_Mo_readConstant_91 : decode b_Mo_readConstant 91 = .ok (.iconst (-1), 1) := by decide +kernel
theorem d_Mo_readConstant_92 : decode b_Mo_readConstant 92 = .ok (.iconst (-1), 1) := by decide +kernel
theorem d_Mo_readConstant_93 : decode b_Mo_readConstant 93 = .ok (.iload_n 1, 1) := by decide +kernel
theorem d_Mo_readConstant_94 : decode b_Mo_readConstant 94 = .ok (.ifCond .eq 11, 3) := by decide +kernel
theorem d_Mo_readConstant_97 : decode b_Mo_readConstant 97 = .ok (.iload_n 2, 1) := by decide +kernel
theorem d_Mo_readConstant_98 : decode b_Mo_readConstant 98 = .ok (.ineg, 1) := by decide +kernel
theorem d_Mo_readConstant_99 : decode b_Mo_readConstant 99 = .ok (.iload 4, 2) := by decide +kernel
theorem d_Mo_readConstant_101 : decode b_Mo_readConstant 101 = .ok (.idiv, 1) := by decide +kernel
theorem d_Mo_readConstant_102 : decode b_Mo_readConstant 102 = .ok (.goto 7, 3) := by decide +kernel
theorem d_Mo_readConstant_105 : decode b_Mo_readConstant 105 = .ok (.iload_n 2, 1) := by decide +kernel
theorem d_Mo_readConstant_106 : decode b_Mo_readConstant 106 = .ok (.iload 4, 2) := by decide +kernel
theorem d_Mo_readConstant_108 : decode b_Mo_readConstant 108 = .ok (.idiv, 1) := by decide +kernel
theorem d_Mo_readConstant_109 : decode b_Mo_readConstant 109 = .ok (.iload_n 3, 1) := by decide +kernel
theorem d_Mo_readConstant_110 : decode b_Mo_readConstant 110 = .ok (.iload 4, 2) := by decide +kernel
theorem d_Mo_readConstant_112 : decode b_Mo_readConstant 112 = .ok (.idiv, 1) := by decide +kernel
theorem d_Mo_readConstant_113 : decode b_Mo_readConstant 113 = .ok (.invokevirtual 112, 3) := by decide +kernel
theorem d_Mo_readConstant_116 : decode b_Mo_readConstant 116 = .ok (.ireturn, 1) := by decide +kernel
def f_Mo_readConstant_78 (σ : St) : Int32 × St := (0, σ)
def k_Mo_readConstant_78 (σ : St) : Prop := True
def f_Mo_readConstant_73 (σ : St) : Int32 × St := f_Mo_readConstant_78 (sF σ 0 33 1)
def k_Mo_readConstant_73 (σ : St) : Prop := k_Mo_readConstant_78 (sF σ 0 33 1)
def f_Mo_readConstant_116 (s0 : Int32) (σ : St) : Int32 × St := (s0, σ)
def k_Mo_readConstant_116 (s0 : Int32) (σ : St) : Prop := True
def f_Mo_readConstant_109 (x3 : Int32) (x4 : Int32) (s0 : Int32) (s1 : Int32) (s2 : Int32) (s3 : Int32) (s4 : Int32) (s5 : Int32) (σ : St) : Int32 × St := f_Mo_readConstant_116 ((f_Mo_found s5 s4 s3 s2 s1 s0 (x3 / x4) σ).1) ((f_Mo_found s5 s4 s3 s2 s1 s0 (x3 / x4) σ).2)
def k_Mo_readConstant_109 (x3 : Int32) (x4 : Int32) (s0 : Int32) (s1 : Int32) (s2 : Int32) (s3 : Int32) (s4 : Int32) (s5 : Int32) (σ : St) : Prop := (¬ (x4 : Int32) = 0) ∧ ((k_Mo_found s5 s4 s3 s2 s1 s0 (x3 / x4) σ) ∧ (k_Mo_readConstant_116 ((f_Mo_found s5 s4 s3 s2 s1 s0 (x3 / x4) σ).1) ((f_Mo_found s5 s4 s3 s2 s1 s0 (x3 / x4) σ).2)))
def f_Mo_readConstant_87 (x1 : Int32) (x2 : Int32) (x3 : Int32) (x4 : Int32) (σ : St) : Int32 × St := if x1 = 0 then (f_Mo_readConstant_109 x3 x4 (x2 / x4) (-1) (-1) (-1) 1 2 σ) else (f_Mo_readConstant_109 x3 x4 ((-x2) / x4) (-1) (-1) (-1) 1 2 σ)
def k_Mo_readConstant_87 (x1 : Int32) (x2 : Int32) (x3 : Int32) (x4 : Int32) (σ : St) : Prop := (x1 = 0 → ((¬ (x4 : Int32) = 0) ∧ (k_Mo_readConstant_109 x3 x4 (x2 / x4) (-1) (-1) (-1) 1 2 σ))) ∧ (¬ x1 = 0 → ((¬ (x4 : Int32) = 0) ∧ (k_Mo_readConstant_109 x3 x4 ((-x2) / x4) (-1) (-1) (-1) 1 2 σ)))
def f_Mo_readConstant_64 (x1 : Int32) (x2 : Int32) (x3 : Int32) (σ : St) : Int32 × St := if x2 < 0 then (f_Mo_readConstant_73 σ) else (if 1 ≤ x3 then (f_Mo_readConstant_87 x1 x2 x3 (f_Mo_common x3 x2 σ) σ) else (f_Mo_readConstant_73 σ))
def k_Mo_readConstant_64 (x1 : Int32) (x2 : Int32) (x3 : Int32) (σ : St) : Prop := (x2 < 0 → (k_Mo_readConstant_73 σ)) ∧ (¬ x2 < 0 → ((1 ≤ x3 → ((k_Mo_common x3 x2 σ) ∧ (k_Mo_readConstant_87 x1 x2 x3 (f_Mo_common x3 x2 σ) σ))) ∧ (¬ 1 ≤ x3 → (k_Mo_readConstant_73 σ))))
def f_Mo_readConstant_63 (x1 : Int32) (x2 : Int32) (s0 : Int32) (σ : St) : Int32 × St := f_Mo_readConstant_64 x1 x2 s0 σ
def k_Mo_readConstant_63 (x1 : Int32) (x2 : Int32) (s0 : Int32) (σ : St) : Prop := k_Mo_readConstant_64 x1 x2 s0 σ
def f_Mo_readConstant_59 (x1 : Int32) (x2 : Int32) (σ : St) : Int32 × St := f_Mo_readConstant_63 x1 x2 ((f_Mo_digits σ).1) ((f_Mo_digits σ).2)
def k_Mo_readConstant_59 (x1 : Int32) (x2 : Int32) (σ : St) : Prop := (k_Mo_digits σ) ∧ (k_Mo_readConstant_63 x1 x2 ((f_Mo_digits σ).1) ((f_Mo_digits σ).2))
def f_Mo_readConstant_38 (x1 : Int32) (x2 : Int32) (σ : St) : Int32 × St := if (f_Mo_peek σ) = 47 then (f_Mo_readConstant_59 x1 x2 (sF σ 0 32 ((σ.1 0 32) + 1))) else (f_Mo_readConstant_64 x1 x2 1 σ)
def k_Mo_readConstant_38 (x1 : Int32) (x2 : Int32) (σ : St) : Prop := (k_Mo_peek σ) ∧ (((f_Mo_peek σ) = 47 → (k_Mo_readConstant_59 x1 x2 (sF σ 0 32 ((σ.1 0 32) + 1)))) ∧ (¬ (f_Mo_peek σ) = 47 → (k_Mo_readConstant_64 x1 x2 1 σ)))
def f_Mo_readConstant_37 (x1 : Int32) (s0 : Int32) (σ : St) : Int32 × St := f_Mo_readConstant_38 x1 s0 σ
def k_Mo_readConstant_37 (x1 : Int32) (s0 : Int32) (σ : St) : Prop := k_Mo_readConstant_38 x1 s0 σ
def f_Mo_readConstant_33 (x1 : Int32) (σ : St) : Int32 × St := f_Mo_readConstant_37 x1 ((f_Mo_digits σ).1) ((f_Mo_digits σ).2)
def k_Mo_readConstant_33 (x1 : Int32) (σ : St) : Prop := (k_Mo_digits σ) ∧ (k_Mo_readConstant_37 x1 ((f_Mo_digits σ).1) ((f_Mo_digits σ).2))
def f_Mo_readConstant_29 (x1 : Int32) (s0 : Int32) (s1 : Int32) (σ : St) : Int32 × St := f_Mo_readConstant_33 x1 (sF σ 0 32 (s1 + s0))
def k_Mo_readConstant_29 (x1 : Int32) (s0 : Int32) (s1 : Int32) (σ : St) : Prop := k_Mo_readConstant_33 x1 (sF σ 0 32 (s1 + s0))
def f_Mo_readConstant_14 (s0 : Int32) (σ : St) : Int32 × St := if s0 = 0 then (f_Mo_readConstant_29 s0 0 (σ.1 0 32) σ) else (f_Mo_readConstant_29 s0 1 (σ.1 0 32) σ)
def k_Mo_readConstant_14 (s0 : Int32) (σ : St) : Prop := (s0 = 0 → (k_Mo_readConstant_29 s0 0 (σ.1 0 32) σ)) ∧ (¬ s0 = 0 → (k_Mo_readConstant_29 s0 1 (σ.1 0 32) σ))
def f_Mo_readConstant (σ : St) : Int32 × St := if (f_Mo_peek σ) = 45 then (f_Mo_readConstant_14 1 σ) else (f_Mo_readConstant_14 0 σ)
def k_Mo_readConstant (σ : St) : Prop := (k_Mo_peek σ) ∧ (((f_Mo_peek σ) = 45 → (k_Mo_readConstant_14 1 σ)) ∧ (¬ (f_Mo_peek σ) = 45 → (k_Mo_readConstant_14 0 σ)))
abbrev w_Mo_readConstant : List Cond := Cond.code y_Mo_readConstant b_Mo_readConstant 5 (some .int) :: gw
abbrev rm_Mo_readConstant : Room := { frames := 2, cells := 0, slots := 0, locals := 42 }
set_option maxHeartbeats 4000000 in
set_option maxRecDepth 100000 in
theorem c_Mo_readConstant (l : Launch) (D : va_G) (ty : Nat → ClassId) (h : Nat → Nat) (px : va_W) (sa : Nat → Nat) (σ : St) (sz : Nat) (hk : k_Mo_readConstant σ) : Met l y_Mo_readConstant w_Mo_readConstant rm_Mo_readConstant (va_Pc [.ref (h 0)] (fun U => U.heap.size = sz ∧ va_P D classes (Wm ty h σ px) U.heap ∧ va_K D classes (Ta ty) U ∧ NW U ∧ MK sa (va_A (Wm ty h σ px) sz) U U.heap ∧ va_D (fun _ => True) (Wm ty h σ px))) (va_Qi (fun r (u : St) => (r, u) = f_Mo_readConstant σ) (fun u t => va_P D classes (Wm ty h u px) t.heap) (va_A (Wm ty h σ px) sz)) 0 0 (va_A (Wm ty h σ px) sz) := by
  refine Met.ofW (cc := b_Mo_readConstant) (maxL := 5) (ret := (some .int)) (by decide) rfl ?_
  intro p e s m args below meth c s₁ B hml hv
  obtain ⟨ha, hsz, hP, hK, hN, hM, hD0⟩ := hv
  have hx := B.exec
  have hb := B.bytes
  have hr := B.returns
  have hg : ∀ w ∈ gw, w.before args s = true := fun w h9 => atoms_spec (ws := w_Mo_readConstant) B.pre w (List.mem_cons_of_mem _ h9)
  have hown : s.vm.findClass "ClauseLedgerModel" = some m.cls := findClass_of_methodNamed B.named
  have hlocks := B.notSynchronized
  subst hsz
  have hD := hD0.self (sz := s.heap.size)
  generalize hAe : va_A (Wm ty h σ px) s.heap.size = A at hD hM ⊢
  have hA : ∀ q : Nat, s.heap.size ≤ q → A q := fun q h9 => by rw [← hAe]; exact Or.inr h9
  have hS : va_S A s.heap s.heap [] := va_S.rf
  have he : entryFrame m args 5 = entryFrame m ([.ref (h 0)] : List Value).toArray 5 := by rw [ha]
  rw [he, lg_entry_eq]
  have hl := lv_entry ([.ref (h 0)]) (n := 5) (Nat.le_of_ble_eq_true rfl)
  generalize (lg_sl ([.ref (h 0)]) ++ List.replicate (5 - (lg_sl ([.ref (h 0)])).length) Slot.unset).toArray = ls at hl ⊢
  have hl : lv_has ls 5 [(0, .ref (h 0))] := hl
  generalize hv : f_Mo_readConstant σ = v
  replace hv := hv.symm
  have B78 : ∀ (H : Heap) (locs : List Loc) (ls : Array Slot) (σ : St), v = f_Mo_readConstant_78 σ → k_Mo_readConstant_78 σ → lv_has ls 5 [] → va_P D classes (Wm ty h σ px) H → va_D A (Wm ty h σ px) → va_S A s.heap H locs → W p l e (headSpec w_Mo_readConstant rm_Mo_readConstant).room s m args below meth c H locs 0 0 (MQ below (va_Qi (fun r (u : St) => (r, u) = v) (fun u t => va_P D classes (Wm ty h u px) t.heap) A) args s 0 0 A) (F0 m 78 ls []) := by
    intro H locs ls σ hv hk hl hP hD hS
    unfold f_Mo_readConstant_78 at hv
    unfold k_Mo_readConstant_78 at hk
    refine lv_iconst (v := 0) hx hb d_Mo_readConstant_78 (by decide) ?_
    exact W.iret hx hb hr (fun t ht hW => ⟨⟨_, _, rfl, hv.symm, by dsimp only; rw [ht]; exact hP⟩, hS.F ht⟩) hS.2.2 d_Mo_readConstant_79
  have B73 : ∀ (H : Heap) (locs : List Loc) (ls : Array Slot) (σ : St), v = f_Mo_readConstant_73 σ → k_Mo_readConstant_73 σ → lv_has ls 5 [(0, .ref (h 0))] → va_P D classes (Wm ty h σ px) H → va_D A (Wm ty h σ px) → va_S A s.heap H locs → W p l e (headSpec w_Mo_readConstant rm_Mo_readConstant).room s m args below meth c H locs 0 0 (MQ below (va_Qi (fun r (u : St) => (r, u) = v) (fun u t => va_P D classes (Wm ty h u px) t.heap) A) args s 0 0 A) (F0 m 73 ls []) := by
    intro H locs ls σ hv hk hl hP hD hS
    unfold f_Mo_readConstant_73 at hv
    unfold k_Mo_readConstant_73 at hk
    refine lv_aload_n hx hb d_Mo_readConstant_73 rfl (lv_at hl 0 rfl) ?_
    refine lv_iconst (v := 1) hx hb d_Mo_readConstant_74 (by decide) ?_
    refine va_put (v := .int 1) (ty := .boolean) (C := R_Mo) (T := T_Mo) (N := 51) hx hb hg in_Mo ty_Mo ok_Mo nm_Mo hown hK hP hD hS 0 rfl rfl 33 (by decide) (hg _ m_1292) (fun _ h9 => h9) rfl (by decide +kernel) rfl rfl (Nat.le_of_ble_eq_true rfl) d_Mo_readConstant_75 (fun H locs hP hD hS => ?_)
    have hP : va_P D classes (Wm ty h (sF σ 0 33 1) px) H := hP
    have hD : va_D A (Wm ty h (sF σ 0 33 1) px) := hD
    exact B78 _ _ _  (sF σ 0 33 1) hv hk (lv_sub hl [] rfl) hP hD hS
  have B116 : ∀ (H : Heap) (locs : List Loc) (ls : Array Slot) (s0 : Int32) (σ : St), v = f_Mo_readConstant_116 s0 σ → k_Mo_readConstant_116 s0 σ → lv_has ls 5 [] → va_P D classes (Wm ty h σ px) H → va_D A (Wm ty h σ px) → va_S A s.heap H locs → W p l e (headSpec w_Mo_readConstant rm_Mo_readConstant).room s m args below meth c H locs 0 0 (MQ below (va_Qi (fun r (u : St) => (r, u) = v) (fun u t => va_P D classes (Wm ty h u px) t.heap) A) args s 0 0 A) (F0 m 116 ls [.int s0]) := by
    intro H locs ls s0 σ hv hk hl hP hD hS
    unfold f_Mo_readConstant_116 at hv
    unfold k_Mo_readConstant_116 at hk
    exact W.iret hx hb hr (fun t ht hW => ⟨⟨_, _, rfl, hv.symm, by dsimp only; rw [ht]; exact hP⟩, hS.F ht⟩) hS.2.2 d_Mo_readConstant_116
  have B109 : ∀ (H : Heap) (locs : List Loc) (ls : Array Slot) (x3 : Int32) (x4 : Int32) (s0 : Int32) (s1 : Int32) (s2 : Int32) (s3 : Int32) (s4 : Int32) (s5 : Int32) (σ : St), v = f_Mo_readConstant_109 x3 x4 s0 s1 s2 s3 s4 s5 σ → k_Mo_readConstant_109 x3 x4 s0 s1 s2 s3 s4 s5 σ → lv_has ls 5 [(3, .int x3), (4, .int x4)] → va_P D classes (Wm ty h σ px) H → va_D A (Wm ty h σ px) → va_S A s.heap H locs → W p l e (headSpec w_Mo_readConstant rm_Mo_readConstant).room s m args below meth c H locs 0 0 (MQ below (va_Qi (fun r (u : St) => (r, u) = v) (fun u t => va_P D classes (Wm ty h u px) t.heap) A) args s 0 0 A) (F0 m 109 ls [.int s0, .int s1, .int s2, .int s3, .int s4, .int s5, .ref (h 0)]) := by
    intro H locs ls x3 x4 s0 s1 s2 s3 s4 s5 σ hv hk hl hP hD hS
    unfold f_Mo_readConstant_109 at hv
    unfold k_Mo_readConstant_109 at hk
    refine lv_iload_n hx hb d_Mo_readConstant_109 rfl (lv_at hl 0 rfl) ?_
    refine lv_iload hx hb d_Mo_readConstant_110 (lv_at hl 1 rfl) ?_
    obtain ⟨hk0, hk⟩ := hk
    refine lv_idiv hx hb d_Mo_readConstant_112 hk0 ?_
    obtain ⟨hk0, hk⟩ := hk
    refine va_calli (va_runV (As := [.int s5, .int s4, .int s3, .int s2, .int s1, .int s0, .int (x3 / x4)]) (rest := []) ⟨hx, hb, hml, hown, hg⟩ (c_Mo_found l D ty h px sa σ H.size s5 s4 s3 s2 s1 s0 (x3 / x4) hk0) ⟨callB_of 7 hg (gw_C m_1484) rfl rfl rfl (hg _ m_13) (hg _ m_1481) hd_Mo_found ⟨Nat.le_of_ble_eq_true rfl, Nat.le_of_ble_eq_true rfl⟩, hg _ m_1483, hg _ ms_57⟩ (zz_preVW hM hS hA hN hK hP hD 0 rfl rfl) rfl rfl hl.1 rfl (lv_room (Nat.le_of_ble_eq_true rfl)) d_Mo_readConstant_113 ⟨Nat.le_of_ble_eq_true rfl, Nat.le_of_ble_eq_true rfl⟩) hS (fun q _ h => zz_free hD hS hA q h) (zz_free hD hS hA) (fun r113 u113 t H locs ht hvm hp hP1 hz hk1 hS => ?_)
    rw [ht] at hP1
    rw [← hp] at hv hk
    have hD : va_D A (Wm ty h u113 px) := zz_D hD rfl
    have hP := hP1
    exact B116 _ _ _ r113 u113 hv hk (lv_sub hl [] rfl) hP hD hS
  have B87 : ∀ (H : Heap) (locs : List Loc) (ls : Array Slot) (x1 : Int32) (x2 : Int32) (x3 : Int32) (x4 : Int32) (σ : St), v = f_Mo_readConstant_87 x1 x2 x3 x4 σ → k_Mo_readConstant_87 x1 x2 x3 x4 σ → lv_has ls 5 [(0, .ref (h 0)), (1, .int x1), (2, .int x2), (3, .int x3), (4, .int x4)] → va_P D classes (Wm ty h σ px) H → va_D A (Wm ty h σ px) → va_S A s.heap H locs → W p l e (headSpec w_Mo_readConstant rm_Mo_readConstant).room s m args below meth c H locs 0 0 (MQ below (va_Qi (fun r (u : St) => (r, u) = v) (fun u t => va_P D classes (Wm ty h u px) t.heap) A) args s 0 0 A) (F0 m 87 ls []) := by
    intro H locs ls x1 x2 x3 x4 σ hv hk hl hP hD hS
    unfold f_Mo_readConstant_87 at hv
    unfold k_Mo_readConstant_87 at hk
    refine lv_aload_n hx hb d_Mo_readConstant_87 rfl (lv_at hl 0 rfl) ?_
    refine lv_iconst (v := 2) hx hb d_Mo_readConstant_88 (by decide) ?_
    refine lv_iconst (v := 1) hx hb d_Mo_readConstant_89 (by decide) ?_
    refine lv_iconst (v := -1) hx hb d_Mo_readConstant_90 (by decide) ?_
    refine lv_iconst (v := -1) hx hb d_Mo_readConstant_91 (by decide) ?_
    refine lv_iconst (v := -1) hx hb d_Mo_readConstant_92 (by decide) ?_
    refine lv_iload_n hx hb d_Mo_readConstant_93 rfl (lv_at hl 1 rfl) ?_
    refine lv_if_eq (tgt := 105) hx hb d_Mo_readConstant_94 (by decide) (fun hc => ?_) (fun hc => ?_)
    · have hv := hv.trans (if_pos hc)
      have hk := hk.1 hc
      refine lv_iload_n hx hb d_Mo_readConstant_105 rfl (lv_at hl 2 rfl) ?_
      refine lv_iload hx hb d_Mo_readConstant_106 (lv_at hl 4 rfl) ?_
      obtain ⟨hk0, hk⟩ := hk
      refine lv_idiv hx hb d_Mo_readConstant_108 hk0 ?_
      exact B109 _ _ _ x3 x4 (x2 / x4) (-1) (-1) (-1) 1 2 σ hv hk (lv_sub hl [3, 4] rfl) hP hD hS
    · have hv := hv.trans (if_neg hc)
      have hk := hk.2 hc
      refine lv_iload_n hx hb d_Mo_readConstant_97 rfl (lv_at hl 2 rfl) ?_
      refine lv_ineg hx hb d_Mo_readConstant_98 ?_
      refine lv_iload hx hb d_Mo_readConstant_99 (lv_at hl 4 rfl) ?_
      obtain ⟨hk0, hk⟩ := hk
      refine lv_idiv hx hb d_Mo_readConstant_101 hk0 ?_
      refine lv_goto (tgt := 109) hx hb d_Mo_readConstant_102 (by decide) ?_
      exact B109 _ _ _ x3 x4 ((-x2) / x4) (-1) (-1) (-1) 1 2 σ hv hk (lv_sub hl [3, 4] rfl) hP hD hS
  have B64 : ∀ (H : Heap) (locs : List Loc) (ls : Array Slot) (x1 : Int32) (x2 : Int32) (x3 : Int32) (σ : St), v = f_Mo_readConstant_64 x1 x2 x3 σ → k_Mo_readConstant_64 x1 x2 x3 σ → lv_has ls 5 [(0, .ref (h 0)), (1, .int x1), (2, .int x2), (3, .int x3)] → va_P D classes (Wm ty h σ px) H → va_D A (Wm ty h σ px) → va_S A s.heap H locs → W p l e (headSpec w_Mo_readConstant rm_Mo_readConstant).room s m args below meth c H locs 0 0 (MQ below (va_Qi (fun r (u : St) => (r, u) = v) (fun u t => va_P D classes (Wm ty h u px) t.heap) A) args s 0 0 A) (F0 m 64 ls []) := by
    intro H locs ls x1 x2 x3 σ hv hk hl hP hD hS
    unfold f_Mo_readConstant_64 at hv
    unfold k_Mo_readConstant_64 at hk
    refine lv_iload_n hx hb d_Mo_readConstant_64 rfl (lv_at hl 2 rfl) ?_
    refine lv_if_lt (tgt := 73) hx hb d_Mo_readConstant_65 (by decide) (fun hc => ?_) (fun hc => ?_)
    · have hv := hv.trans (if_pos hc)
      have hk := hk.1 hc
      exact B73 _ _ _  σ hv hk (lv_sub hl [0] rfl) hP hD hS
    · have hv := hv.trans (if_neg hc)
      have hk := hk.2 hc
      refine lv_iload_n hx hb d_Mo_readConstant_68 rfl (lv_at hl 3 rfl) ?_
      refine lv_iconst (v := 1) hx hb d_Mo_readConstant_69 (by decide) ?_
      refine lv_icmp_ge (tgt := 80) hx hb d_Mo_readConstant_70 (by decide) (fun hc => ?_) (fun hc => ?_)
      · have hv := hv.trans (if_pos hc)
        have hk := hk.1 hc
        refine lv_iload_n hx hb d_Mo_readConstant_80 rfl (lv_at hl 3 rfl) ?_
        refine lv_iload_n hx hb d_Mo_readConstant_81 rfl (lv_at hl 2 rfl) ?_
        obtain ⟨hk0, hk⟩ := hk
        refine zz_callV (va_runS (As := [.int x3, .int x2]) (rest := []) ⟨hx, hb, hml, hown, hg⟩ (c_Mo_common l D ty h px sa σ x3 x2 hk0) ⟨callB_of 2 hg (gw_C m_1480) rfl rfl rfl (hg _ m_13) (hg _ m_1478) hd_Mo_common ⟨Nat.le_of_ble_eq_true rfl, Nat.le_of_ble_eq_true rfl⟩, hg _ m_1479⟩ (zz_preS (hM.at hS) hN hK hP) rfl rfl hl.1 rfl (lv_room (Nat.le_of_ble_eq_true rfl)) d_Mo_readConstant_82 ⟨Nat.le_of_ble_eq_true rfl, Nat.le_of_ble_eq_true rfl⟩) ?_
        refine lv_istore (lv' := [(4, .int (f_Mo_common x3 x2 σ)), (0, .ref (h 0)), (1, .int x1), (2, .int x2), (3, .int x3)]) hx hb d_Mo_readConstant_85 hl (by decide) rfl (fun ls hl => ?_)
        exact B87 _ _ _ x1 x2 x3 (f_Mo_common x3 x2 σ) σ hv hk (lv_sub hl [1, 2, 3, 4, 0] rfl) hP hD hS
      · have hv := hv.trans (if_neg hc)
        have hk := hk.2 hc
        exact B73 _ _ _  σ hv hk (lv_sub hl [0] rfl) hP hD hS
  have B63 : ∀ (H : Heap) (locs : List Loc) (ls : Array Slot) (x1 : Int32) (x2 : Int32) (s0 : Int32) (σ : St), v = f_Mo_readConstant_63 x1 x2 s0 σ → k_Mo_readConstant_63 x1 x2 s0 σ → lv_has ls 5 [(0, .ref (h 0)), (1, .int x1), (2, .int x2)] → va_P D classes (Wm ty h σ px) H → va_D A (Wm ty h σ px) → va_S A s.heap H locs → W p l e (headSpec w_Mo_readConstant rm_Mo_readConstant).room s m args below meth c H locs 0 0 (MQ below (va_Qi (fun r (u : St) => (r, u) = v) (fun u t => va_P D classes (Wm ty h u px) t.heap) A) args s 0 0 A) (F0 m 63 ls [.int s0]) := by
    intro H locs ls x1 x2 s0 σ hv hk hl hP hD hS
    unfold f_Mo_readConstant_63 at hv
    unfold k_Mo_readConstant_63 at hk
    refine lv_istore_n (lv' := [(3, .int s0), (0, .ref (h 0)), (1, .int x1), (2, .int x2)]) hx hb d_Mo_readConstant_63 rfl hl (by decide) rfl (fun ls hl => ?_)
    exact B64 _ _ _ x1 x2 s0 σ hv hk (lv_sub hl [1, 2, 3, 0] rfl) hP hD hS
  have B59 : ∀ (H : Heap) (locs : List Loc) (ls : Array Slot) (x1 : Int32) (x2 : Int32) (σ : St), v = f_Mo_readConstant_59 x1 x2 σ → k_Mo_readConstant_59 x1 x2 σ → lv_has ls 5 [(0, .ref (h 0)), (1, .int x1), (2, .int x2)] → va_P D classes (Wm ty h σ px) H → va_D A (Wm ty h σ px) → va_S A s.heap H locs → W p l e (headSpec w_Mo_readConstant rm_Mo_readConstant).room s m args below meth c H locs 0 0 (MQ below (va_Qi (fun r (u : St) => (r, u) = v) (fun u t => va_P D classes (Wm ty h u px) t.heap) A) args s 0 0 A) (F0 m 59 ls []) := by
    intro H locs ls x1 x2 σ hv hk hl hP hD hS
    unfold f_Mo_readConstant_59 at hv
    unfold k_Mo_readConstant_59 at hk
    refine lv_aload_n hx hb d_Mo_readConstant_59 rfl (lv_at hl 0 rfl) ?_
    obtain ⟨hk0, hk⟩ := hk
    refine va_calli (va_runV (As := []) (rest := []) ⟨hx, hb, hml, hown, hg⟩ (c_Mo_digits l D ty h px sa σ H.size  hk0) ⟨callB_of 0 hg (gw_C m_1477) rfl rfl rfl (hg _ m_13) (hg _ m_1474) hd_Mo_digits ⟨Nat.le_of_ble_eq_true rfl, Nat.le_of_ble_eq_true rfl⟩, hg _ m_1476, hg _ ms_56⟩ (zz_preVW hM hS hA hN hK hP hD 0 rfl rfl) rfl rfl hl.1 rfl (lv_room (Nat.le_of_ble_eq_true rfl)) d_Mo_readConstant_60 ⟨Nat.le_of_ble_eq_true rfl, Nat.le_of_ble_eq_true rfl⟩) hS (fun q _ h => zz_free hD hS hA q h) (zz_free hD hS hA) (fun r60 u60 t H locs ht hvm hp hP1 hz hk1 hS => ?_)
    rw [ht] at hP1
    rw [← hp] at hv hk
    have hD : va_D A (Wm ty h u60 px) := zz_D hD rfl
    have hP := hP1
    exact B63 _ _ _ x1 x2 r60 u60 hv hk (lv_sub hl [0, 1, 2] rfl) hP hD hS
  have B38 : ∀ (H : Heap) (locs : List Loc) (ls : Array Slot) (x1 : Int32) (x2 : Int32) (σ : St), v = f_Mo_readConstant_38 x1 x2 σ → k_Mo_readConstant_38 x1 x2 σ → lv_has ls 5 [(0, .ref (h 0)), (1, .int x1), (2, .int x2)] → va_P D classes (Wm ty h σ px) H → va_D A (Wm ty h σ px) → va_S A s.heap H locs → W p l e (headSpec w_Mo_readConstant rm_Mo_readConstant).room s m args below meth c H locs 0 0 (MQ below (va_Qi (fun r (u : St) => (r, u) = v) (fun u t => va_P D classes (Wm ty h u px) t.heap) A) args s 0 0 A) (F0 m 38 ls []) := by
    intro H locs ls x1 x2 σ hv hk hl hP hD hS
    unfold f_Mo_readConstant_38 at hv
    unfold k_Mo_readConstant_38 at hk
    refine lv_iconst (v := 1) hx hb d_Mo_readConstant_38 (by decide) ?_
    refine lv_istore_n (lv' := [(3, .int 1), (0, .ref (h 0)), (1, .int x1), (2, .int x2)]) hx hb d_Mo_readConstant_39 rfl hl (by decide) rfl (fun ls hl => ?_)
    refine lv_aload_n hx hb d_Mo_readConstant_40 rfl (lv_at hl 1 rfl) ?_
    obtain ⟨hk0, hk⟩ := hk
    refine zz_callV (va_runV (As := []) (rest := []) ⟨hx, hb, hml, hown, hg⟩ (c_Mo_peek l D ty h px sa σ  hk0) ⟨callB_of 0 hg (gw_C m_1451) rfl rfl rfl (hg _ m_13) (hg _ m_1448) hd_Mo_peek ⟨Nat.le_of_ble_eq_true rfl, Nat.le_of_ble_eq_true rfl⟩, hg _ m_1450, hg _ ms_51⟩ (zz_preV (hM.at hS) hN hK hP 0 rfl rfl) rfl rfl hl.1 rfl (lv_room (Nat.le_of_ble_eq_true rfl)) d_Mo_readConstant_41 ⟨Nat.le_of_ble_eq_true rfl, Nat.le_of_ble_eq_true rfl⟩) ?_
    refine lv_bipush (v := 47) hx hb d_Mo_readConstant_44 (by decide) ?_
    refine lv_icmp_ne (tgt := 64) hx hb d_Mo_readConstant_46 (by decide) (fun hc => ?_) (fun hc => ?_)
    · have hv := hv.trans (if_neg hc)
      have hk := hk.2 hc
      exact B64 _ _ _ x1 x2 1 σ hv hk (lv_sub hl [1, 2, 3, 0] rfl) hP hD hS
    · have hv := hv.trans (if_pos hc)
      have hk := hk.1 hc
      refine lv_aload_n hx hb d_Mo_readConstant_49 rfl (lv_at hl 1 rfl) ?_
      refine lv_dup hx hb d_Mo_readConstant_50 rfl ?_
      refine va_get (v := .int (σ.1 0 32)) (C := R_Mo) (T := T_Mo) (N := 51) hx hb hg in_Mo hown hK hP 0 rfl rfl 32 (by decide) (hg _ m_1291) (fun _ h9 => h9) rfl d_Mo_readConstant_51 ?_
      refine lv_iconst (v := 1) hx hb d_Mo_readConstant_54 (by decide) ?_
      refine lv_iadd hx hb d_Mo_readConstant_55 ?_
      refine va_put (v := .int ((σ.1 0 32) + 1)) (ty := .int) (C := R_Mo) (T := T_Mo) (N := 51) hx hb hg in_Mo ty_Mo ok_Mo nm_Mo hown hK hP hD hS 0 rfl rfl 32 (by decide) (hg _ m_1291) (fun _ h9 => h9) rfl (by decide +kernel) rfl rfl (Nat.le_of_ble_eq_true rfl) d_Mo_readConstant_56 (fun H locs hP hD hS => ?_)
      have hP : va_P D classes (Wm ty h (sF σ 0 32 ((σ.1 0 32) + 1)) px) H := hP
      have hD : va_D A (Wm ty h (sF σ 0 32 ((σ.1 0 32) + 1)) px) := hD
      exact B59 _ _ _ x1 x2 (sF σ 0 32 ((σ.1 0 32) + 1)) hv hk (lv_sub hl [1, 2, 3] rfl) hP hD hS
  have B37 : ∀ (H : Heap) (locs : List Loc) (ls : Array Slot) (x1 : Int32) (s0 : Int32) (σ : St), v = f_Mo_readConstant_37 x1 s0 σ → k_Mo_readConstant_37 x1 s0 σ → lv_has ls 5 [(0, .ref (h 0)), (1, .int x1)] → va_P D classes (Wm ty h σ px) H → va_D A (Wm ty h σ px) → va_S A s.heap H locs → W p l e (headSpec w_Mo_readConstant rm_Mo_readConstant).room s m args below meth c H locs 0 0 (MQ below (va_Qi (fun r (u : St) => (r, u) = v) (fun u t => va_P D classes (Wm ty h u px) t.heap) A) args s 0 0 A) (F0 m 37 ls [.int s0]) := by
    intro H locs ls x1 s0 σ hv hk hl hP hD hS
    unfold f_Mo_readConstant_37 at hv
    unfold k_Mo_readConstant_37 at hk
    refine lv_istore_n (lv' := [(2, .int s0), (0, .ref (h 0)), (1, .int x1)]) hx hb d_Mo_readConstant_37 rfl hl (by decide) rfl (fun ls hl => ?_)
    exact B38 _ _ _ x1 s0 σ hv hk (lv_sub hl [1, 2, 0] rfl) hP hD hS
  have B33 : ∀ (H : Heap) (locs : List Loc) (ls : Array Slot) (x1 : Int32) (σ : St), v = f_Mo_readConstant_33 x1 σ → k_Mo_readConstant_33 x1 σ → lv_has ls 5 [(0, .ref (h 0)), (1, .int x1)] → va_P D classes (Wm ty h σ px) H → va_D A (Wm ty h σ px) → va_S A s.heap H locs → W p l e (headSpec w_Mo_readConstant rm_Mo_readConstant).room s m args below meth c H locs 0 0 (MQ below (va_Qi (fun r (u : St) => (r, u) = v) (fun u t => va_P D classes (Wm ty h u px) t.heap) A) args s 0 0 A) (F0 m 33 ls []) := by
    intro H locs ls x1 σ hv hk hl hP hD hS
    unfold f_Mo_readConstant_33 at hv
    unfold k_Mo_readConstant_33 at hk
    refine lv_aload_n hx hb d_Mo_readConstant_33 rfl (lv_at hl 0 rfl) ?_
    obtain ⟨hk0, hk⟩ := hk
    refine va_calli (va_runV (As := []) (rest := []) ⟨hx, hb, hml, hown, hg⟩ (c_Mo_digits l D ty h px sa σ H.size  hk0) ⟨callB_of 0 hg (gw_C m_1477) rfl rfl rfl (hg _ m_13) (hg _ m_1474) hd_Mo_digits ⟨Nat.le_of_ble_eq_true rfl, Nat.le_of_ble_eq_true rfl⟩, hg _ m_1476, hg _ ms_56⟩ (zz_preVW hM hS hA hN hK hP hD 0 rfl rfl) rfl rfl hl.1 rfl (lv_room (Nat.le_of_ble_eq_true rfl)) d_Mo_readConstant_34 ⟨Nat.le_of_ble_eq_true rfl, Nat.le_of_ble_eq_true rfl⟩) hS (fun q _ h => zz_free hD hS hA q h) (zz_free hD hS hA) (fun r34 u34 t H locs ht hvm hp hP1 hz hk1 hS => ?_)
    rw [ht] at hP1
    rw [← hp] at hv hk
    have hD : va_D A (Wm ty h u34 px) := zz_D hD rfl
    have hP := hP1
    exact B37 _ _ _ x1 r34 u34 hv hk (lv_sub hl [0, 1] rfl) hP hD hS
  have B29 : ∀ (H : Heap) (locs : List Loc) (ls : Array Slot) (x1 : Int32) (s0 : Int32) (s1 : Int32) (σ : St), v = f_Mo_readConstant_29 x1 s0 s1 σ → k_Mo_readConstant_29 x1 s0 s1 σ → lv_has ls 5 [(0, .ref (h 0)), (1, .int x1)] → va_P D classes (Wm ty h σ px) H → va_D A (Wm ty h σ px) → va_S A s.heap H locs → W p l e (headSpec w_Mo_readConstant rm_Mo_readConstant).room s m args below meth c H locs 0 0 (MQ below (va_Qi (fun r (u : St) => (r, u) = v) (fun u t => va_P D classes (Wm ty h u px) t.heap) A) args s 0 0 A) (F0 m 29 ls [.int s0, .int s1, .ref (h 0)]) := by
    intro H locs ls x1 s0 s1 σ hv hk hl hP hD hS
    unfold f_Mo_readConstant_29 at hv
    unfold k_Mo_readConstant_29 at hk
    refine lv_iadd hx hb d_Mo_readConstant_29 ?_
    refine va_put (v := .int (s1 + s0)) (ty := .int) (C := R_Mo) (T := T_Mo) (N := 51) hx hb hg in_Mo ty_Mo ok_Mo nm_Mo hown hK hP hD hS 0 rfl rfl 32 (by decide) (hg _ m_1291) (fun _ h9 => h9) rfl (by decide +kernel) rfl rfl (Nat.le_of_ble_eq_true rfl) d_Mo_readConstant_30 (fun H locs hP hD hS => ?_)
    have hP : va_P D classes (Wm ty h (sF σ 0 32 (s1 + s0)) px) H := hP
    have hD : va_D A (Wm ty h (sF σ 0 32 (s1 + s0)) px) := hD
    exact B33 _ _ _ x1 (sF σ 0 32 (s1 + s0)) hv hk (lv_sub hl [0, 1] rfl) hP hD hS
  have B14 : ∀ (H : Heap) (locs : List Loc) (ls : Array Slot) (s0 : Int32) (σ : St), v = f_Mo_readConstant_14 s0 σ → k_Mo_readConstant_14 s0 σ → lv_has ls 5 [(0, .ref (h 0))] → va_P D classes (Wm ty h σ px) H → va_D A (Wm ty h σ px) → va_S A s.heap H locs → W p l e (headSpec w_Mo_readConstant rm_Mo_readConstant).room s m args below meth c H locs 0 0 (MQ below (va_Qi (fun r (u : St) => (r, u) = v) (fun u t => va_P D classes (Wm ty h u px) t.heap) A) args s 0 0 A) (F0 m 14 ls [.int s0]) := by
    intro H locs ls s0 σ hv hk hl hP hD hS
    unfold f_Mo_readConstant_14 at hv
    unfold k_Mo_readConstant_14 at hk
    refine lv_istore_n (lv' := [(1, .int s0), (0, .ref (h 0))]) hx hb d_Mo_readConstant_14 rfl hl (by decide) rfl (fun ls hl => ?_)
    refine lv_aload_n hx hb d_Mo_readConstant_15 rfl (lv_at hl 1 rfl) ?_
    refine lv_dup hx hb d_Mo_readConstant_16 rfl ?_
    refine va_get (v := .int (σ.1 0 32)) (C := R_Mo) (T := T_Mo) (N := 51) hx hb hg in_Mo hown hK hP 0 rfl rfl 32 (by decide) (hg _ m_1291) (fun _ h9 => h9) rfl d_Mo_readConstant_17 ?_
    refine lv_iload_n hx hb d_Mo_readConstant_20 rfl (lv_at hl 0 rfl) ?_
    refine lv_if_eq (tgt := 28) hx hb d_Mo_readConstant_21 (by decide) (fun hc => ?_) (fun hc => ?_)
    · have hv := hv.trans (if_pos hc)
      have hk := hk.1 hc
      refine lv_iconst (v := 0) hx hb d_Mo_readConstant_28 (by decide) ?_
      exact B29 _ _ _ s0 0 (σ.1 0 32) σ hv hk (lv_sub hl [1, 0] rfl) hP hD hS
    · have hv := hv.trans (if_neg hc)
      have hk := hk.2 hc
      refine lv_iconst (v := 1) hx hb d_Mo_readConstant_24 (by decide) ?_
      refine lv_goto (tgt := 29) hx hb d_Mo_readConstant_25 (by decide) ?_
      exact B29 _ _ _ s0 1 (σ.1 0 32) σ hv hk (lv_sub hl [1, 0] rfl) hP hD hS
  unfold f_Mo_readConstant at hv
  unfold k_Mo_readConstant at hk
  refine lv_aload_n hx hb d_Mo_readConstant_0 rfl (lv_at hl 0 rfl) ?_
  obtain ⟨hk0, hk⟩ := hk
  refine zz_callV (va_runV (As := []) (rest := []) ⟨hx, hb, hml, hown, hg⟩ (c_Mo_peek l D ty h px sa σ  hk0) ⟨callB_of 0 hg (gw_C m_1451) rfl rfl rfl (hg _ m_13) (hg _ m_1448) hd_Mo_peek ⟨Nat.le_of_ble_eq_true rfl, Nat.le_of_ble_eq_true rfl⟩, hg _ m_1450, hg _ ms_51⟩ (zz_preV (hM.at hS) hN hK hP 0 rfl rfl) rfl rfl hl.1 rfl (lv_room (Nat.le_of_ble_eq_true rfl)) d_Mo_readConstant_1 ⟨Nat.le_of_ble_eq_true rfl, Nat.le_of_ble_eq_true rfl⟩) ?_
  refine lv_bipush (v := 45) hx hb d_Mo_readConstant_4 (by decide) ?_
  refine lv_icmp_ne (tgt := 13) hx hb d_Mo_readConstant_6 (by decide) (fun hc => ?_) (fun hc => ?_)
  · have hv := hv.trans (if_neg hc)
    have hk := hk.2 hc
    refine lv_iconst (v := 0) hx hb d_Mo_readConstant_13 (by decide) ?_
    exact B14 _ _ _ 0 σ hv hk (lv_sub hl [0] rfl) hP hD hS
  · have hv := hv.trans (if_pos hc)
    have hk := hk.1 hc
    refine lv_iconst (v := 1) hx hb d_Mo_readConstant_9 (by decide) ?_
    refine lv_goto (tgt := 14) hx hb d_Mo_readConstant_10 (by decide) ?_
    exact B14 _ _ _ 1 σ hv hk (lv_sub hl [0] rfl) hP hD hS

-- ClauseLedgerModel.readSimple()I
abbrev b_Mo_readSimple : ByteArray := prog_14_method_22_code
def y_Mo_readSimple : MethodName := ⟨"ClauseLedgerModel", "readSimple", "()I"⟩
theorem hd_Mo_readSimple : y_Mo_readSimple.cls ≠ "java/lang/invoke/MethodHandle" ∧ y_Mo_readSimple.cls ≠ "java/lang/invoke/VarHandle" ∧ (parseMethodDescriptor y_Mo_readSimple.desc).map (fun d => d.parameters.length) = some 0 := by decide +kernel
theorem d_Mo_readSimple_0 : decode b_Mo_readSimple 0 = .ok (.aload_n 0, 1) := by decide +kernel
theorem d_Mo_readSimple_1 : decode b_Mo_readSimple 1 = .ok (.invokevirtual 152, 3) := by decide +kernel
theorem d_Mo_readSimple_4 : decode b_Mo_readSimple 4 = .ok (.istore_n 1, 1) := by decide +kernel
theorem d_Mo_readSimple_5 : decode b_Mo_readSimple 5 = .ok (.iload_n 1, 1) := by decide +kernel
theorem d_Mo_readSimple_6 : decode b_Mo_readSimple 6 = .ok (.bipush 45, 2) := by decide +kernel
theorem d_Mo_readSimple_8 : decode b_Mo_readSimple 8 = .ok (.if_icmp .eq 10, 3) := by decide +kernel
theorem d_Mo_readSimple_11 : decode b_Mo_readSimple 11 = .ok (.iload_n 1, 1) := by decide +kernel
theorem d_Mo_readSimple_12 : decode b_Mo_readSimple 12 = .ok (.invokestatic 156, 3) := by decide +kernel
theorem d_Mo_readSimple_15 : decode b_Mo_readSimple 15 = .ok (.ifCond .eq 8, 3) := by decide +kernel
theorem d_Mo_readSimple_18 : decode b_Mo_readSimple 18 = .ok (.aload_n 0, 1) := by decide +kernel
theorem d_Mo_readSimple_19 : decode b_Mo_readSimple 19 = .ok (.invokevirtual 170, 3) := by decide +kernel
theorem d_Mo_readSimple_22 : decode b_Mo_readSimple 22 = .ok (.ireturn, 1) := by decide +kernel
theorem d_Mo_readSimple_23 : decode b_Mo_readSimple 23 = .ok (.aload_n 0, 1) := by decide +kernel
theorem d_Mo_readSimple_24 : decode b_Mo_readSimple 24 = .ok (.dup, 1) := by decide +kernel
theorem d_Mo_readSimple_25 : decode b_Mo_readSimple 25 = .ok (.getfield 149, 3) := by decide +kernel
theorem d_Mo_readSimple_28 : decode b_Mo_readSimple 28 = .ok (.iconst 1, 1) := by decide +kernel
theorem d_Mo_readSimple_29 : decode b_Mo_readSimple 29 = .ok (.iadd, 1) := by decide +kernel
theorem d_Mo_readSimple_30 : decode b_Mo_readSimple 30 = .ok (.putfield 149, 3) := by decide +kernel
theorem d_Mo_readSimple_33 : decode b_Mo_readSimple 33 = .ok (.iload_n 1, 1) := by decide +kernel
theorem d_Mo_readSimple_34 : decode b_Mo_readSimple 34 = .ok (.bipush 120, 2) := by decide +kernel
theorem d_Mo_readSimple_36 : decode b_Mo_readSimple 36 = .ok (.if_icmp .lt 32, 3) := by decide +kernel
theorem d_Mo_readSimple_39 : decode b_Mo_readSimple 39 = .ok (.iload_n 1, 1) := by decide +kernel
theorem d_Mo_readSimple_40 : decode b_Mo_readSimple 40 = .ok (.bipush 122, 2) := by decide +kernel
theorem d_Mo_readSimple_42 : decode b_Mo_readSimple 42 = .ok (.if_icmp .gt 26, 3) := by decide +kernel
theorem d_Mo_readSimple_45 : decode b_Mo_readSimple 45 = .ok (.aload_n 0, 1) := by decide +kernel
theorem d_Mo_readSimple_46 : decode b_Mo_readSimple 46 = .ok (.iconst 1, 1) := by decide +kernel
theorem d_Mo_readSimple_47 : decode b_Mo_readSimple 47 = .ok (.aload_n 0, 1) := by decide +kernel
theorem d_Mo_readSimple_48 : decode b_Mo_readSimple 48 = .ok (.getfield 23, 3) := by decide +kernel
theorem d_Mo_readSimple_51 : decode b_Mo_readSimple 51 = .ok (.iload_n 1, 1) := by decide +kernel
theorem d_Mo_readSimple_52 : decode b_Mo_readSimple 52 = .ok (.bipush 120, 2) := by decide +kernel
theorem d_Mo_readSimple_54 : decode b_Mo_readSimple 54 = .ok (.isub, 1) := by decide +kernel
theorem d_Mo_readSimple_55 : decode b_Mo_readSimple 55 = .ok (.iaload, 1) := by decide +kernel
theorem d_Mo_readSimple_56 : decode b_Mo_readSimple 56 = .ok (.iconst (-1), 1) := by decide +kernel
theorem d_Mo_readSimple_57 : decode b_Mo_readSimple 57 = .ok (.iconst (-1), 1) := by decide +kernel
theorem d_Mo_readSimple_58 : decode b_Mo_readSimple 58 = .ok (.iload_n 1, 1) := by decide +kernel
theorem d_Mo_readSimple_59 : decode b_Mo_readSimple 59 = .ok (.bipush 120, 2) := by decide +kernel
theorem d_Mo_readSimple_61 : decode b_Mo_readSimple 61 = .ok (.isub, 1) := by decide +kernel
theorem d_Mo_readSimple_62 : decode b_Mo_readSimple 62 = .ok (.iconst 0, 1) := by decide +kernel
theorem d_Mo_readSimple_63 : decode b_Mo_readSimple 63 = .ok (.iconst 0, 1) := by decide +kernel
theorem d_Mo_readSimple_64 : decode b_Mo_readSimple 64 = .ok (.invokevirtual 112, 3) := by decide +kernel
theorem d_Mo_readSimple_67 : decode b_Mo_readSimple 67 = .ok (.ireturn, 1) := by decide +kernel
theorem d_Mo_readSimple_68 : decode b_Mo_readSimple 68 = .ok (.aload_n 0, 1) := by decide +kernel
theorem d_Mo_readSimple_69 : decode b_Mo_readSimple 69 = .ok (.aload_n 0, 1) := by decide +kernel
theorem d_Mo_readSimple_70 : decode b_Mo_readSimple 70 = .ok (.getfield 163, 3) := by decide +kernel
theorem d_Mo_readSimple_73 : decode b_Mo_readSimple 73 = .ok (.ifCond .ne 32, 3) := by decide +kernel
theorem d_Mo_readSimple_76 : decode b_Mo_readSimple 76 = .ok (.iload_n 1, 1) := by decide +kernel
theorem d_Mo_readSimple_77 : decode b_Mo_readSimple 77 = .ok (.bipush 97, 2) := by decide +kernel
theorem d_Mo_readSimple_79 : decode b_Mo_readSimple 79 = .ok (.if_icmp .lt 26, 3) := by decide +kernel
theorem d_Mo_readSimple_82 : decode b_Mo_readSimple 82 = .ok (.iload_n 1, 1) := by decide +kernel
theorem d_Mo_readSimple_83 : decode b_Mo_readSimple 83 = .ok (.bipush 97, 2) := by decide +kernel
theorem d_Mo_readSimple_85 : decode b_Mo_readSimple 85 = .ok (.isub, 1) := by decide +kernel
theorem d_Mo_readSimple_86 : decode b_Mo_readSimple 86 = .ok (.aload_n 0, 1) := by decide +kernel
theorem d_Mo_readSimple_87 : decode b_Mo_readSimple 87 = .ok (.getfield 106, 3) := by decide +kernel
theorem d_Mo_readSimple_90 : decode b_Mo_readSimple 90 = .ok (.if_icmp .ge 15, 3) := by decide +kernel
theorem d_Mo_readSimple_93 : decode b_Mo_readSimple 93 = .ok (.aload_n 0, 1) := by decide +kernel
theorem d_Mo_readSimple_94 : decode b_Mo_readSimple 94 = .ok (.getfield 17, 3) := by decide +kernel
theorem d_Mo_readSimple_97 : decode b_Mo_readSimple 97 = .ok (.iload_n 1, 1) := by decide +kernel
theorem d_Mo_readSimple_98 : decode b_Mo_readSimple 98 = .ok (.bipush 97, 2) := by decide +kernel
theorem d_Mo_readSimple_100 : decode b_Mo_readSimple 100 = .ok (.isub, 1) := by decide +kernel
theorem d_Mo_readSimple_101 : decode b_Mo_readSimple 101 = .ok (.iaload, 1) := by decide +kernel
theorem d_Mo_readSimple_102 : decode b_Mo_readSimple 102 = .ok (.ifCond .lt 7, 3) := by decide +kernel
theorem d_Mo_readSimple_105 : decode b_Mo_readSimple 105 = .ok (.iconst 1, 1) := by decide +kernel
theorem d_Mo_readSimple_106 : decode b_Mo_readSimple 106 = .ok (.goto 4, 3) := by decide +kernel
theorem d_Mo_readSimple_109 : decode b_Mo_readSimple 109 = .ok (.iconst 0, 1) := by decide +kernel
theorem d_Mo_readSimple_110 : decode b_Mo_readSimple 110 = .ok (.putfield 163, 3) := by decide +kernel
theorem d_Mo_readSimple_113 : decode b_Mo_readSimple 113 = .ok (.aload_n 0, 1) := by decide +kernel
theorem d_Mo_readSimple_114 : decode b_Mo_readSimple 114 = .ok (.getfield 163, 3) := by decide +kernel
theorem d_Mo_readSimple_117 : decode b_Mo_readSimple 117 = .ok (.ifCond .eq 7, 3) := by decide +kernel
theorem d_Mo_readSimple_120 : decode b_Mo_readSimple 120 = .ok (.iconst 0, 1) := by decide +kernel
theorem d_Mo_readSimple_121 : decode b_Mo_readSimple 121 = .ok (.goto 25, 3) := by decide +kernel
theorem d_Mo_readSimple_124 : decode b_Mo_readSimple 124 = .ok (.aload_n 0, 1) := by decide +kernel
theorem d_Mo_readSimple_125 : decode b_Mo_readSimple 125 = .ok (.iconst 0, 1) := by decide +kernel
theorem d_Mo_readSimple_126 : decode b_Mo_readSimple 126 = .ok (.aload_n 0, 1) := by decide +kernel
theorem d_Mo_readSimple_127 : decode b_Mo_readSimple 127 = .ok (.getfield 13, 3) := by decide +kernel
theorem d_Mo_readSimple_130 : decode b_Mo_readSimple 130 = .ok (.iload_n 1, 1) := by decide +kernel
theorem d_Mo_readSimple_131 : decode b_Mo_readSimple 131 = .ok (.bipush 97, 2) := by decide +kernel
theorem d_Mo_readSimple_133 : decode b_Mo_readSimple 133 = .ok (.isub, 1) := by decide +kernel
theorem d_Mo_readSimple_134 : decode b_Mo_readSimple 134 = .ok (.iaload, 1) := by decide +kernel
theorem d_Mo_readSimple_135 : decode b_Mo_readSimple 135 = .ok (.iconst (-1), 1) := by decide +kernel
theorem d_Mo_readSimple_136 : decode b_Mo_readSimple 136 = .ok (.iconst (-1), 1) := by decide +kernel
theorem d_Mo_readSimple_137 : decode b_Mo_readSimple 137 = .ok (.iload_n 1, 1) := by decide +kernel
theorem d_Mo_readSimple_138 : decode b_Mo_readSimple 138 = .ok (.bipush 97, 2) := by decide +kernel
theorem d_Mo_readSimple_140 : decode b_Mo_readSimple 140 = .ok (.isub, 1) := by decide +kernel
theorem d_Mo_readSimple_141 : decode b_Mo_readSimple 141 = .ok (.iconst 0, 1) := by decide +kernel
theorem d_Mo_readSimple_142 : decode b_Mo_readSimple 142 = .ok (.iconst 0, 1) := by decide +kernel
theorem d_Mo_readSimple_143 : decode b_Mo_readSimple 143 = .ok (.invokevirtual 112, 3) := by decide +kernel
theorem d_Mo_readSimple_146 : decode b_Mo_readSimple 146 = .ok (.ireturn, 1) := by decide +kernel
def f_Mo_readSimple_22 (s0 : Int32) (σ : St) : Int32 × St := (s0, σ)
def k_Mo_readSimple_22 (s0 : Int32) (σ : St) : Prop := True
def f_Mo_readSimple_18 (σ : St) : Int32 × St := f_Mo_readSimple_22 ((f_Mo_readConstant σ).1) ((f_Mo_readConstant σ).2)
def k_Mo_readSimple_18 (σ : St) : Prop := (k_Mo_readConstant σ) ∧ (k_Mo_readSimple_22 ((f_Mo_readConstant σ).1) ((f_Mo_readConstant σ).2))
def f_Mo_readSimple_67 (s0 : Int32) (σ : St) : Int32 × St := (s0, σ)
def k_Mo_readSimple_67 (s0 : Int32) (σ : St) : Prop := True
def f_Mo_readSimple_146 (s0 : Int32) (σ : St) : Int32 × St := (s0, σ)
def k_Mo_readSimple_146 (s0 : Int32) (σ : St) : Prop := True
def f_Mo_readSimple_113 (x1 : Int32) (σ : St) : Int32 × St := if (σ.1 0 33) = 0 then (f_Mo_readSimple_146 ((f_Mo_found 0 (σ.1 1 (x1 - 97).toNatClampNeg) (-1) (-1) (x1 - 97) 0 0 σ).1) ((f_Mo_found 0 (σ.1 1 (x1 - 97).toNatClampNeg) (-1) (-1) (x1 - 97) 0 0 σ).2)) else (f_Mo_readSimple_146 0 σ)
def k_Mo_readSimple_113 (x1 : Int32) (σ : St) : Prop := ((σ.1 0 33) = 0 → (vp_in (x1 - 97) 12 ∧ ((k_Mo_found 0 (σ.1 1 (x1 - 97).toNatClampNeg) (-1) (-1) (x1 - 97) 0 0 σ) ∧ (k_Mo_readSimple_146 ((f_Mo_found 0 (σ.1 1 (x1 - 97).toNatClampNeg) (-1) (-1) (x1 - 97) 0 0 σ).1) ((f_Mo_found 0 (σ.1 1 (x1 - 97).toNatClampNeg) (-1) (-1) (x1 - 97) 0 0 σ).2))))) ∧ (¬ (σ.1 0 33) = 0 → (k_Mo_readSimple_146 0 σ))
def f_Mo_readSimple_110 (x1 : Int32) (s0 : Int32) (σ : St) : Int32 × St := f_Mo_readSimple_113 x1 (sF σ 0 33 s0)
def k_Mo_readSimple_110 (x1 : Int32) (s0 : Int32) (σ : St) : Prop := (narrow .boolean (.int s0) = .int s0 ∧ fits .boolean (.int s0) = true) ∧ (k_Mo_readSimple_113 x1 (sF σ 0 33 s0))
def f_Mo_readSimple_105 (x1 : Int32) (σ : St) : Int32 × St := f_Mo_readSimple_110 x1 1 σ
def k_Mo_readSimple_105 (x1 : Int32) (σ : St) : Prop := k_Mo_readSimple_110 x1 1 σ
def f_Mo_readSimple_68 (x1 : Int32) (σ : St) : Int32 × St := if (σ.1 0 33) = 0 then (if x1 < 97 then (f_Mo_readSimple_105 x1 σ) else (if (σ.1 0 3) ≤ (x1 - 97) then (f_Mo_readSimple_105 x1 σ) else (if (σ.1 2 (x1 - 97).toNatClampNeg) < 0 then (f_Mo_readSimple_110 x1 0 σ) else (f_Mo_readSimple_105 x1 σ)))) else (f_Mo_readSimple_105 x1 σ)
def k_Mo_readSimple_68 (x1 : Int32) (σ : St) : Prop := ((σ.1 0 33) = 0 → ((x1 < 97 → (k_Mo_readSimple_105 x1 σ)) ∧ (¬ x1 < 97 → (((σ.1 0 3) ≤ (x1 - 97) → (k_Mo_readSimple_105 x1 σ)) ∧ (¬ (σ.1 0 3) ≤ (x1 - 97) → (vp_in (x1 - 97) 12 ∧ (((σ.1 2 (x1 - 97).toNatClampNeg) < 0 → (k_Mo_readSimple_110 x1 0 σ)) ∧ (¬ (σ.1 2 (x1 - 97).toNatClampNeg) < 0 → (k_Mo_readSimple_105 x1 σ))))))))) ∧ (¬ (σ.1 0 33) = 0 → (k_Mo_readSimple_105 x1 σ))
def f_Mo_readSimple_33 (x1 : Int32) (σ : St) : Int32 × St := if x1 < 120 then (f_Mo_readSimple_68 x1 σ) else (if 122 < x1 then (f_Mo_readSimple_68 x1 σ) else (f_Mo_readSimple_67 ((f_Mo_found 1 (σ.1 4 (x1 - 120).toNatClampNeg) (-1) (-1) (x1 - 120) 0 0 σ).1) ((f_Mo_found 1 (σ.1 4 (x1 - 120).toNatClampNeg) (-1) (-1) (x1 - 120) 0 0 σ).2)))
def k_Mo_readSimple_33 (x1 : Int32) (σ : St) : Prop := (x1 < 120 → (k_Mo_readSimple_68 x1 σ)) ∧ (¬ x1 < 120 → ((122 < x1 → (k_Mo_readSimple_68 x1 σ)) ∧ (¬ 122 < x1 → (vp_in (x1 - 120) 3 ∧ ((k_Mo_found 1 (σ.1 4 (x1 - 120).toNatClampNeg) (-1) (-1) (x1 - 120) 0 0 σ) ∧ (k_Mo_readSimple_67 ((f_Mo_found 1 (σ.1 4 (x1 - 120).toNatClampNeg) (-1) (-1) (x1 - 120) 0 0 σ).1) ((f_Mo_found 1 (σ.1 4 (x1 - 120).toNatClampNeg) (-1) (-1) (x1 - 120) 0 0 σ).2)))))))
def f_Mo_readSimple_5 (x1 : Int32) (σ : St) : Int32 × St := if x1 = 45 then (f_Mo_readSimple_18 σ) else (if (f_Mo_digit x1 σ) = 0 then (f_Mo_readSimple_33 x1 (sF σ 0 32 ((σ.1 0 32) + 1))) else (f_Mo_readSimple_18 σ))
def k_Mo_readSimple_5 (x1 : Int32) (σ : St) : Prop := (x1 = 45 → (k_Mo_readSimple_18 σ)) ∧ (¬ x1 = 45 → ((k_Mo_digit x1 σ) ∧ (((f_Mo_digit x1 σ) = 0 → (k_Mo_readSimple_33 x1 (sF σ 0 32 ((σ.1 0 32) + 1)))) ∧ (¬ (f_Mo_digit x1 σ) = 0 → (k_Mo_readSimple_18 σ)))))
def f_Mo_readSimple (σ : St) : Int32 × St := f_Mo_readSimple_5 (f_Mo_peek σ) σ
def k_Mo_readSimple (σ : St) : Prop := (k_Mo_peek σ) ∧ (k_Mo_readSimple_5 (f_Mo_peek σ) σ)
abbrev w_Mo_readSimple : List Cond := Cond.code y_Mo_readSimple b_Mo_readSimple 2 (some .int) :: gw
abbrev rm_Mo_readSimple : Room := { frames := 3, cells := 0, slots := 0, locals := 66 }
set_option maxHeartbeats 4000000 in
set_option maxRecDepth 100000 in
theorem c_Mo_readSimple (l : Launch) (D : va_G) (ty : Nat → ClassId) (h : Nat → Nat) (px : va_W) (sa : Nat → Nat) (σ : St) (sz : Nat) (hk : k_Mo_readSimple σ) : Met l y_Mo_readSimple w_Mo_readSimple rm_Mo_readSimple (va_Pc [.ref (h 0)] (fun U => U.heap.size = sz ∧ va_P D classes (Wm ty h σ px) U.heap ∧ va_K D classes (Ta ty) U ∧ NW U ∧ MK sa (va_A (Wm ty h σ px) sz) U U.heap ∧ va_D (fun _ => True) (Wm ty h σ px))) (va_Qi (fun r (u : St) => (r, u) = f_Mo_readSimple σ) (fun u t => va_P D classes (Wm ty h u px) t.heap) (va_A (Wm ty h σ px) sz)) 0 0 (va_A (Wm ty h σ px) sz) := by
  refine Met.ofW (cc := b_Mo_readSimple) (maxL := 2) (ret := (some .int)) (by decide) rfl ?_
  intro p e s m args below meth c s₁ B hml hv
  obtain ⟨ha, hsz, hP, hK, hN, hM, hD0⟩ := hv
  have hx := B.exec
  have hb := B.bytes
  have hr := B.returns
  have hg : ∀ w ∈ gw, w.before args s = true := fun w h9 => atoms_spec (ws := w_Mo_readSimple) B.pre w (List.mem_cons_of_mem _ h9)
  have hown : s.vm.findClass "ClauseLedgerModel" = some m.cls := findClass_of_methodNamed B.named
  have hlocks := B.notSynchronized
  subst hsz
  have hD := hD0.self (sz := s.heap.size)
  generalize hAe : va_A (Wm ty h σ px) s.heap.size = A at hD hM ⊢
  have hA : ∀ q : Nat, s.heap.size ≤ q → A q := fun q h9 => by rw [← hAe]; exact Or.inr h9
  have hS : va_S A s.heap s.heap [] := va_S.rf
  have he : entryFrame m args 2 = entryFrame m ([.ref (h 0)] : List Value).toArray 2 := by rw [ha]
  rw [he, lg_entry_eq]
  have hl := lv_entry ([.ref (h 0)]) (n := 2) (Nat.le_of_ble_eq_true rfl)
  generalize (lg_sl ([.ref (h 0)]) ++ List.replicate (2 - (lg_sl ([.ref (h 0)])).length) Slot.unset).toArray = ls at hl ⊢
  have hl : lv_has ls 2 [(0, .ref (h 0))] := hl
  generalize hv : f_Mo_readSimple σ = v
  replace hv := hv.symm
  have B22 : ∀ (H : Heap) (locs : List Loc) (ls : Array Slot) (s0 : Int32) (σ : St), v = f_Mo_readSimple_22 s0 σ → k_Mo_readSimple_22 s0 σ → lv_has ls 2 [] → va_P D classes (Wm ty h σ px) H → va_D A (Wm ty h σ px) → va_S A s.heap H locs → W p l e (headSpec w_Mo_readSimple rm_Mo_readSimple).room s m args below meth c H locs 0 0 (MQ below (va_Qi (fun r (u : St) => (r, u) = v) (fun u t => va_P D classes (Wm ty h u px) t.heap) A) args s 0 0 A) (F0 m 22 ls [.int s0]) := by
    intro H locs ls s0 σ hv hk hl hP hD hS
    unfold f_Mo_readSimple_22 at hv
    unfold k_Mo_readSimple_22 at hk
    exact W.iret hx hb hr (fun t ht hW => ⟨⟨_, _, rfl, hv.symm, by dsimp only; rw [ht]; exact hP⟩, hS.F ht⟩) hS.2.2 d_Mo_readSimple_22
  have B18 : ∀ (H : Heap) (locs : List Loc) (ls : Array Slot) (σ : St), v = f_Mo_readSimple_18 σ → k_Mo_readSimple_18 σ → lv_has ls 2 [(0, .ref (h 0))] → va_P D classes (Wm ty h σ px) H → va_D A (Wm ty h σ px) → va_S A s.heap H locs → W p l e (headSpec w_Mo_readSimple rm_Mo_readSimple).room s m args below meth c H locs 0 0 (MQ below (va_Qi (fun r (u : St) => (r, u) = v) (fun u t => va_P D classes (Wm ty h u px) t.heap) A) args s 0 0 A) (F0 m 18 ls []) := by
    intro H locs ls σ hv hk hl hP hD hS
    unfold f_Mo_readSimple_18 at hv
    unfold k_Mo_readSimple_18 at hk
    refine lv_aload_n hx hb d_Mo_readSimple_18 rfl (lv_at hl 0 rfl) ?_
    obtain ⟨hk0, hk⟩ := hk
    refine va_calli (va_runV (As := []) (rest := []) ⟨hx, hb, hml, hown, hg⟩ (c_Mo_readConstant l D ty h px sa σ H.size  hk0) ⟨callB_of 0 hg (gw_C m_1473) rfl rfl rfl (hg _ m_13) (hg _ m_1470) hd_Mo_readConstant ⟨Nat.le_of_ble_eq_true rfl, Nat.le_of_ble_eq_true rfl⟩, hg _ m_1472, hg _ ms_55⟩ (zz_preVW hM hS hA hN hK hP hD 0 rfl rfl) rfl rfl hl.1 rfl (lv_room (Nat.le_of_ble_eq_true rfl)) d_Mo_readSimple_19 ⟨Nat.le_of_ble_eq_true rfl, Nat.le_of_ble_eq_true rfl⟩) hS (fun q _ h => zz_free hD hS hA q h) (zz_free hD hS hA) (fun r19 u19 t H locs ht hvm hp hP1 hz hk1 hS => ?_)
    rw [ht] at hP1
    rw [← hp] at hv hk
    have hD : va_D A (Wm ty h u19 px) := zz_D hD rfl
    have hP := hP1
    exact B22 _ _ _ r19 u19 hv hk (lv_sub hl [] rfl) hP hD hS
  have B67 : ∀ (H : Heap) (locs : List Loc) (ls : Array Slot) (s0 : Int32) (σ : St), v = f_Mo_readSimple_67 s0 σ → k_Mo_readSimple_67 s0 σ → lv_has ls 2 [] → va_P D classes (Wm ty h σ px) H → va_D A (Wm ty h σ px) → va_S A s.heap H locs → W p l e (headSpec w_Mo_readSimple rm_Mo_readSimple).room s m args below meth c H locs 0 0 (MQ below (va_Qi (fun r (u : St) => (r, u) = v) (fun u t => va_P D classes (Wm ty h u px) t.heap) A) args s 0 0 A) (F0 m 67 ls [.int s0]) := by
    intro H locs ls s0 σ hv hk hl hP hD hS
    unfold f_Mo_readSimple_67 at hv
    unfold k_Mo_readSimple_67 at hk
    exact W.iret hx hb hr (fun t ht hW => ⟨⟨_, _, rfl, hv.symm, by dsimp only; rw [ht]; exact hP⟩, hS.F ht⟩) hS.2.2 d_Mo_readSimple_67
  have B146 : ∀ (H : Heap) (locs : List Loc) (ls : Array Slot) (s0 : Int32) (σ : St), v = f_Mo_readSimple_146 s0 σ → k_Mo_readSimple_146 s0 σ → lv_has ls 2 [] → va_P D classes (Wm ty h σ px) H → va_D A (Wm ty h σ px) → va_S A s.heap H locs → W p l e (headSpec w_Mo_readSimple rm_Mo_readSimple).room s m args below meth c H locs 0 0 (MQ below (va_Qi (fun r (u : St) => (r, u) = v) (fun u t => va_P D classes (Wm ty h u px) t.heap) A) args s 0 0 A) (F0 m 146 ls [.int s0]) := by
    intro H locs ls s0 σ hv hk hl hP hD hS
    unfold f_Mo_readSimple_146 at hv
    unfold k_Mo_readSimple_146 at hk
    exact W.iret hx hb hr (fun t ht hW => ⟨⟨_, _, rfl, hv.symm, by dsimp only; rw [ht]; exact hP⟩, hS.F ht⟩) hS.2.2 d_Mo_readSimple_146
  have B113 : ∀ (H : Heap) (locs : List Loc) (ls : Array Slot) (x1 : Int32) (σ : St), v = f_Mo_readSimple_113 x1 σ → k_Mo_readSimple_113 x1 σ → lv_has ls 2 [(0, .ref (h 0)), (1, .int x1)] → va_P D classes (Wm ty h σ px) H → va_D A (Wm ty h σ px) → va_S A s.heap H locs → W p l e (headSpec w_Mo_readSimple rm_Mo_readSimple).room s m args below meth c H locs 0 0 (MQ below (va_Qi (fun r (u : St) => (r, u) = v) (fun u t => va_P D classes (Wm ty h u px) t.heap) A) args s 0 0 A) (F0 m 113 ls []) := by
    intro H locs ls x1 σ hv hk hl hP hD hS
    unfold f_Mo_readSimple_113 at hv
    unfold k_Mo_readSimple_113 at hk
    refine lv_aload_n hx hb d_Mo_readSimple_113 rfl (lv_at hl 0 rfl) ?_
    refine va_get (v := .int (σ.1 0 33)) (C := R_Mo) (T := T_Mo) (N := 51) hx hb hg in_Mo hown hK hP 0 rfl rfl 33 (by decide) (hg _ m_1292) (fun _ h9 => h9) rfl d_Mo_readSimple_114 ?_
    refine lv_if_eq (tgt := 124) hx hb d_Mo_readSimple_117 (by decide) (fun hc => ?_) (fun hc => ?_)
    · have hv := hv.trans (if_pos hc)
      have hk := hk.1 hc
      refine lv_aload_n hx hb d_Mo_readSimple_124 rfl (lv_at hl 0 rfl) ?_
      refine lv_iconst (v := 0) hx hb d_Mo_readSimple_125 (by decide) ?_
      refine lv_aload_n hx hb d_Mo_readSimple_126 rfl (lv_at hl 0 rfl) ?_
      refine va_get (v := .ref (h 1)) (C := R_Mo) (T := T_Mo) (N := 51) hx hb hg in_Mo hown hK hP 0 rfl rfl 4 (by decide) (hg _ m_1263) (fun _ h9 => h9) rfl d_Mo_readSimple_127 ?_
      refine lv_iload_n hx hb d_Mo_readSimple_130 rfl (lv_at hl 1 rfl) ?_
      refine lv_bipush (v := 97) hx hb d_Mo_readSimple_131 (by decide) ?_
      refine lv_isub hx hb d_Mo_readSimple_133 ?_
      obtain ⟨hk0, hk⟩ := hk
      refine va_iald hx hb hK hP 1 0 rfl rfl hk0 d_Mo_readSimple_134 ?_
      refine lv_iconst (v := -1) hx hb d_Mo_readSimple_135 (by decide) ?_
      refine lv_iconst (v := -1) hx hb d_Mo_readSimple_136 (by decide) ?_
      refine lv_iload_n hx hb d_Mo_readSimple_137 rfl (lv_at hl 1 rfl) ?_
      refine lv_bipush (v := 97) hx hb d_Mo_readSimple_138 (by decide) ?_
      refine lv_isub hx hb d_Mo_readSimple_140 ?_
      refine lv_iconst (v := 0) hx hb d_Mo_readSimple_141 (by decide) ?_
      refine lv_iconst (v := 0) hx hb d_Mo_readSimple_142 (by decide) ?_
      obtain ⟨hk0, hk⟩ := hk
      refine va_calli (va_runV (As := [.int 0, .int (σ.1 1 (x1 - 97).toNatClampNeg), .int (-1), .int (-1), .int (x1 - 97), .int 0, .int 0]) (rest := []) ⟨hx, hb, hml, hown, hg⟩ (c_Mo_found l D ty h px sa σ H.size 0 (σ.1 1 (x1 - 97).toNatClampNeg) (-1) (-1) (x1 - 97) 0 0 hk0) ⟨callB_of 7 hg (gw_C m_1484) rfl rfl rfl (hg _ m_13) (hg _ m_1481) hd_Mo_found ⟨Nat.le_of_ble_eq_true rfl, Nat.le_of_ble_eq_true rfl⟩, hg _ m_1483, hg _ ms_57⟩ (zz_preVW hM hS hA hN hK hP hD 0 rfl rfl) rfl rfl hl.1 rfl (lv_room (Nat.le_of_ble_eq_true rfl)) d_Mo_readSimple_143 ⟨Nat.le_of_ble_eq_true rfl, Nat.le_of_ble_eq_true rfl⟩) hS (fun q _ h => zz_free hD hS hA q h) (zz_free hD hS hA) (fun r143 u143 t H locs ht hvm hp hP1 hz hk1 hS => ?_)
      rw [ht] at hP1
      rw [← hp] at hv hk
      have hD : va_D A (Wm ty h u143 px) := zz_D hD rfl
      have hP := hP1
      exact B146 _ _ _ r143 u143 hv hk (lv_sub hl [] rfl) hP hD hS
    · have hv := hv.trans (if_neg hc)
      have hk := hk.2 hc
      refine lv_iconst (v := 0) hx hb d_Mo_readSimple_120 (by decide) ?_
      refine lv_goto (tgt := 146) hx hb d_Mo_readSimple_121 (by decide) ?_
      exact B146 _ _ _ 0 σ hv hk (lv_sub hl [] rfl) hP hD hS
  have B110 : ∀ (H : Heap) (locs : List Loc) (ls : Array Slot) (x1 : Int32) (s0 : Int32) (σ : St), v = f_Mo_readSimple_110 x1 s0 σ → k_Mo_readSimple_110 x1 s0 σ → lv_has ls 2 [(0, .ref (h 0)), (1, .int x1)] → va_P D classes (Wm ty h σ px) H → va_D A (Wm ty h σ px) → va_S A s.heap H locs → W p l e (headSpec w_Mo_readSimple rm_Mo_readSimple).room s m args below meth c H locs 0 0 (MQ below (va_Qi (fun r (u : St) => (r, u) = v) (fun u t => va_P D classes (Wm ty h u px) t.heap) A) args s 0 0 A) (F0 m 110 ls [.int s0, .ref (h 0)]) := by
    intro H locs ls x1 s0 σ hv hk hl hP hD hS
    unfold f_Mo_readSimple_110 at hv
    unfold k_Mo_readSimple_110 at hk
    obtain ⟨hk0, hk⟩ := hk
    refine va_put (v := .int s0) (ty := .boolean) (C := R_Mo) (T := T_Mo) (N := 51) hx hb hg in_Mo ty_Mo ok_Mo nm_Mo hown hK hP hD hS 0 rfl rfl 33 (by decide) (hg _ m_1292) (fun _ h9 => h9) rfl (by decide +kernel) hk0.1 hk0.2 (Nat.le_of_ble_eq_true rfl) d_Mo_readSimple_110 (fun H locs hP hD hS => ?_)
    have hP : va_P D classes (Wm ty h (sF σ 0 33 s0) px) H := hP
    have hD : va_D A (Wm ty h (sF σ 0 33 s0) px) := hD
    exact B113 _ _ _ x1 (sF σ 0 33 s0) hv hk (lv_sub hl [0, 1] rfl) hP hD hS
  have B105 : ∀ (H : Heap) (locs : List Loc) (ls : Array Slot) (x1 : Int32) (σ : St), v = f_Mo_readSimple_105 x1 σ → k_Mo_readSimple_105 x1 σ → lv_has ls 2 [(0, .ref (h 0)), (1, .int x1)] → va_P D classes (Wm ty h σ px) H → va_D A (Wm ty h σ px) → va_S A s.heap H locs → W p l e (headSpec w_Mo_readSimple rm_Mo_readSimple).room s m args below meth c H locs 0 0 (MQ below (va_Qi (fun r (u : St) => (r, u) = v) (fun u t => va_P D classes (Wm ty h u px) t.heap) A) args s 0 0 A) (F0 m 105 ls [.ref (h 0)]) := by
    intro H locs ls x1 σ hv hk hl hP hD hS
    unfold f_Mo_readSimple_105 at hv
    unfold k_Mo_readSimple_105 at hk
    refine lv_iconst (v := 1) hx hb d_Mo_readSimple_105 (by decide) ?_
    refine lv_goto (tgt := 110) hx hb d_Mo_readSimple_106 (by decide) ?_
    exact B110 _ _ _ x1 1 σ hv hk (lv_sub hl [0, 1] rfl) hP hD hS
  have B68 : ∀ (H : Heap) (locs : List Loc) (ls : Array Slot) (x1 : Int32) (σ : St), v = f_Mo_readSimple_68 x1 σ → k_Mo_readSimple_68 x1 σ → lv_has ls 2 [(0, .ref (h 0)), (1, .int x1)] → va_P D classes (Wm ty h σ px) H → va_D A (Wm ty h σ px) → va_S A s.heap H locs → W p l e (headSpec w_Mo_readSimple rm_Mo_readSimple).room s m args below meth c H locs 0 0 (MQ below (va_Qi (fun r (u : St) => (r, u) = v) (fun u t => va_P D classes (Wm ty h u px) t.heap) A) args s 0 0 A) (F0 m 68 ls []) := by
    intro H locs ls x1 σ hv hk hl hP hD hS
    unfold f_Mo_readSimple_68 at hv
    unfold k_Mo_readSimple_68 at hk
    refine lv_aload_n hx hb d_Mo_readSimple_68 rfl (lv_at hl 0 rfl) ?_
    refine lv_aload_n hx hb d_Mo_readSimple_69 rfl (lv_at hl 0 rfl) ?_
    refine va_get (v := .int (σ.1 0 33)) (C := R_Mo) (T := T_Mo) (N := 51) hx hb hg in_Mo hown hK hP 0 rfl rfl 33 (by decide) (hg _ m_1292) (fun _ h9 => h9) rfl d_Mo_readSimple_70 ?_
    refine lv_if_ne (tgt := 105) hx hb d_Mo_readSimple_73 (by decide) (fun hc => ?_) (fun hc => ?_)
    · have hv := hv.trans (if_neg hc)
      have hk := hk.2 hc
      exact B105 _ _ _ x1 σ hv hk (lv_sub hl [0, 1] rfl) hP hD hS
    · have hv := hv.trans (if_pos hc)
      have hk := hk.1 hc
      refine lv_iload_n hx hb d_Mo_readSimple_76 rfl (lv_at hl 1 rfl) ?_
      refine lv_bipush (v := 97) hx hb d_Mo_readSimple_77 (by decide) ?_
      refine lv_icmp_lt (tgt := 105) hx hb d_Mo_readSimple_79 (by decide) (fun hc => ?_) (fun hc => ?_)
      · have hv := hv.trans (if_pos hc)
        have hk := hk.1 hc
        exact B105 _ _ _ x1 σ hv hk (lv_sub hl [0, 1] rfl) hP hD hS
      · have hv := hv.trans (if_neg hc)
        have hk := hk.2 hc
        refine lv_iload_n hx hb d_Mo_readSimple_82 rfl (lv_at hl 1 rfl) ?_
        refine lv_bipush (v := 97) hx hb d_Mo_readSimple_83 (by decide) ?_
        refine lv_isub hx hb d_Mo_readSimple_85 ?_
        refine lv_aload_n hx hb d_Mo_readSimple_86 rfl (lv_at hl 0 rfl) ?_
        refine va_get (v := .int (σ.1 0 3)) (C := R_Mo) (T := T_Mo) (N := 51) hx hb hg in_Mo hown hK hP 0 rfl rfl 3 (by decide) (hg _ m_1262) (fun _ h9 => h9) rfl d_Mo_readSimple_87 ?_
        refine lv_icmp_ge (tgt := 105) hx hb d_Mo_readSimple_90 (by decide) (fun hc => ?_) (fun hc => ?_)
        · have hv := hv.trans (if_pos hc)
          have hk := hk.1 hc
          exact B105 _ _ _ x1 σ hv hk (lv_sub hl [0, 1] rfl) hP hD hS
        · have hv := hv.trans (if_neg hc)
          have hk := hk.2 hc
          refine lv_aload_n hx hb d_Mo_readSimple_93 rfl (lv_at hl 0 rfl) ?_
          refine va_get (v := .ref (h 2)) (C := R_Mo) (T := T_Mo) (N := 51) hx hb hg in_Mo hown hK hP 0 rfl rfl 5 (by decide) (hg _ m_1264) (fun _ h9 => h9) rfl d_Mo_readSimple_94 ?_
          refine lv_iload_n hx hb d_Mo_readSimple_97 rfl (lv_at hl 1 rfl) ?_
          refine lv_bipush (v := 97) hx hb d_Mo_readSimple_98 (by decide) ?_
          refine lv_isub hx hb d_Mo_readSimple_100 ?_
          obtain ⟨hk0, hk⟩ := hk
          refine va_iald hx hb hK hP 2 0 rfl rfl hk0 d_Mo_readSimple_101 ?_
          refine lv_if_lt (tgt := 109) hx hb d_Mo_readSimple_102 (by decide) (fun hc => ?_) (fun hc => ?_)
          · have hv := hv.trans (if_pos hc)
            have hk := hk.1 hc
            refine lv_iconst (v := 0) hx hb d_Mo_readSimple_109 (by decide) ?_
            exact B110 _ _ _ x1 0 σ hv hk (lv_sub hl [0, 1] rfl) hP hD hS
          · have hv := hv.trans (if_neg hc)
            have hk := hk.2 hc
            exact B105 _ _ _ x1 σ hv hk (lv_sub hl [0, 1] rfl) hP hD hS
  have B33 : ∀ (H : Heap) (locs : List Loc) (ls : Array Slot) (x1 : Int32) (σ : St), v = f_Mo_readSimple_33 x1 σ → k_Mo_readSimple_33 x1 σ → lv_has ls 2 [(0, .ref (h 0)), (1, .int x1)] → va_P D classes (Wm ty h σ px) H → va_D A (Wm ty h σ px) → va_S A s.heap H locs → W p l e (headSpec w_Mo_readSimple rm_Mo_readSimple).room s m args below meth c H locs 0 0 (MQ below (va_Qi (fun r (u : St) => (r, u) = v) (fun u t => va_P D classes (Wm ty h u px) t.heap) A) args s 0 0 A) (F0 m 33 ls []) := by
    intro H locs ls x1 σ hv hk hl hP hD hS
    unfold f_Mo_readSimple_33 at hv
    unfold k_Mo_readSimple_33 at hk
    refine lv_iload_n hx hb d_Mo_readSimple_33 rfl (lv_at hl 1 rfl) ?_
    refine lv_bipush (v := 120) hx hb d_Mo_readSimple_34 (by decide) ?_
    refine lv_icmp_lt (tgt := 68) hx hb d_Mo_readSimple_36 (by decide) (fun hc => ?_) (fun hc => ?_)
    · have hv := hv.trans (if_pos hc)
      have hk := hk.1 hc
      exact B68 _ _ _ x1 σ hv hk (lv_sub hl [0, 1] rfl) hP hD hS
    · have hv := hv.trans (if_neg hc)
      have hk := hk.2 hc
      refine lv_iload_n hx hb d_Mo_readSimple_39 rfl (lv_at hl 1 rfl) ?_
      refine lv_bipush (v := 122) hx hb d_Mo_readSimple_40 (by decide) ?_
      refine lv_icmp_gt (tgt := 68) hx hb d_Mo_readSimple_42 (by decide) (fun hc => ?_) (fun hc => ?_)
      · have hv := hv.trans (if_pos hc)
        have hk := hk.1 hc
        exact B68 _ _ _ x1 σ hv hk (lv_sub hl [0, 1] rfl) hP hD hS
      · have hv := hv.trans (if_neg hc)
        have hk := hk.2 hc
        refine lv_aload_n hx hb d_Mo_readSimple_45 rfl (lv_at hl 0 rfl) ?_
        refine lv_iconst (v := 1) hx hb d_Mo_readSimple_46 (by decide) ?_
        refine lv_aload_n hx hb d_Mo_readSimple_47 rfl (lv_at hl 0 rfl) ?_
        refine va_get (v := .ref (h 4)) (C := R_Mo) (T := T_Mo) (N := 51) hx hb hg in_Mo hown hK hP 0 rfl rfl 7 (by decide) (hg _ m_1266) (fun _ h9 => h9) rfl d_Mo_readSimple_48 ?_
        refine lv_iload_n hx hb d_Mo_readSimple_51 rfl (lv_at hl 1 rfl) ?_
        refine lv_bipush (v := 120) hx hb d_Mo_readSimple_52 (by decide) ?_
        refine lv_isub hx hb d_Mo_readSimple_54 ?_
        obtain ⟨hk0, hk⟩ := hk
        refine va_iald hx hb hK hP 4 0 rfl rfl hk0 d_Mo_readSimple_55 ?_
        refine lv_iconst (v := -1) hx hb d_Mo_readSimple_56 (by decide) ?_
        refine lv_iconst (v := -1) hx hb d_Mo_readSimple_57 (by decide) ?_
        refine lv_iload_n hx hb d_Mo_readSimple_58 rfl (lv_at hl 1 rfl) ?_
        refine lv_bipush (v := 120) hx hb d_Mo_readSimple_59 (by decide) ?_
        refine lv_isub hx hb d_Mo_readSimple_61 ?_
        refine lv_iconst (v := 0) hx hb d_Mo_readSimple_62 (by decide) ?_
        refine lv_iconst (v := 0) hx hb d_Mo_readSimple_63 (by decide) ?_
        obtain ⟨hk0, hk⟩ := hk
        refine va_calli (va_runV (As := [.int 1, .int (σ.1 4 (x1 - 120).toNatClampNeg), .int (-1), .int (-1), .int (x1 - 120), .int 0, .int 0]) (rest := []) ⟨hx, hb, hml, hown, hg⟩ (c_Mo_found l D ty h px sa σ H.size 1 (σ.1 4 (x1 - 120).toNatClampNeg) (-1) (-1) (x1 - 120) 0 0 hk0) ⟨callB_of 7 hg (gw_C m_1484) rfl rfl rfl (hg _ m_13) (hg _ m_1481) hd_Mo_found ⟨Nat.le_of_ble_eq_true rfl, Nat.le_of_ble_eq_true rfl⟩, hg _ m_1483, hg _ ms_57⟩ (zz_preVW hM hS hA hN hK hP hD 0 rfl rfl) rfl rfl hl.1 rfl (lv_room (Nat.le_of_ble_eq_true rfl)) d_Mo_readSimple_64 ⟨Nat.le_of_ble_eq_true rfl, Nat.le_of_ble_eq_true rfl⟩) hS (fun q _ h => zz_free hD hS hA q h) (zz_free hD hS hA) (fun r64 u64 t H locs ht hvm hp hP1 hz hk1 hS => ?_)
        rw [ht] at hP1
        rw [← hp] at hv hk
        have hD : va_D A (Wm ty h u64 px) := zz_D hD rfl
        have hP := hP1
        exact B67 _ _ _ r64 u64 hv hk (lv_sub hl [] rfl) hP hD hS
  have B5 : ∀ (H : Heap) (locs : List Loc) (ls : Array Slot) (x1 : Int32) (σ : St), v = f_Mo_readSimple_5 x1 σ → k_Mo_readSimple_5 x1 σ → lv_has ls 2 [(0, .ref (h 0)), (1, .int x1)] → va_P D classes (Wm ty h σ px) H → va_D A (Wm ty h σ px) → va_S A s.heap H locs → W p l e (headSpec w_Mo_readSimple rm_Mo_readSimple).room s m args below meth c H locs 0 0 (MQ below (va_Qi (fun r (u : St) => (r, u) = v) (fun u t => va_P D classes (Wm ty h u px) t.heap) A) args s 0 0 A) (F0 m 5 ls []) := by
    intro H locs ls x1 σ hv hk hl hP hD hS
    unfold f_Mo_readSimple_5 at hv
    unfold k_Mo_readSimple_5 at hk
    refine lv_iload_n hx hb d_Mo_readSimple_5 rfl (lv_at hl 1 rfl) ?_
    refine lv_bipush (v := 45) hx hb d_Mo_readSimple_6 (by decide) ?_
    refine lv_icmp_eq (tgt := 18) hx hb d_Mo_readSimple_8 (by decide) (fun hc => ?_) (fun hc => ?_)
    · have hv := hv.trans (if_pos hc)
      have hk := hk.1 hc
      exact B18 _ _ _  σ hv hk (lv_sub hl [0] rfl) hP hD hS
    · have hv := hv.trans (if_neg hc)
      have hk := hk.2 hc
      refine lv_iload_n hx hb d_Mo_readSimple_11 rfl (lv_at hl 1 rfl) ?_
      obtain ⟨hk0, hk⟩ := hk
      refine zz_callV (va_runS (As := [.int x1]) (rest := []) ⟨hx, hb, hml, hown, hg⟩ (c_Mo_digit l D ty h px sa σ x1 hk0) ⟨callB_of 1 hg (gw_C m_1469) rfl rfl rfl (hg _ m_13) (hg _ m_1467) hd_Mo_digit ⟨Nat.le_of_ble_eq_true rfl, Nat.le_of_ble_eq_true rfl⟩, hg _ m_1468⟩ (zz_preS (hM.at hS) hN hK hP) rfl rfl hl.1 rfl (lv_room (Nat.le_of_ble_eq_true rfl)) d_Mo_readSimple_12 ⟨Nat.le_of_ble_eq_true rfl, Nat.le_of_ble_eq_true rfl⟩) ?_
      refine lv_if_eq (tgt := 23) hx hb d_Mo_readSimple_15 (by decide) (fun hc => ?_) (fun hc => ?_)
      · have hv := hv.trans (if_pos hc)
        have hk := hk.1 hc
        refine lv_aload_n hx hb d_Mo_readSimple_23 rfl (lv_at hl 0 rfl) ?_
        refine lv_dup hx hb d_Mo_readSimple_24 rfl ?_
        refine va_get (v := .int (σ.1 0 32)) (C := R_Mo) (T := T_Mo) (N := 51) hx hb hg in_Mo hown hK hP 0 rfl rfl 32 (by decide) (hg _ m_1291) (fun _ h9 => h9) rfl d_Mo_readSimple_25 ?_
        refine lv_iconst (v := 1) hx hb d_Mo_readSimple_28 (by decide) ?_
        refine lv_iadd hx hb d_Mo_readSimple_29 ?_
        refine va_put (v := .int ((σ.1 0 32) + 1)) (ty := .int) (C := R_Mo) (T := T_Mo) (N := 51) hx hb hg in_Mo ty_Mo ok_Mo nm_Mo hown hK hP hD hS 0 rfl rfl 32 (by decide) (hg _ m_1291) (fun _ h9 => h9) rfl (by decide +kernel) rfl rfl (Nat.le_of_ble_eq_true rfl) d_Mo_readSimple_30 (fun H locs hP hD hS => ?_)
        have hP : va_P D classes (Wm ty h (sF σ 0 32 ((σ.1 0 32) + 1)) px) H := hP
        have hD : va_D A (Wm ty h (sF σ 0 32 ((σ.1 0 32) + 1)) px) := hD
        exact B33 _ _ _ x1 (sF σ 0 32 ((σ.1 0 32) + 1)) hv hk (lv_sub hl [0, 1] rfl) hP hD hS
      · have hv := hv.trans (if_neg hc)
        have hk := hk.2 hc
        exact B18 _ _ _  σ hv hk (lv_sub hl [0] rfl) hP hD hS
  unfold f_Mo_readSimple at hv
  unfold k_Mo_readSimple at hk
  refine lv_aload_n hx hb d_Mo_readSimple_0 rfl (lv_at hl 0 rfl) ?_
  obtain ⟨hk0, hk⟩ := hk
  refine zz_callV (va_runV (As := []) (rest := []) ⟨hx, hb, hml, hown, hg⟩ (c_Mo_peek l D ty h px sa σ  hk0) ⟨callB_of 0 hg (gw_C m_1451) rfl rfl rfl (hg _ m_13) (hg _ m_1448) hd_Mo_peek ⟨Nat.le_of_ble_eq_true rfl, Nat.le_of_ble_eq_true rfl⟩, hg _ m_1450, hg _ ms_51⟩ (zz_preV (hM.at hS) hN hK hP 0 rfl rfl) rfl rfl hl.1 rfl (lv_room (Nat.le_of_ble_eq_true rfl)) d_Mo_readSimple_1 ⟨Nat.le_of_ble_eq_true rfl, Nat.le_of_ble_eq_true rfl⟩) ?_
  refine lv_istore_n (lv' := [(1, .int (f_Mo_peek σ)), (0, .ref (h 0))]) hx hb d_Mo_readSimple_4 rfl hl (by decide) rfl (fun ls hl => ?_)
  exact B5 _ _ _ (f_Mo_peek σ) σ hv hk (lv_sub hl [1, 0] rfl) hP hD hS

-- ClauseLedgerModel.signOf(I)I
abbrev b_Mo_signOf : ByteArray := prog_14_method_23_code
def y_Mo_signOf : MethodName := ⟨"ClauseLedgerModel", "signOf", "(I)I"⟩
theorem hd_Mo_signOf : y_Mo_signOf.cls ≠ "java/lang/invoke/MethodHandle" ∧ y_Mo_signOf.cls ≠ "java/lang/invoke/VarHandle" ∧ (parseMethodDescriptor y_Mo_signOf.desc).map (fun d => d.parameters.length) = some 1 := by decide +kernel
theorem d_Mo_signOf_0 : decode b_Mo_signOf 0 = .ok (.iload_n 0, 1) := by decide +kernel
theorem d_Mo_signOf_1 : decode b_Mo_signOf 1 = .ok (.lookupswitch 85 #[(38, 79), (42, 69), (43, 67), (60, 73), (61, 71), (124, 82), (126, 76)], 67) := by decide +kernel
theorem d_Mo_signOf_68 : decode b_Mo_signOf 68 = .ok (.iconst 3, 1) := by decide +kernel
theorem d_Mo_signOf_69 : decode b_Mo_signOf 69 = .ok (.ireturn, 1) := by decide +kernel
theorem d_Mo_signOf_70 : decode b_Mo_signOf 70 = .ok (.iconst 4, 1) := by decide +kernel
theorem d_Mo_signOf_71 : decode b_Mo_signOf 71 = .ok (.ireturn, 1) := by decide +kernel
theorem d_Mo_signOf_72 : decode b_Mo_signOf 72 = .ok (.iconst 5, 1) := by decide +kernel
theorem d_Mo_signOf_73 : decode b_Mo_signOf 73 = .ok (.ireturn, 1) := by decide +kernel
theorem d_Mo_signOf_74 : decode b_Mo_signOf 74 = .ok (.bipush 6, 2) := by decide +kernel
theorem d_Mo_signOf_76 : decode b_Mo_signOf 76 = .ok (.ireturn, 1) := by decide +kernel
theorem d_Mo_signOf_77 : decode b_Mo_signOf 77 = .ok (.bipush 7, 2) := by decide +kernel
theorem d_Mo_signOf_79 : decode b_Mo_signOf 79 = .ok (.ireturn, 1) := by decide +kernel
theorem d_Mo_signOf_80 : decode b_Mo_signOf 80 = .ok (.bipush 8, 2) := by decide +kernel
theorem d_Mo_signOf_82 : decode b_Mo_signOf 82 = .ok (.ireturn, 1) := by decide +kernel
theorem d_Mo_signOf_83 : decode b_Mo_signOf 83 = .ok (.bipush 9, 2) := by decide +kernel
theorem d_Mo_signOf_85 : decode b_Mo_signOf 85 = .ok (.ireturn, 1) := by decide +kernel
theorem d_Mo_signOf_86 : decode b_Mo_signOf 86 = .ok (.bipush 10, 2) := by decide +kernel
theorem d_Mo_signOf_88 : decode b_Mo_signOf 88 = .ok (.ireturn, 1) := by decide +kernel
def f_Mo_signOf (a0 : Int32) (σ : St) : Int32 := if a0 = 38 then 8 else (if a0 = 42 then 4 else (if a0 = 43 then 3 else (if a0 = 60 then 6 else (if a0 = 61 then 5 else (if a0 = 124 then 9 else (if a0 = 126 then 7 else 10))))))
def k_Mo_signOf (a0 : Int32) (σ : St) : Prop := (a0 = 38 → True) ∧ (¬ a0 = 38 → ((a0 = 42 → True) ∧ (¬ a0 = 42 → ((a0 = 43 → True) ∧ (¬ a0 = 43 → ((a0 = 60 → True) ∧ (¬ a0 = 60 → ((a0 = 61 → True) ∧ (¬ a0 = 61 → ((a0 = 124 → True) ∧ (¬ a0 = 124 → ((a0 = 126 → True) ∧ (¬ a0 = 126 → True)))))))))))))
abbrev w_Mo_signOf : List Cond := Cond.code y_Mo_signOf b_Mo_signOf 1 (some .int) :: gw
abbrev rm_Mo_signOf : Room := { frames := 0, cells := 0, slots := 0, locals := 0 }
set_option maxHeartbeats 4000000 in
set_option maxRecDepth 100000 in
theorem c_Mo_signOf (l : Launch) (D : va_G) (ty : Nat → ClassId) (h : Nat → Nat) (px : va_W) (sa : Nat → Nat) (σ : St) (a0 : Int32) (hk : k_Mo_signOf a0 σ) : Met l y_Mo_signOf w_Mo_signOf rm_Mo_signOf (va_Pc [.int a0] (fun U => va_P D classes (Wm ty h σ px) U.heap ∧ va_K D classes (Ta ty) U ∧ NW U ∧ MK sa (fun _ => False) U U.heap)) (k2_QcV (.int (f_Mo_signOf a0 σ))) 0 0 (fun _ => False) := by
  refine Met.ofW (cc := b_Mo_signOf) (maxL := 1) (ret := (some .int)) (by decide) rfl ?_
  intro p e s m args below meth c s₁ B hml hv
  obtain ⟨ha, hP, hK, hN, hM⟩ := hv
  have hx := B.exec
  have hb := B.bytes
  have hr := B.returns
  have hg : ∀ w ∈ gw, w.before args s = true := fun w h9 => atoms_spec (ws := w_Mo_signOf) B.pre w (List.mem_cons_of_mem _ h9)
  have hown : s.vm.findClass "ClauseLedgerModel" = some m.cls := findClass_of_methodNamed B.named
  have hlocks := B.notSynchronized
  have he : entryFrame m args 1 = entryFrame m ([.int a0] : List Value).toArray 1 := by rw [ha]
  rw [he, lg_entry_eq]
  have hl := lv_entry ([.int a0]) (n := 1) (Nat.le_of_ble_eq_true rfl)
  generalize (lg_sl ([.int a0]) ++ List.replicate (1 - (lg_sl ([.int a0])).length) Slot.unset).toArray = ls at hl ⊢
  have hl : lv_has ls 1 [(0, .int a0)] := hl
  generalize hv : f_Mo_signOf a0 σ = v
  replace hv := hv.symm
  unfold f_Mo_signOf at hv
  unfold k_Mo_signOf at hk
  refine lv_iload_n hx hb d_Mo_signOf_0 rfl (lv_at hl 0 rfl) ?_
  by_cases hc38 : a0 = 38
  · have hv := hv.trans (if_pos hc38)
    have hk := hk.1 hc38
    refine lv_lookup (off := 79) (tgt := 80) hx hb d_Mo_signOf_1 (by decide) (by rw [hc38]; first | done | decide) (by decide) ?_
    refine lv_bipush (v := 8) hx hb d_Mo_signOf_80 (by decide) ?_
    exact W.iret hx hb hr (fun t ht hW => ⟨by rw [hv], ht⟩) (fun q h => nomatch h) d_Mo_signOf_82
  · have hv := hv.trans (if_neg hc38)
    have hk := hk.2 hc38
    by_cases hc42 : a0 = 42
    · have hv := hv.trans (if_pos hc42)
      have hk := hk.1 hc42
      refine lv_lookup (off := 69) (tgt := 70) hx hb d_Mo_signOf_1 (by decide) (by rw [hc42]; first | done | decide) (by decide) ?_
      refine lv_iconst (v := 4) hx hb d_Mo_signOf_70 (by decide) ?_
      exact W.iret hx hb hr (fun t ht hW => ⟨by rw [hv], ht⟩) (fun q h => nomatch h) d_Mo_signOf_71
    · have hv := hv.trans (if_neg hc42)
      have hk := hk.2 hc42
      by_cases hc43 : a0 = 43
      · have hv := hv.trans (if_pos hc43)
        have hk := hk.1 hc43
        refine lv_lookup (off := 67) (tgt := 68) hx hb d_Mo_signOf_1 (by decide) (by rw [hc43]; first | done | decide) (by decide) ?_
        refine lv_iconst (v := 3) hx hb d_Mo_signOf_68 (by decide) ?_
        exact W.iret hx hb hr (fun t ht hW => ⟨by rw [hv], ht⟩) (fun q h => nomatch h) d_Mo_signOf_69
      · have hv := hv.trans (if_neg hc43)
        have hk := hk.2 hc43
        by_cases hc60 : a0 = 60
        · have hv := hv.trans (if_pos hc60)
          have hk := hk.1 hc60
          refine lv_lookup (off := 73) (tgt := 74) hx hb d_Mo_signOf_1 (by decide) (by rw [hc60]; first | done | decide) (by decide) ?_
          refine lv_bipush (v := 6) hx hb d_Mo_signOf_74 (by decide) ?_
          exact W.iret hx hb hr (fun t ht hW => ⟨by rw [hv], ht⟩) (fun q h => nomatch h) d_Mo_signOf_76
        · have hv := hv.trans (if_neg hc60)
          have hk := hk.2 hc60
          by_cases hc61 : a0 = 61
          · have hv := hv.trans (if_pos hc61)
            have hk := hk.1 hc61
            refine lv_lookup (off := 71) (tgt := 72) hx hb d_Mo_signOf_1 (by decide) (by rw [hc61]; first | done | decide) (by decide) ?_
            refine lv_iconst (v := 5) hx hb d_Mo_signOf_72 (by decide) ?_
            exact W.iret hx hb hr (fun t ht hW => ⟨by rw [hv], ht⟩) (fun q h => nomatch h) d_Mo_signOf_73
          · have hv := hv.trans (if_neg hc61)
            have hk := hk.2 hc61
            by_cases hc124 : a0 = 124
            · have hv := hv.trans (if_pos hc124)
              have hk := hk.1 hc124
              refine lv_lookup (off := 82) (tgt := 83) hx hb d_Mo_signOf_1 (by decide) (by rw [hc124]; first | done | decide) (by decide) ?_
              refine lv_bipush (v := 9) hx hb d_Mo_signOf_83 (by decide) ?_
              exact W.iret hx hb hr (fun t ht hW => ⟨by rw [hv], ht⟩) (fun q h => nomatch h) d_Mo_signOf_85
            · have hv := hv.trans (if_neg hc124)
              have hk := hk.2 hc124
              by_cases hc126 : a0 = 126
              · have hv := hv.trans (if_pos hc126)
                have hk := hk.1 hc126
                refine lv_lookup (off := 76) (tgt := 77) hx hb d_Mo_signOf_1 (by decide) (by rw [hc126]; first | done | decide) (by decide) ?_
                refine lv_bipush (v := 7) hx hb d_Mo_signOf_77 (by decide) ?_
                exact W.iret hx hb hr (fun t ht hW => ⟨by rw [hv], ht⟩) (fun q h => nomatch h) d_Mo_signOf_79
              · have hv := hv.trans (if_neg hc126)
                have hk := hk.2 hc126
                refine lv_lookup (off := 85) (tgt := 86) hx hb d_Mo_signOf_1 (by decide) ((lv_osw hc38 (by decide)).trans ((lv_osw hc42 (by decide)).trans ((lv_osw hc43 (by decide)).trans ((lv_osw hc60 (by decide)).trans ((lv_osw hc61 (by decide)).trans ((lv_osw hc124 (by decide)).trans ((lv_osw hc126 (by decide)).trans (rfl)))))))) (by decide) ?_
                refine lv_bipush (v := 10) hx hb d_Mo_signOf_86 (by decide) ?_
                exact W.iret hx hb hr (fun t ht hW => ⟨by rw [hv], ht⟩) (fun q h => nomatch h) d_Mo_signOf_88

-- ClauseLedgerModel.isSign(I)Z
abbrev b_Mo_isSign : ByteArray := prog_14_method_24_code
def y_Mo_isSign : MethodName := ⟨"ClauseLedgerModel", "isSign", "(I)Z"⟩
theorem hd_Mo_isSign : y_Mo_isSign.cls ≠ "java/lang/invoke/MethodHandle" ∧ y_Mo_isSign.cls ≠ "java/lang/invoke/VarHandle" ∧ (parseMethodDescriptor y_Mo_isSign.desc).map (fun d => d.parameters.length) = some 1 := by decide +kernel
theorem d_Mo_isSign_0 : decode b_Mo_isSign 0 = .ok (.iload_n 0, 1) := by decide +kernel
theorem d_Mo_isSign_1 : decode b_Mo_isSign 1 = .ok (.bipush 43, 2) := by decide +kernel
theorem d_Mo_isSign_3 : decode b_Mo_isSign 3 = .ok (.if_icmp .eq 45, 3) := by decide +kernel
theorem d_Mo_isSign_6 : decode b_Mo_isSign 6 = .ok (.iload_n 0, 1) := by decide +kernel
theorem d_Mo_isSign_7 : decode b_Mo_isSign 7 = .ok (.bipush 42, 2) := by decide +kernel
theorem d_Mo_isSign_9 : decode b_Mo_isSign 9 = .ok (.if_icmp .eq 39, 3) := by decide +kernel
theorem d_Mo_isSign_12 : decode b_Mo_isSign 12 = .ok (.iload_n 0, 1) := by decide +kernel
theorem d_Mo_isSign_13 : decode b_Mo_isSign 13 = .ok (.bipush 61, 2) := by decide +kernel
theorem d_Mo_isSign_15 : decode b_Mo_isSign 15 = .ok (.if_icmp .eq 33, 3) := by decide +kernel
theorem d_Mo_isSign_18 : decode b_Mo_isSign 18 = .ok (.iload_n 0, 1) := by decide +kernel
theorem d_Mo_isSign_19 : decode b_Mo_isSign 19 = .ok (.bipush 60, 2) := by decide +kernel
theorem d_Mo_isSign_21 : decode b_Mo_isSign 21 = .ok (.if_icmp .eq 27, 3) := by decide +kernel
theorem d_Mo_isSign_24 : decode b_Mo_isSign 24 = .ok (.iload_n 0, 1) := by decide +kernel
theorem d_Mo_isSign_25 : decode b_Mo_isSign 25 = .ok (.bipush 126, 2) := by decide +kernel
theorem d_Mo_isSign_27 : decode b_Mo_isSign 27 = .ok (.if_icmp .eq 21, 3) := by decide +kernel
theorem d_Mo_isSign_30 : decode b_Mo_isSign 30 = .ok (.iload_n 0, 1) := by decide +kernel
theorem d_Mo_isSign_31 : decode b_Mo_isSign 31 = .ok (.bipush 38, 2) := by decide +kernel
theorem d_Mo_isSign_33 : decode b_Mo_isSign 33 = .ok (.if_icmp .eq 15, 3) := by decide +kernel
theorem d_Mo_isSign_36 : decode b_Mo_isSign 36 = .ok (.iload_n 0, 1) := by decide +kernel
theorem d_Mo_isSign_37 : decode b_Mo_isSign 37 = .ok (.bipush 124, 2) := by decide +kernel
theorem d_Mo_isSign_39 : decode b_Mo_isSign 39 = .ok (.if_icmp .eq 9, 3) := by decide +kernel
theorem d_Mo_isSign_42 : decode b_Mo_isSign 42 = .ok (.iload_n 0, 1) := by decide +kernel
theorem d_Mo_isSign_43 : decode b_Mo_isSign 43 = .ok (.bipush 33, 2) := by decide +kernel
theorem d_Mo_isSign_45 : decode b_Mo_isSign 45 = .ok (.if_icmp .ne 7, 3) := by decide +kernel
theorem d_Mo_isSign_48 : decode b_Mo_isSign 48 = .ok (.iconst 1, 1) := by decide +kernel
theorem d_Mo_isSign_49 : decode b_Mo_isSign 49 = .ok (.goto 4, 3) := by decide +kernel
theorem d_Mo_isSign_52 : decode b_Mo_isSign 52 = .ok (.iconst 0, 1) := by decide +kernel
theorem d_Mo_isSign_53 : decode b_Mo_isSign 53 = .ok (.ireturn, 1) := by decide +kernel
def f_Mo_isSign_53 (s0 : Int32) (σ : St) : Int32 := s0
def k_Mo_isSign_53 (s0 : Int32) (σ : St) : Prop := (narrow .boolean (.int s0) = .int s0) ∧ True
def f_Mo_isSign_48 (σ : St) : Int32 := f_Mo_isSign_53 1 σ
def k_Mo_isSign_48 (σ : St) : Prop := k_Mo_isSign_53 1 σ
def f_Mo_isSign (a0 : Int32) (σ : St) : Int32 := if a0 = 43 then (f_Mo_isSign_48 σ) else (if a0 = 42 then (f_Mo_isSign_48 σ) else (if a0 = 61 then (f_Mo_isSign_48 σ) else (if a0 = 60 then (f_Mo_isSign_48 σ) else (if a0 = 126 then (f_Mo_isSign_48 σ) else (if a0 = 38 then (f_Mo_isSign_48 σ) else (if a0 = 124 then (f_Mo_isSign_48 σ) else (if a0 = 33 then (f_Mo_isSign_48 σ) else (f_Mo_isSign_53 0 σ))))))))
def k_Mo_isSign (a0 : Int32) (σ : St) : Prop := (a0 = 43 → (k_Mo_isSign_48 σ)) ∧ (¬ a0 = 43 → ((a0 = 42 → (k_Mo_isSign_48 σ)) ∧ (¬ a0 = 42 → ((a0 = 61 → (k_Mo_isSign_48 σ)) ∧ (¬ a0 = 61 → ((a0 = 60 → (k_Mo_isSign_48 σ)) ∧ (¬ a0 = 60 → ((a0 = 126 → (k_Mo_isSign_48 σ)) ∧ (¬ a0 = 126 → ((a0 = 38 → (k_Mo_isSign_48 σ)) ∧ (¬ a0 = 38 → ((a0 = 124 → (k_Mo_isSign_48 σ)) ∧ (¬ a0 = 124 → ((a0 = 33 → (k_Mo_isSign_48 σ)) ∧ (¬ a0 = 33 → (k_Mo_isSign_53 0 σ))))))))))))))))
abbrev w_Mo_isSign : List Cond := Cond.code y_Mo_isSign b_Mo_isSign 1 (some .boolean) :: gw
abbrev rm_Mo_isSign : Room := { frames := 0, cells := 0, slots := 0, locals := 0 }
set_option maxHeartbeats 4000000 in
set_option maxRecDepth 100000 in
theorem c_Mo_isSign (l : Launch) (D : va_G) (ty : Nat → ClassId) (h : Nat → Nat) (px : va_W) (sa : Nat → Nat) (σ : St) (a0 : Int32) (hk : k_Mo_isSign a0 σ) : Met l y_Mo_isSign w_Mo_isSign rm_Mo_isSign (va_Pc [.int a0] (fun U => va_P D classes (Wm ty h σ px) U.heap ∧ va_K D classes (Ta ty) U ∧ NW U ∧ MK sa (fun _ => False) U U.heap)) (k2_QcV (.int (f_Mo_isSign a0 σ))) 0 0 (fun _ => False) := by
  refine Met.ofW (cc := b_Mo_isSign) (maxL := 1) (ret := (some .boolean)) (by decide) rfl ?_
  intro p e s m args below meth c s₁ B hml hv
  obtain ⟨ha, hP, hK, hN, hM⟩ := hv
  have hx := B.exec
  have hb := B.bytes
  have hr := B.returns
  have hg : ∀ w ∈ gw, w.before args s = true := fun w h9 => atoms_spec (ws := w_Mo_isSign) B.pre w (List.mem_cons_of_mem _ h9)
  have hown : s.vm.findClass "ClauseLedgerModel" = some m.cls := findClass_of_methodNamed B.named
  have hlocks := B.notSynchronized
  have he : entryFrame m args 1 = entryFrame m ([.int a0] : List Value).toArray 1 := by rw [ha]
  rw [he, lg_entry_eq]
  have hl := lv_entry ([.int a0]) (n := 1) (Nat.le_of_ble_eq_true rfl)
  generalize (lg_sl ([.int a0]) ++ List.replicate (1 - (lg_sl ([.int a0])).length) Slot.unset).toArray = ls at hl ⊢
  have hl : lv_has ls 1 [(0, .int a0)] := hl
  generalize hv : f_Mo_isSign a0 σ = v
  replace hv := hv.symm
  have B53 : ∀ (ls : Array Slot) (s0 : Int32), v = f_Mo_isSign_53 s0 σ → k_Mo_isSign_53 s0 σ → lv_has ls 1 [] → W p l e (headSpec w_Mo_isSign rm_Mo_isSign).room s m args below meth c s.heap [] 0 0 (MQ below (k2_QcV (.int v)) args s 0 0 (fun _ => False)) (F0 m 53 ls [.int s0]) := by
    intro ls s0 hv hk hl
    unfold f_Mo_isSign_53 at hv
    unfold k_Mo_isSign_53 at hk
    obtain ⟨hk0, hk⟩ := hk
    exact W.zret hx hb hr hk0 (fun t ht hW => ⟨by rw [hv], ht⟩) (fun q h => nomatch h) d_Mo_isSign_53
  have B48 : ∀ (ls : Array Slot), v = f_Mo_isSign_48 σ → k_Mo_isSign_48 σ → lv_has ls 1 [] → W p l e (headSpec w_Mo_isSign rm_Mo_isSign).room s m args below meth c s.heap [] 0 0 (MQ below (k2_QcV (.int v)) args s 0 0 (fun _ => False)) (F0 m 48 ls []) := by
    intro ls hv hk hl
    unfold f_Mo_isSign_48 at hv
    unfold k_Mo_isSign_48 at hk
    refine lv_iconst (v := 1) hx hb d_Mo_isSign_48 (by decide) ?_
    refine lv_goto (tgt := 53) hx hb d_Mo_isSign_49 (by decide) ?_
    exact B53 _ 1 hv hk (lv_sub hl [] rfl)
  unfold f_Mo_isSign at hv
  unfold k_Mo_isSign at hk
  refine lv_iload_n hx hb d_Mo_isSign_0 rfl (lv_at hl 0 rfl) ?_
  refine lv_bipush (v := 43) hx hb d_Mo_isSign_1 (by decide) ?_
  refine lv_icmp_eq (tgt := 48) hx hb d_Mo_isSign_3 (by decide) (fun hc => ?_) (fun hc => ?_)
  · have hv := hv.trans (if_pos hc)
    have hk := hk.1 hc
    exact B48 _  hv hk (lv_sub hl [] rfl)
  · have hv := hv.trans (if_neg hc)
    have hk := hk.2 hc
    refine lv_iload_n hx hb d_Mo_isSign_6 rfl (lv_at hl 0 rfl) ?_
    refine lv_bipush (v := 42) hx hb d_Mo_isSign_7 (by decide) ?_
    refine lv_icmp_eq (tgt := 48) hx hb d_Mo_isSign_9 (by decide) (fun hc => ?_) (fun hc => ?_)
    · have hv := hv.trans (if_pos hc)
      have hk := hk.1 hc
      exact B48 _  hv hk (lv_sub hl [] rfl)
    · have hv := hv.trans (if_neg hc)
      have hk := hk.2 hc
      refine lv_iload_n hx hb d_Mo_isSign_12 rfl (lv_at hl 0 rfl) ?_
      refine lv_bipush (v := 61) hx hb d_Mo_isSign_13 (by decide) ?_
      refine lv_icmp_eq (tgt := 48) hx hb d_Mo_isSign_15 (by decide) (fun hc => ?_) (fun hc => ?_)
      · have hv := hv.trans (if_pos hc)
        have hk := hk.1 hc
        exact B48 _  hv hk (lv_sub hl [] rfl)
      · have hv := hv.trans (if_neg hc)
        have hk := hk.2 hc
        refine lv_iload_n hx hb d_Mo_isSign_18 rfl (lv_at hl 0 rfl) ?_
        refine lv_bipush (v := 60) hx hb d_Mo_isSign_19 (by decide) ?_
        refine lv_icmp_eq (tgt := 48) hx hb d_Mo_isSign_21 (by decide) (fun hc => ?_) (fun hc => ?_)
        · have hv := hv.trans (if_pos hc)
          have hk := hk.1 hc
          exact B48 _  hv hk (lv_sub hl [] rfl)
        · have hv := hv.trans (if_neg hc)
          have hk := hk.2 hc
          refine lv_iload_n hx hb d_Mo_isSign_24 rfl (lv_at hl 0 rfl) ?_
          refine lv_bipush (v := 126) hx hb d_Mo_isSign_25 (by decide) ?_
          refine lv_icmp_eq (tgt := 48) hx hb d_Mo_isSign_27 (by decide) (fun hc => ?_) (fun hc => ?_)
          · have hv := hv.trans (if_pos hc)
            have hk := hk.1 hc
            exact B48 _  hv hk (lv_sub hl [] rfl)
          · have hv := hv.trans (if_neg hc)
            have hk := hk.2 hc
            refine lv_iload_n hx hb d_Mo_isSign_30 rfl (lv_at hl 0 rfl) ?_
            refine lv_bipush (v := 38) hx hb d_Mo_isSign_31 (by decide) ?_
            refine lv_icmp_eq (tgt := 48) hx hb d_Mo_isSign_33 (by decide) (fun hc => ?_) (fun hc => ?_)
            · have hv := hv.trans (if_pos hc)
              have hk := hk.1 hc
              exact B48 _  hv hk (lv_sub hl [] rfl)
            · have hv := hv.trans (if_neg hc)
              have hk := hk.2 hc
              refine lv_iload_n hx hb d_Mo_isSign_36 rfl (lv_at hl 0 rfl) ?_
              refine lv_bipush (v := 124) hx hb d_Mo_isSign_37 (by decide) ?_
              refine lv_icmp_eq (tgt := 48) hx hb d_Mo_isSign_39 (by decide) (fun hc => ?_) (fun hc => ?_)
              · have hv := hv.trans (if_pos hc)
                have hk := hk.1 hc
                exact B48 _  hv hk (lv_sub hl [] rfl)
              · have hv := hv.trans (if_neg hc)
                have hk := hk.2 hc
                refine lv_iload_n hx hb d_Mo_isSign_42 rfl (lv_at hl 0 rfl) ?_
                refine lv_bipush (v := 33) hx hb d_Mo_isSign_43 (by decide) ?_
                refine lv_icmp_ne (tgt := 52) hx hb d_Mo_isSign_45 (by decide) (fun hc => ?_) (fun hc => ?_)
                · have hv := hv.trans (if_neg hc)
                  have hk := hk.2 hc
                  refine lv_iconst (v := 0) hx hb d_Mo_isSign_52 (by decide) ?_
                  exact B53 _ 0 hv hk (lv_sub hl [] rfl)
                · have hv := hv.trans (if_pos hc)
                  have hk := hk.1 hc
                  exact B48 _  hv hk (lv_sub hl [] rfl)

-- ClauseLedgerModel.blank()V
abbrev b_Mo_blank : ByteArray := prog_14_method_26_code
def y_Mo_blank : MethodName := ⟨"ClauseLedgerModel", "blank", "()V"⟩
theorem hd_Mo_blank : y_Mo_blank.cls ≠ "java/lang/invoke/MethodHandle" ∧ y_Mo_blank.cls ≠ "java/lang/invoke/VarHandle" ∧ (parseMethodDescriptor y_Mo_blank.desc).map (fun d => d.parameters.length) = some 0 := by decide +kernel
theorem d_Mo_blank_0 : decode b_Mo_blank 0 = .ok (.aload_n 0, 1) := by decide +kernel
theorem d_Mo_blank_1 : decode b_Mo_blank 1 = .ok (.aload_n 0, 1) := by decide +kernel
theorem d_Mo_blank_2 : decode b_Mo_blank 2 = .ok (.getfield 163, 3) := by decide +kernel
theorem d_Mo_blank_5 : decode b_Mo_blank 5 = .ok (.ifCond .ne 12, 3) := by decide +kernel
theorem d_Mo_blank_8 : decode b_Mo_blank 8 = .ok (.aload_n 0, 1) := by decide +kernel
theorem d_Mo_blank_9 : decode b_Mo_blank 9 = .ok (.invokevirtual 152, 3) := by decide +kernel
theorem d_Mo_blank_12 : decode b_Mo_blank 12 = .ok (.bipush 32, 2) := by decide +kernel
theorem d_Mo_blank_14 : decode b_Mo_blank 14 = .ok (.if_icmp .eq 7, 3) := by decide +kernel
theorem d_Mo_blank_17 : decode b_Mo_blank 17 = .ok (.iconst 1, 1) := by decide +kernel
theorem d_Mo_blank_18 : decode b_Mo_blank 18 = .ok (.goto 4, 3) := by decide +kernel
theorem d_Mo_blank_21 : decode b_Mo_blank 21 = .ok (.iconst 0, 1) := by decide +kernel
theorem d_Mo_blank_22 : decode b_Mo_blank 22 = .ok (.putfield 163, 3) := by decide +kernel
theorem d_Mo_blank_25 : decode b_Mo_blank 25 = .ok (.aload_n 0, 1) := by decide +kernel
theorem d_Mo_blank_26 : decode b_Mo_blank 26 = .ok (.dup, 1) := by decide +kernel
theorem d_Mo_blank_27 : decode b_Mo_blank 27 = .ok (.getfield 149, 3) := by decide +kernel
theorem d_Mo_blank_30 : decode b_Mo_blank 30 = .ok (.iconst 1, 1) := by decide +kernel
theorem d_Mo_blank_31 : decode b_Mo_blank 31 = .ok (.iadd, 1) := by decide +kernel
theorem d_Mo_blank_32 : decode b_Mo_blank 32 = .ok (.putfield 149, 3) := by decide +kernel
theorem d_Mo_blank_35 : decode b_Mo_blank 35 = .ok (.return_, 1) := by decide +kernel
def f_Mo_blank_35 (σ : St) : St := σ
def k_Mo_blank_35 (σ : St) : Prop := True
def f_Mo_blank_25 (σ : St) : St := f_Mo_blank_35 (sF σ 0 32 ((σ.1 0 32) + 1))
def k_Mo_blank_25 (σ : St) : Prop := k_Mo_blank_35 (sF σ 0 32 ((σ.1 0 32) + 1))
def f_Mo_blank_22 (s0 : Int32) (σ : St) : St := f_Mo_blank_25 (sF σ 0 33 s0)
def k_Mo_blank_22 (s0 : Int32) (σ : St) : Prop := (narrow .boolean (.int s0) = .int s0 ∧ fits .boolean (.int s0) = true) ∧ (k_Mo_blank_25 (sF σ 0 33 s0))
def f_Mo_blank_17 (σ : St) : St := f_Mo_blank_22 1 σ
def k_Mo_blank_17 (σ : St) : Prop := k_Mo_blank_22 1 σ
def f_Mo_blank (σ : St) : St := if (σ.1 0 33) = 0 then (if (f_Mo_peek σ) = 32 then (f_Mo_blank_22 0 σ) else (f_Mo_blank_17 σ)) else (f_Mo_blank_17 σ)
def k_Mo_blank (σ : St) : Prop := ((σ.1 0 33) = 0 → ((k_Mo_peek σ) ∧ (((f_Mo_peek σ) = 32 → (k_Mo_blank_22 0 σ)) ∧ (¬ (f_Mo_peek σ) = 32 → (k_Mo_blank_17 σ))))) ∧ (¬ (σ.1 0 33) = 0 → (k_Mo_blank_17 σ))
abbrev w_Mo_blank : List Cond := Cond.code y_Mo_blank b_Mo_blank 1 none :: gw
abbrev rm_Mo_blank : Room := { frames := 1, cells := 0, slots := 0, locals := 20 }
set_option maxHeartbeats 4000000 in
set_option maxRecDepth 100000 in
theorem c_Mo_blank (l : Launch) (D : va_G) (ty : Nat → ClassId) (h : Nat → Nat) (px : va_W) (sa : Nat → Nat) (σ : St) (sz : Nat) (hk : k_Mo_blank σ) : Met l y_Mo_blank w_Mo_blank rm_Mo_blank (va_Pc [.ref (h 0)] (fun U => U.heap.size = sz ∧ va_P D classes (Wm ty h σ px) U.heap ∧ va_K D classes (Ta ty) U ∧ NW U ∧ MK sa (va_A (Wm ty h σ px) sz) U U.heap ∧ va_D (fun _ => True) (Wm ty h σ px))) (va_Qv (fun u : St => u = f_Mo_blank σ) (fun u t => va_P D classes (Wm ty h u px) t.heap) (va_A (Wm ty h σ px) sz)) 0 0 (va_A (Wm ty h σ px) sz) := by
  refine Met.ofW (cc := b_Mo_blank) (maxL := 1) (ret := none) (by decide) rfl ?_
  intro p e s m args below meth c s₁ B hml hv
  obtain ⟨ha, hsz, hP, hK, hN, hM, hD0⟩ := hv
  have hx := B.exec
  have hb := B.bytes
  have hr := B.returns
  have hg : ∀ w ∈ gw, w.before args s = true := fun w h9 => atoms_spec (ws := w_Mo_blank) B.pre w (List.mem_cons_of_mem _ h9)
  have hown : s.vm.findClass "ClauseLedgerModel" = some m.cls := findClass_of_methodNamed B.named
  have hlocks := B.notSynchronized
  subst hsz
  have hD := hD0.self (sz := s.heap.size)
  generalize hAe : va_A (Wm ty h σ px) s.heap.size = A at hD hM ⊢
  have hA : ∀ q : Nat, s.heap.size ≤ q → A q := fun q h9 => by rw [← hAe]; exact Or.inr h9
  have hS : va_S A s.heap s.heap [] := va_S.rf
  have he : entryFrame m args 1 = entryFrame m ([.ref (h 0)] : List Value).toArray 1 := by rw [ha]
  rw [he, lg_entry_eq]
  have hl := lv_entry ([.ref (h 0)]) (n := 1) (Nat.le_of_ble_eq_true rfl)
  generalize (lg_sl ([.ref (h 0)]) ++ List.replicate (1 - (lg_sl ([.ref (h 0)])).length) Slot.unset).toArray = ls at hl ⊢
  have hl : lv_has ls 1 [(0, .ref (h 0))] := hl
  generalize hv : f_Mo_blank σ = v
  replace hv := hv.symm
  have B35 : ∀ (H : Heap) (locs : List Loc) (ls : Array Slot) (σ : St), v = f_Mo_blank_35 σ → k_Mo_blank_35 σ → lv_has ls 1 [] → va_P D classes (Wm ty h σ px) H → va_D A (Wm ty h σ px) → va_S A s.heap H locs → W p l e (headSpec w_Mo_blank rm_Mo_blank).room s m args below meth c H locs 0 0 (MQ below (va_Qv (fun u : St => u = v) (fun u t => va_P D classes (Wm ty h u px) t.heap) A) args s 0 0 A) (F0 m 35 ls []) := by
    intro H locs ls σ hv hk hl hP hD hS
    unfold f_Mo_blank_35 at hv
    unfold k_Mo_blank_35 at hk
    exact W.vret hx hb hr (fun t ht hW => ⟨⟨_, rfl, hv.symm, by dsimp only; rw [ht]; exact hP⟩, hS.F ht⟩) hS.2.2 d_Mo_blank_35
  have B25 : ∀ (H : Heap) (locs : List Loc) (ls : Array Slot) (σ : St), v = f_Mo_blank_25 σ → k_Mo_blank_25 σ → lv_has ls 1 [(0, .ref (h 0))] → va_P D classes (Wm ty h σ px) H → va_D A (Wm ty h σ px) → va_S A s.heap H locs → W p l e (headSpec w_Mo_blank rm_Mo_blank).room s m args below meth c H locs 0 0 (MQ below (va_Qv (fun u : St => u = v) (fun u t => va_P D classes (Wm ty h u px) t.heap) A) args s 0 0 A) (F0 m 25 ls []) := by
    intro H locs ls σ hv hk hl hP hD hS
    unfold f_Mo_blank_25 at hv
    unfold k_Mo_blank_25 at hk
    refine lv_aload_n hx hb d_Mo_blank_25 rfl (lv_at hl 0 rfl) ?_
    refine lv_dup hx hb d_Mo_blank_26 rfl ?_
    refine va_get (v := .int (σ.1 0 32)) (C := R_Mo) (T := T_Mo) (N := 51) hx hb hg in_Mo hown hK hP 0 rfl rfl 32 (by decide) (hg _ m_1291) (fun _ h9 => h9) rfl d_Mo_blank_27 ?_
    refine lv_iconst (v := 1) hx hb d_Mo_blank_30 (by decide) ?_
    refine lv_iadd hx hb d_Mo_blank_31 ?_
    refine va_put (v := .int ((σ.1 0 32) + 1)) (ty := .int) (C := R_Mo) (T := T_Mo) (N := 51) hx hb hg in_Mo ty_Mo ok_Mo nm_Mo hown hK hP hD hS 0 rfl rfl 32 (by decide) (hg _ m_1291) (fun _ h9 => h9) rfl (by decide +kernel) rfl rfl (Nat.le_of_ble_eq_true rfl) d_Mo_blank_32 (fun H locs hP hD hS => ?_)
    have hP : va_P D classes (Wm ty h (sF σ 0 32 ((σ.1 0 32) + 1)) px) H := hP
    have hD : va_D A (Wm ty h (sF σ 0 32 ((σ.1 0 32) + 1)) px) := hD
    exact B35 _ _ _  (sF σ 0 32 ((σ.1 0 32) + 1)) hv hk (lv_sub hl [] rfl) hP hD hS
  have B22 : ∀ (H : Heap) (locs : List Loc) (ls : Array Slot) (s0 : Int32) (σ : St), v = f_Mo_blank_22 s0 σ → k_Mo_blank_22 s0 σ → lv_has ls 1 [(0, .ref (h 0))] → va_P D classes (Wm ty h σ px) H → va_D A (Wm ty h σ px) → va_S A s.heap H locs → W p l e (headSpec w_Mo_blank rm_Mo_blank).room s m args below meth c H locs 0 0 (MQ below (va_Qv (fun u : St => u = v) (fun u t => va_P D classes (Wm ty h u px) t.heap) A) args s 0 0 A) (F0 m 22 ls [.int s0, .ref (h 0)]) := by
    intro H locs ls s0 σ hv hk hl hP hD hS
    unfold f_Mo_blank_22 at hv
    unfold k_Mo_blank_22 at hk
    obtain ⟨hk0, hk⟩ := hk
    refine va_put (v := .int s0) (ty := .boolean) (C := R_Mo) (T := T_Mo) (N := 51) hx hb hg in_Mo ty_Mo ok_Mo nm_Mo hown hK hP hD hS 0 rfl rfl 33 (by decide) (hg _ m_1292) (fun _ h9 => h9) rfl (by decide +kernel) hk0.1 hk0.2 (Nat.le_of_ble_eq_true rfl) d_Mo_blank_22 (fun H locs hP hD hS => ?_)
    have hP : va_P D classes (Wm ty h (sF σ 0 33 s0) px) H := hP
    have hD : va_D A (Wm ty h (sF σ 0 33 s0) px) := hD
    exact B25 _ _ _  (sF σ 0 33 s0) hv hk (lv_sub hl [0] rfl) hP hD hS
  have B17 : ∀ (H : Heap) (locs : List Loc) (ls : Array Slot) (σ : St), v = f_Mo_blank_17 σ → k_Mo_blank_17 σ → lv_has ls 1 [(0, .ref (h 0))] → va_P D classes (Wm ty h σ px) H → va_D A (Wm ty h σ px) → va_S A s.heap H locs → W p l e (headSpec w_Mo_blank rm_Mo_blank).room s m args below meth c H locs 0 0 (MQ below (va_Qv (fun u : St => u = v) (fun u t => va_P D classes (Wm ty h u px) t.heap) A) args s 0 0 A) (F0 m 17 ls [.ref (h 0)]) := by
    intro H locs ls σ hv hk hl hP hD hS
    unfold f_Mo_blank_17 at hv
    unfold k_Mo_blank_17 at hk
    refine lv_iconst (v := 1) hx hb d_Mo_blank_17 (by decide) ?_
    refine lv_goto (tgt := 22) hx hb d_Mo_blank_18 (by decide) ?_
    exact B22 _ _ _ 1 σ hv hk (lv_sub hl [0] rfl) hP hD hS
  unfold f_Mo_blank at hv
  unfold k_Mo_blank at hk
  refine lv_aload_n hx hb d_Mo_blank_0 rfl (lv_at hl 0 rfl) ?_
  refine lv_aload_n hx hb d_Mo_blank_1 rfl (lv_at hl 0 rfl) ?_
  refine va_get (v := .int (σ.1 0 33)) (C := R_Mo) (T := T_Mo) (N := 51) hx hb hg in_Mo hown hK hP 0 rfl rfl 33 (by decide) (hg _ m_1292) (fun _ h9 => h9) rfl d_Mo_blank_2 ?_
  refine lv_if_ne (tgt := 17) hx hb d_Mo_blank_5 (by decide) (fun hc => ?_) (fun hc => ?_)
  · have hv := hv.trans (if_neg hc)
    have hk := hk.2 hc
    exact B17 _ _ _  σ hv hk (lv_sub hl [0] rfl) hP hD hS
  · have hv := hv.trans (if_pos hc)
    have hk := hk.1 hc
    refine lv_aload_n hx hb d_Mo_blank_8 rfl (lv_at hl 0 rfl) ?_
    obtain ⟨hk0, hk⟩ := hk
    refine zz_callV (va_runV (As := []) (rest := [.ref (h 0)]) ⟨hx, hb, hml, hown, hg⟩ (c_Mo_peek l D ty h px sa σ  hk0) ⟨callB_of 0 hg (gw_C m_1451) rfl rfl rfl (hg _ m_13) (hg _ m_1448) hd_Mo_peek ⟨Nat.le_of_ble_eq_true rfl, Nat.le_of_ble_eq_true rfl⟩, hg _ m_1450, hg _ ms_51⟩ (zz_preV (hM.at hS) hN hK hP 0 rfl rfl) rfl rfl hl.1 rfl (lv_room (Nat.le_of_ble_eq_true rfl)) d_Mo_blank_9 ⟨Nat.le_of_ble_eq_true rfl, Nat.le_of_ble_eq_true rfl⟩) ?_
    refine lv_bipush (v := 32) hx hb d_Mo_blank_12 (by decide) ?_
    refine lv_icmp_eq (tgt := 21) hx hb d_Mo_blank_14 (by decide) (fun hc => ?_) (fun hc => ?_)
    · have hv := hv.trans (if_pos hc)
      have hk := hk.1 hc
      refine lv_iconst (v := 0) hx hb d_Mo_blank_21 (by decide) ?_
      exact B22 _ _ _ 0 σ hv hk (lv_sub hl [0] rfl) hP hD hS
    · have hv := hv.trans (if_neg hc)
      have hk := hk.2 hc
      exact B17 _ _ _  σ hv hk (lv_sub hl [0] rfl) hP hD hS

