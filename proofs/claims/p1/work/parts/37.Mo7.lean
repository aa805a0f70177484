-- ClauseLedgerModel.close()I
abbrev b_Mo_close : ByteArray := prog_14_method_57_code
def y_Mo_close : MethodName := ⟨"ClauseLedgerModel", "close", "()I"⟩
theorem hd_Mo_close : y_Mo_close.cls ≠ "java/lang/invoke/MethodHandle" ∧ y_Mo_close.cls ≠ "java/lang/invoke/VarHandle" ∧ (parseMethodDescriptor y_Mo_close.desc).map (fun d => d.parameters.length) = some 0 := by decide +kernel
theorem d_Mo_close_0 : decode b_Mo_close 0 = .ok (.aload_n 0, 1) := by decide +kernel
theorem d_Mo_close_1 : decode b_Mo_close 1 = .ok (.invokevirtual 201, 3) := by decide +kernel
theorem d_Mo_close_4 : decode b_Mo_close 4 = .ok (.ifCond .eq 5, 3) := by decide +kernel
theorem d_Mo_close_7 : decode b_Mo_close 7 = .ok (.iconst (-1), 1) := by decide +kernel
theorem d_Mo_close_8 : decode b_Mo_close 8 = .ok (.ireturn, 1) := by decide +kernel
theorem d_Mo_close_9 : decode b_Mo_close 9 = .ok (.sipush 1074, 3) := by decide +kernel
theorem d_Mo_close_12 : decode b_Mo_close 12 = .ok (.istore_n 1, 1) := by decide +kernel
theorem d_Mo_close_13 : decode b_Mo_close 13 = .ok (.iconst (-1), 1) := by decide +kernel
theorem d_Mo_close_14 : decode b_Mo_close 14 = .ok (.istore_n 2, 1) := by decide +kernel
theorem d_Mo_close_15 : decode b_Mo_close 15 = .ok (.iconst 0, 1) := by decide +kernel
theorem d_Mo_close_16 : decode b_Mo_close 16 = .ok (.istore_n 3, 1) := by decide +kernel
theorem d_Mo_close_17 : decode b_Mo_close 17 = .ok (.iload_n 3, 1) := by decide +kernel
theorem d_Mo_close_18 : decode b_Mo_close 18 = .ok (.aload_n 0, 1) := by decide +kernel
theorem d_Mo_close_19 : decode b_Mo_close 19 = .ok (.getfield 137, 3) := by decide +kernel
theorem d_Mo_close_22 : decode b_Mo_close 22 = .ok (.if_icmp .ge 28, 3) := by decide +kernel
theorem d_Mo_close_25 : decode b_Mo_close 25 = .ok (.aload_n 0, 1) := by decide +kernel
theorem d_Mo_close_26 : decode b_Mo_close 26 = .ok (.getfield 59, 3) := by decide +kernel
theorem d_Mo_close_29 : decode b_Mo_close 29 = .ok (.iload_n 3, 1) := by decide +kernel
theorem d_Mo_close_30 : decode b_Mo_close 30 = .ok (.iaload, 1) := by decide +kernel
theorem d_Mo_close_31 : decode b_Mo_close 31 = .ok (.aload_n 0, 1) := by decide +kernel
theorem d_Mo_close_32 : decode b_Mo_close 32 = .ok (.getfield 214, 3) := by decide +kernel
theorem d_Mo_close_35 : decode b_Mo_close 35 = .ok (.if_icmp .ne 7, 3) := by decide +kernel
theorem d_Mo_close_38 : decode b_Mo_close 38 = .ok (.iload_n 3, 1) := by decide +kernel
theorem d_Mo_close_39 : decode b_Mo_close 39 = .ok (.goto 4, 3) := by decide +kernel
theorem d_Mo_close_42 : decode b_Mo_close 42 = .ok (.iload_n 2, 1) := by decide +kernel
theorem d_Mo_close_43 : decode b_Mo_close 43 = .ok (.istore_n 2, 1) := by decide +kernel
theorem d_Mo_close_44 : decode b_Mo_close 44 = .ok (.iinc 3 1, 3) := by decide +kernel
theorem d_Mo_close_47 : decode b_Mo_close 47 = .ok (.goto (-30), 3) := by decide +kernel
theorem d_Mo_close_50 : decode b_Mo_close 50 = .ok (.aload_n 0, 1) := by decide +kernel
theorem d_Mo_close_51 : decode b_Mo_close 51 = .ok (.getfield 214, 3) := by decide +kernel
theorem d_Mo_close_54 : decode b_Mo_close 54 = .ok (.ifCond .eq 7, 3) := by decide +kernel
theorem d_Mo_close_57 : decode b_Mo_close 57 = .ok (.iload_n 2, 1) := by decide +kernel
theorem d_Mo_close_58 : decode b_Mo_close 58 = .ok (.ifCond .ge 10, 3) := by decide +kernel
theorem d_Mo_close_61 : decode b_Mo_close 61 = .ok (.aload_n 0, 1) := by decide +kernel
theorem d_Mo_close_62 : decode b_Mo_close 62 = .ok (.iconst 2, 1) := by decide +kernel
theorem d_Mo_close_63 : decode b_Mo_close 63 = .ok (.iload_n 1, 1) := by decide +kernel
theorem d_Mo_close_64 : decode b_Mo_close 64 = .ok (.invokevirtual 133, 3) := by decide +kernel
theorem d_Mo_close_67 : decode b_Mo_close 67 = .ok (.ireturn, 1) := by decide +kernel
theorem d_Mo_close_68 : decode b_Mo_close 68 = .ok (.iconst 0, 1) := by decide +kernel
theorem d_Mo_close_69 : decode b_Mo_close 69 = .ok (.istore_n 3, 1) := by decide +kernel
theorem d_Mo_close_70 : decode b_Mo_close 70 = .ok (.iload_n 3, 1) := by decide +kernel
theorem d_Mo_close_71 : decode b_Mo_close 71 = .ok (.aload_n 0, 1) := by decide +kernel
theorem d_Mo_close_72 : decode b_Mo_close 72 = .ok (.getfield 137, 3) := by decide +kernel
theorem d_Mo_close_75 : decode b_Mo_close 75 = .ok (.if_icmp .ge 45, 3) := by decide +kernel
theorem d_Mo_close_78 : decode b_Mo_close 78 = .ok (.aload_n 0, 1) := by decide +kernel
theorem d_Mo_close_79 : decode b_Mo_close 79 = .ok (.getfield 59, 3) := by decide +kernel
theorem d_Mo_close_82 : decode b_Mo_close 82 = .ok (.iload_n 3, 1) := by decide +kernel
theorem d_Mo_close_83 : decode b_Mo_close 83 = .ok (.iaload, 1) := by decide +kernel
theorem d_Mo_close_84 : decode b_Mo_close 84 = .ok (.aload_n 0, 1) := by decide +kernel
theorem d_Mo_close_85 : decode b_Mo_close 85 = .ok (.getfield 214, 3) := by decide +kernel
theorem d_Mo_close_88 : decode b_Mo_close 88 = .ok (.if_icmp .ne 26, 3) := by decide +kernel
theorem d_Mo_close_91 : decode b_Mo_close 91 = .ok (.aload_n 0, 1) := by decide +kernel
theorem d_Mo_close_92 : decode b_Mo_close 92 = .ok (.getfield 62, 3) := by decide +kernel
theorem d_Mo_close_95 : decode b_Mo_close 95 = .ok (.iload_n 3, 1) := by decide +kernel
theorem d_Mo_close_96 : decode b_Mo_close 96 = .ok (.baload, 1) := by decide +kernel
theorem d_Mo_close_97 : decode b_Mo_close 97 = .ok (.ifCond .eq 17, 3) := by decide +kernel
theorem d_Mo_close_100 : decode b_Mo_close 100 = .ok (.aload_n 0, 1) := by decide +kernel
theorem d_Mo_close_101 : decode b_Mo_close 101 = .ok (.aload_n 0, 1) := by decide +kernel
theorem d_Mo_close_102 : decode b_Mo_close 102 = .ok (.getfield 56, 3) := by decide +kernel
theorem d_Mo_close_105 : decode b_Mo_close 105 = .ok (.bipush 8, 2) := by decide +kernel
theorem d_Mo_close_107 : decode b_Mo_close 107 = .ok (.iload_n 3, 1) := by decide +kernel
theorem d_Mo_close_108 : decode b_Mo_close 108 = .ok (.imul, 1) := by decide +kernel
theorem d_Mo_close_109 : decode b_Mo_close 109 = .ok (.iaload, 1) := by decide +kernel
theorem d_Mo_close_110 : decode b_Mo_close 110 = .ok (.iconst 0, 1) := by decide +kernel
theorem d_Mo_close_111 : decode b_Mo_close 111 = .ok (.invokevirtual 233, 3) := by decide +kernel
theorem d_Mo_close_114 : decode b_Mo_close 114 = .ok (.iinc 3 1, 3) := by decide +kernel
theorem d_Mo_close_117 : decode b_Mo_close 117 = .ok (.goto (-47), 3) := by decide +kernel
theorem d_Mo_close_120 : decode b_Mo_close 120 = .ok (.aload_n 0, 1) := by decide +kernel
theorem d_Mo_close_121 : decode b_Mo_close 121 = .ok (.iload_n 2, 1) := by decide +kernel
theorem d_Mo_close_122 : decode b_Mo_close 122 = .ok (.invokevirtual 230, 3) := by decide +kernel
theorem d_Mo_close_125 : decode b_Mo_close 125 = .ok (.aload_n 0, 1) := by decide +kernel
theorem d_Mo_close_126 : decode b_Mo_close 126 = .ok (.aload_n 0, 1) := by decide +kernel
theorem d_Mo_close_127 : decode b_Mo_close 127 = .ok (.getfield 66, 3) := by decide +kernel
theorem d_Mo_close_130 : decode b_Mo_close 130 = .ok (.aload_n 0, 1) := by decide +kernel
theorem d_Mo_close_131 : decode b_Mo_close 131 = .ok (.getfield 214, 3) := by decide +kernel
theorem d_Mo_close_134 : decode b_Mo_close 134 = .ok (.iaload, 1) := by decide +kernel
theorem d_Mo_close_135 : decode b_Mo_close 135 = .ok (.iload_n 1, 1) := by decide +kernel
theorem d_Mo_close_136 : decode b_Mo_close 136 = .ok (.invokevirtual 217, 3) := by decide +kernel
theorem d_Mo_close_139 : decode b_Mo_close 139 = .ok (.istore_n 3, 1) := by decide +kernel
theorem d_Mo_close_140 : decode b_Mo_close 140 = .ok (.aload_n 0, 1) := by decide +kernel
theorem d_Mo_close_141 : decode b_Mo_close 141 = .ok (.getfield 103, 3) := by decide +kernel
theorem d_Mo_close_144 : decode b_Mo_close 144 = .ok (.ifCond .le 5, 3) := by decide +kernel
theorem d_Mo_close_147 : decode b_Mo_close 147 = .ok (.iconst 0, 1) := by decide +kernel
theorem d_Mo_close_148 : decode b_Mo_close 148 = .ok (.ireturn, 1) := by decide +kernel
theorem d_Mo_close_149 : decode b_Mo_close 149 = .ok (.aload_n 0, 1) := by decide +kernel
theorem d_Mo_close_150 : decode b_Mo_close 150 = .ok (.getfield 69, 3) := by decide +kernel
theorem d_Mo_close_153 : decode b_Mo_close 153 = .ok (.aload_n 0, 1) := by decide +kernel
theorem d_Mo_close_154 : decode b_Mo_close 154 = .ok (.getfield 214, 3) := by decide +kernel
theorem d_Mo_close_157 : decode b_Mo_close 157 = .ok (.iconst 1, 1) := by decide +kernel
theorem d_Mo_close_158 : decode b_Mo_close 158 = .ok (.bastore, 1) := by decide +kernel
theorem d_Mo_close_159 : decode b_Mo_close 159 = .ok (.aload_n 0, 1) := by decide +kernel
theorem d_Mo_close_160 : decode b_Mo_close 160 = .ok (.aload_n 0, 1) := by decide +kernel
theorem d_Mo_close_161 : decode b_Mo_close 161 = .ok (.getfield 66, 3) := by decide +kernel
theorem d_Mo_close_164 : decode b_Mo_close 164 = .ok (.aload_n 0, 1) := by decide +kernel
theorem d_Mo_close_165 : decode b_Mo_close 165 = .ok (.getfield 214, 3) := by decide +kernel
theorem d_Mo_close_168 : decode b_Mo_close 168 = .ok (.iaload, 1) := by decide +kernel
theorem d_Mo_close_169 : decode b_Mo_close 169 = .ok (.putfield 214, 3) := by decide +kernel
theorem d_Mo_close_172 : decode b_Mo_close 172 = .ok (.iload_n 3, 1) := by decide +kernel
theorem d_Mo_close_173 : decode b_Mo_close 173 = .ok (.ireturn, 1) := by decide +kernel
def f_Mo_close_43 (F17 : (Int32 → Int32 → Int32 → St → Int32 × St)) (x1 : Int32) (x3 : Int32) (s0 : Int32) (σ : St) : Int32 × St := F17 x1 s0 (x3 + 1) σ
def k_Mo_close_43 (K17 : (Int32 → Int32 → Int32 → St → Prop)) (x1 : Int32) (x3 : Int32) (s0 : Int32) (σ : St) : Prop := K17 x1 s0 (x3 + 1) σ
def f_Mo_close_67 (s0 : Int32) (σ : St) : Int32 × St := (s0, σ)
def k_Mo_close_67 (s0 : Int32) (σ : St) : Prop := True
def f_Mo_close_61 (x1 : Int32) (σ : St) : Int32 × St := f_Mo_close_67 ((f_Mo_fails 2 x1 σ).1) ((f_Mo_fails 2 x1 σ).2)
def k_Mo_close_61 (x1 : Int32) (σ : St) : Prop := (k_Mo_fails 2 x1 σ) ∧ (k_Mo_close_67 ((f_Mo_fails 2 x1 σ).1) ((f_Mo_fails 2 x1 σ).2))
def f_Mo_close_114 (F70 : (Int32 → Int32 → Int32 → St → Int32 × St)) (x1 : Int32) (x2 : Int32) (x3 : Int32) (σ : St) : Int32 × St := F70 x1 x2 (x3 + 1) σ
def k_Mo_close_114 (K70 : (Int32 → Int32 → Int32 → St → Prop)) (x1 : Int32) (x2 : Int32) (x3 : Int32) (σ : St) : Prop := K70 x1 x2 (x3 + 1) σ
def f_Mo_close_172 (x3 : Int32) (σ : St) : Int32 × St := (x3, σ)
def k_Mo_close_172 (x3 : Int32) (σ : St) : Prop := True
def f_Mo_close_159 (x3 : Int32) (σ : St) : Int32 × St := f_Mo_close_172 x3 (sF σ 0 25 (σ.1 18 (σ.1 0 25).toNatClampNeg))
def k_Mo_close_159 (x3 : Int32) (σ : St) : Prop := vp_in (σ.1 0 25) 21 ∧ (k_Mo_close_172 x3 (sF σ 0 25 (σ.1 18 (σ.1 0 25).toNatClampNeg)))
def f_Mo_close_140 (x3 : Int32) (σ : St) : Int32 × St := if (σ.1 0 0) ≤ 0 then (f_Mo_close_159 x3 (sA σ 19 (σ.1 0 25) (vp_nar .boolean 1))) else (0, σ)
def k_Mo_close_140 (x3 : Int32) (σ : St) : Prop := ((σ.1 0 0) ≤ 0 → (vp_in (σ.1 0 25) 21 ∧ (k_Mo_close_159 x3 (sA σ 19 (σ.1 0 25) (vp_nar .boolean 1))))) ∧ (¬ (σ.1 0 0) ≤ 0 → True)
def f_Mo_close_139 (s0 : Int32) (σ : St) : Int32 × St := f_Mo_close_140 s0 σ
def k_Mo_close_139 (s0 : Int32) (σ : St) : Prop := k_Mo_close_140 s0 σ
def f_Mo_close_125 (x1 : Int32) (σ : St) : Int32 × St := f_Mo_close_139 ((f_Mo_enter (σ.1 18 (σ.1 0 25).toNatClampNeg) x1 σ).1) ((f_Mo_enter (σ.1 18 (σ.1 0 25).toNatClampNeg) x1 σ).2)
def k_Mo_close_125 (x1 : Int32) (σ : St) : Prop := vp_in (σ.1 0 25) 21 ∧ ((k_Mo_enter (σ.1 18 (σ.1 0 25).toNatClampNeg) x1 σ) ∧ (k_Mo_close_139 ((f_Mo_enter (σ.1 18 (σ.1 0 25).toNatClampNeg) x1 σ).1) ((f_Mo_enter (σ.1 18 (σ.1 0 25).toNatClampNeg) x1 σ).2)))
def f_Mo_close_70 : Nat → Int32 → Int32 → Int32 → St → Int32 × St
  | 0, _, _, _, σ => (0, σ)
  | n + 1, x1, x2, x3, σ => if (σ.1 0 19) ≤ x3 then (f_Mo_close_125 x1 (f_Mo_joinAll x2 σ)) else (if (σ.1 16 x3.toNatClampNeg) = (σ.1 0 25) then (if (σ.1 17 x3.toNatClampNeg) = 0 then (f_Mo_close_114 (f_Mo_close_70 n) x1 x2 x3 σ) else (f_Mo_close_114 (f_Mo_close_70 n) x1 x2 x3 (f_Mo_joinAs (σ.1 15 (8 * x3).toNatClampNeg) 0 σ))) else (f_Mo_close_114 (f_Mo_close_70 n) x1 x2 x3 σ))
def k_Mo_close_70 : Nat → Int32 → Int32 → Int32 → St → Prop
  | 0, _, _, _, _ => False
  | n + 1, x1, x2, x3, σ => ((σ.1 0 19) ≤ x3 → ((k_Mo_joinAll x2 σ) ∧ (k_Mo_close_125 x1 (f_Mo_joinAll x2 σ)))) ∧ (¬ (σ.1 0 19) ≤ x3 → (vp_in x3 60 ∧ (((σ.1 16 x3.toNatClampNeg) = (σ.1 0 25) → (vp_in x3 60 ∧ (((σ.1 17 x3.toNatClampNeg) = 0 → (k_Mo_close_114 (k_Mo_close_70 n) x1 x2 x3 σ)) ∧ (¬ (σ.1 17 x3.toNatClampNeg) = 0 → (vp_in (8 * x3) 480 ∧ ((k_Mo_joinAs (σ.1 15 (8 * x3).toNatClampNeg) 0 σ) ∧ (k_Mo_close_114 (k_Mo_close_70 n) x1 x2 x3 (f_Mo_joinAs (σ.1 15 (8 * x3).toNatClampNeg) 0 σ)))))))) ∧ (¬ (σ.1 16 x3.toNatClampNeg) = (σ.1 0 25) → (k_Mo_close_114 (k_Mo_close_70 n) x1 x2 x3 σ)))))
def f_Mo_close_17 : Nat → Int32 → Int32 → Int32 → St → Int32 × St
  | 0, _, _, _, σ => (0, σ)
  | n + 1, x1, x2, x3, σ => if (σ.1 0 19) ≤ x3 then (if (σ.1 0 25) = 0 then (f_Mo_close_61 x1 σ) else (if 0 ≤ x2 then (f_Mo_close_70 1000 x1 x2 0 σ) else (f_Mo_close_61 x1 σ))) else (if (σ.1 16 x3.toNatClampNeg) = (σ.1 0 25) then (f_Mo_close_43 (f_Mo_close_17 n) x1 x3 x3 σ) else (f_Mo_close_43 (f_Mo_close_17 n) x1 x3 x2 σ))
def k_Mo_close_17 : Nat → Int32 → Int32 → Int32 → St → Prop
  | 0, _, _, _, _ => False
  | n + 1, x1, x2, x3, σ => ((σ.1 0 19) ≤ x3 → (((σ.1 0 25) = 0 → (k_Mo_close_61 x1 σ)) ∧ (¬ (σ.1 0 25) = 0 → ((0 ≤ x2 → (k_Mo_close_70 1000 x1 x2 0 σ)) ∧ (¬ 0 ≤ x2 → (k_Mo_close_61 x1 σ)))))) ∧ (¬ (σ.1 0 19) ≤ x3 → (vp_in x3 60 ∧ (((σ.1 16 x3.toNatClampNeg) = (σ.1 0 25) → (k_Mo_close_43 (k_Mo_close_17 n) x1 x3 x3 σ)) ∧ (¬ (σ.1 16 x3.toNatClampNeg) = (σ.1 0 25) → (k_Mo_close_43 (k_Mo_close_17 n) x1 x3 x2 σ)))))
def f_Mo_close_4 (s0 : Int32) (σ : St) : Int32 × St := if s0 = 0 then (f_Mo_close_17 1000 1074 (-1) 0 σ) else ((-1), σ)
def k_Mo_close_4 (s0 : Int32) (σ : St) : Prop := (s0 = 0 → (k_Mo_close_17 1000 1074 (-1) 0 σ)) ∧ (¬ s0 = 0 → True)
def f_Mo_close (σ : St) : Int32 × St := f_Mo_close_4 ((f_Mo_begin σ).1) ((f_Mo_begin σ).2)
def k_Mo_close (σ : St) : Prop := (k_Mo_begin σ) ∧ (k_Mo_close_4 ((f_Mo_begin σ).1) ((f_Mo_begin σ).2))
abbrev w_Mo_close : List Cond := Cond.code y_Mo_close b_Mo_close 4 (some .int) :: gw
abbrev rm_Mo_close : Room := { frames := 4, cells := 0, slots := 0, locals := 96 }
set_option maxHeartbeats 4000000 in
set_option maxRecDepth 100000 in
theorem c_Mo_close (l : Launch) (D : va_G) (ty : Nat → ClassId) (h : Nat → Nat) (px : va_W) (sa : Nat → Nat) (σ : St) (sz : Nat) (hk : k_Mo_close σ) : Met l y_Mo_close w_Mo_close rm_Mo_close (va_Pc [.ref (h 0)] (fun U => U.heap.size = sz ∧ va_P D classes (Wm ty h σ px) U.heap ∧ va_K D classes (Ta ty) U ∧ NW U ∧ MK sa (va_A (Wm ty h σ px) sz) U U.heap ∧ va_D (fun _ => True) (Wm ty h σ px))) (va_Qi (fun r (u : St) => (r, u) = f_Mo_close σ) (fun u t => va_P D classes (Wm ty h u px) t.heap) (va_A (Wm ty h σ px) sz)) 0 0 (va_A (Wm ty h σ px) sz) := by
  refine Met.ofW (cc := b_Mo_close) (maxL := 4) (ret := (some .int)) (by decide) rfl ?_
  intro p e s m args below meth c s₁ B hml hv
  obtain ⟨ha, hsz, hP, hK, hN, hM, hD0⟩ := hv
  have hx := B.exec
  have hb := B.bytes
  have hr := B.returns
  have hg : ∀ w ∈ gw, w.before args s = true := fun w h9 => atoms_spec (ws := w_Mo_close) B.pre w (List.mem_cons_of_mem _ h9)
  have hown : s.vm.findClass "ClauseLedgerModel" = some m.cls := findClass_of_methodNamed B.named
  have hlocks := B.notSynchronized
  subst hsz
  have hD := hD0.self (sz := s.heap.size)
  generalize hAe : va_A (Wm ty h σ px) s.heap.size = A at hD hM ⊢
  have hA : ∀ q : Nat, s.heap.size ≤ q → A q := fun q h9 => by rw [← hAe]; exact Or.inr h9
  have hS : va_S A s.heap s.heap [] := va_S.rf
  have he : entryFrame m args 4 = entryFrame m ([.ref (h 0)] : List Value).toArray 4 := by rw [ha]
  rw [he, lg_entry_eq]
  have hl := lv_entry ([.ref (h 0)]) (n := 4) (Nat.le_of_ble_eq_true rfl)
  generalize (lg_sl ([.ref (h 0)]) ++ List.replicate (4 - (lg_sl ([.ref (h 0)])).length) Slot.unset).toArray = ls at hl ⊢
  have hl : lv_has ls 4 [(0, .ref (h 0))] := hl
  generalize hv : f_Mo_close σ = v
  replace hv := hv.symm
  have B67 : ∀ (H : Heap) (locs : List Loc) (ls : Array Slot) (s0 : Int32) (σ : St), v = f_Mo_close_67 s0 σ → k_Mo_close_67 s0 σ → lv_has ls 4 [] → va_P D classes (Wm ty h σ px) H → va_D A (Wm ty h σ px) → va_S A s.heap H locs → W p l e (headSpec w_Mo_close rm_Mo_close).room s m args below meth c H locs 0 0 (MQ below (va_Qi (fun r (u : St) => (r, u) = v) (fun u t => va_P D classes (Wm ty h u px) t.heap) A) args s 0 0 A) (F0 m 67 ls [.int s0]) := by
    intro H locs ls s0 σ hv hk hl hP hD hS
    unfold f_Mo_close_67 at hv
    unfold k_Mo_close_67 at hk
    exact W.iret hx hb hr (fun t ht hW => ⟨⟨_, _, rfl, hv.symm, by dsimp only; rw [ht]; exact hP⟩, hS.F ht⟩) hS.2.2 d_Mo_close_67
  have B61 : ∀ (H : Heap) (locs : List Loc) (ls : Array Slot) (x1 : Int32) (σ : St), v = f_Mo_close_61 x1 σ → k_Mo_close_61 x1 σ → lv_has ls 4 [(0, .ref (h 0)), (1, .int x1)] → va_P D classes (Wm ty h σ px) H → va_D A (Wm ty h σ px) → va_S A s.heap H locs → W p l e (headSpec w_Mo_close rm_Mo_close).room s m args below meth c H locs 0 0 (MQ below (va_Qi (fun r (u : St) => (r, u) = v) (fun u t => va_P D classes (Wm ty h u px) t.heap) A) args s 0 0 A) (F0 m 61 ls []) := by
    intro H locs ls x1 σ hv hk hl hP hD hS
    unfold f_Mo_close_61 at hv
    unfold k_Mo_close_61 at hk
    refine lv_aload_n hx hb d_Mo_close_61 rfl (lv_at hl 0 rfl) ?_
    refine lv_iconst (v := 2) hx hb d_Mo_close_62 (by decide) ?_
    refine lv_iload_n hx hb d_Mo_close_63 rfl (lv_at hl 1 rfl) ?_
    obtain ⟨hk0, hk⟩ := hk
    refine va_calli (va_runV (As := [.int 2, .int x1]) (rest := []) ⟨hx, hb, hml, hown, hg⟩ (c_Mo_fails l D ty h px sa σ H.size 2 x1 hk0) ⟨callB_of 2 hg (gw_C m_1507) rfl rfl rfl (hg _ m_13) (hg _ m_1504) hd_Mo_fails ⟨Nat.le_of_ble_eq_true rfl, Nat.le_of_ble_eq_true rfl⟩, hg _ m_1506, hg _ ms_62⟩ (zz_preVW hM hS hA hN hK hP hD 0 rfl rfl) rfl rfl hl.1 rfl (lv_room (Nat.le_of_ble_eq_true rfl)) d_Mo_close_64 ⟨Nat.le_of_ble_eq_true rfl, Nat.le_of_ble_eq_true rfl⟩) hS (fun q _ h => zz_free hD hS hA q h) (zz_free hD hS hA) (fun r64 u64 t H locs ht hvm hp hP1 hz hk1 hS => ?_)
    rw [ht] at hP1
    rw [← hp] at hv hk
    have hD : va_D A (Wm ty h u64 px) := zz_D hD rfl
    have hP := hP1
    exact B67 _ _ _ r64 u64 hv hk (lv_sub hl [] rfl) hP hD hS
  have B172 : ∀ (H : Heap) (locs : List Loc) (ls : Array Slot) (x3 : Int32) (σ : St), v = f_Mo_close_172 x3 σ → k_Mo_close_172 x3 σ → lv_has ls 4 [(3, .int x3)] → va_P D classes (Wm ty h σ px) H → va_D A (Wm ty h σ px) → va_S A s.heap H locs → W p l e (headSpec w_Mo_close rm_Mo_close).room s m args below meth c H locs 0 0 (MQ below (va_Qi (fun r (u : St) => (r, u) = v) (fun u t => va_P D classes (Wm ty h u px) t.heap) A) args s 0 0 A) (F0 m 172 ls []) := by
    intro H locs ls x3 σ hv hk hl hP hD hS
    unfold f_Mo_close_172 at hv
    unfold k_Mo_close_172 at hk
    refine lv_iload_n hx hb d_Mo_close_172 rfl (lv_at hl 0 rfl) ?_
    exact W.iret hx hb hr (fun t ht hW => ⟨⟨_, _, rfl, hv.symm, by dsimp only; rw [ht]; exact hP⟩, hS.F ht⟩) hS.2.2 d_Mo_close_173
  have B159 : ∀ (H : Heap) (locs : List Loc) (ls : Array Slot) (x3 : Int32) (σ : St), v = f_Mo_close_159 x3 σ → k_Mo_close_159 x3 σ → lv_has ls 4 [(0, .ref (h 0)), (3, .int x3)] → va_P D classes (Wm ty h σ px) H → va_D A (Wm ty h σ px) → va_S A s.heap H locs → W p l e (headSpec w_Mo_close rm_Mo_close).room s m args below meth c H locs 0 0 (MQ below (va_Qi (fun r (u : St) => (r, u) = v) (fun u t => va_P D classes (Wm ty h u px) t.heap) A) args s 0 0 A) (F0 m 159 ls []) := by
    intro H locs ls x3 σ hv hk hl hP hD hS
    unfold f_Mo_close_159 at hv
    unfold k_Mo_close_159 at hk
    refine lv_aload_n hx hb d_Mo_close_159 rfl (lv_at hl 0 rfl) ?_
    refine lv_aload_n hx hb d_Mo_close_160 rfl (lv_at hl 0 rfl) ?_
    refine va_get (v := .ref (h 18)) (C := R_Mo) (T := T_Mo) (N := 51) hx hb hg in_Mo hown hK hP 0 rfl rfl 26 (by decide) (hg _ m_1285) (fun _ h9 => h9) rfl d_Mo_close_161 ?_
    refine lv_aload_n hx hb d_Mo_close_164 rfl (lv_at hl 0 rfl) ?_
    refine va_get (v := .int (σ.1 0 25)) (C := R_Mo) (T := T_Mo) (N := 51) hx hb hg in_Mo hown hK hP 0 rfl rfl 25 (by decide) (hg _ m_1284) (fun _ h9 => h9) rfl d_Mo_close_165 ?_
    obtain ⟨hk0, hk⟩ := hk
    refine va_iald hx hb hK hP 18 0 rfl rfl hk0 d_Mo_close_168 ?_
    refine va_put (v := .int (σ.1 18 (σ.1 0 25).toNatClampNeg)) (ty := .int) (C := R_Mo) (T := T_Mo) (N := 51) hx hb hg in_Mo ty_Mo ok_Mo nm_Mo hown hK hP hD hS 0 rfl rfl 25 (by decide) (hg _ m_1284) (fun _ h9 => h9) rfl (by decide +kernel) rfl rfl (Nat.le_of_ble_eq_true rfl) d_Mo_close_169 (fun H locs hP hD hS => ?_)
    have hP : va_P D classes (Wm ty h (sF σ 0 25 (σ.1 18 (σ.1 0 25).toNatClampNeg)) px) H := hP
    have hD : va_D A (Wm ty h (sF σ 0 25 (σ.1 18 (σ.1 0 25).toNatClampNeg)) px) := hD
    exact B172 _ _ _ x3 (sF σ 0 25 (σ.1 18 (σ.1 0 25).toNatClampNeg)) hv hk (lv_sub hl [1] rfl) hP hD hS
  have B140 : ∀ (H : Heap) (locs : List Loc) (ls : Array Slot) (x3 : Int32) (σ : St), v = f_Mo_close_140 x3 σ → k_Mo_close_140 x3 σ → lv_has ls 4 [(0, .ref (h 0)), (3, .int x3)] → va_P D classes (Wm ty h σ px) H → va_D A (Wm ty h σ px) → va_S A s.heap H locs → W p l e (headSpec w_Mo_close rm_Mo_close).room s m args below meth c H locs 0 0 (MQ below (va_Qi (fun r (u : St) => (r, u) = v) (fun u t => va_P D classes (Wm ty h u px) t.heap) A) args s 0 0 A) (F0 m 140 ls []) := by
    intro H locs ls x3 σ hv hk hl hP hD hS
    unfold f_Mo_close_140 at hv
    unfold k_Mo_close_140 at hk
    refine lv_aload_n hx hb d_Mo_close_140 rfl (lv_at hl 0 rfl) ?_
    refine va_get (v := .int (σ.1 0 0)) (C := R_Mo) (T := T_Mo) (N := 51) hx hb hg in_Mo hown hK hP 0 rfl rfl 0 (by decide) (hg _ m_1259) (fun _ h9 => h9) rfl d_Mo_close_141 ?_
    refine lv_if_le (tgt := 149) hx hb d_Mo_close_144 (by decide) (fun hc => ?_) (fun hc => ?_)
    · have hv := hv.trans (if_pos hc)
      have hk := hk.1 hc
      refine lv_aload_n hx hb d_Mo_close_149 rfl (lv_at hl 0 rfl) ?_
      refine va_get (v := .ref (h 19)) (C := R_Mo) (T := T_Mo) (N := 51) hx hb hg in_Mo hown hK hP 0 rfl rfl 27 (by decide) (hg _ m_1286) (fun _ h9 => h9) rfl d_Mo_close_150 ?_
      refine lv_aload_n hx hb d_Mo_close_153 rfl (lv_at hl 0 rfl) ?_
      refine va_get (v := .int (σ.1 0 25)) (C := R_Mo) (T := T_Mo) (N := 51) hx hb hg in_Mo hown hK hP 0 rfl rfl 25 (by decide) (hg _ m_1284) (fun _ h9 => h9) rfl d_Mo_close_154 ?_
      refine lv_iconst (v := 1) hx hb d_Mo_close_157 (by decide) ?_
      obtain ⟨hk0, hk⟩ := hk
      refine va_zast hx hb hK hP hD hS 19 3 rfl rfl hk0 d_Mo_close_158 (fun H locs hP hD hS => ?_)
      have hP : va_P D classes (Wm ty h (sA σ 19 (σ.1 0 25) (vp_nar .boolean 1)) px) H := hP
      have hD : va_D A (Wm ty h (sA σ 19 (σ.1 0 25) (vp_nar .boolean 1)) px) := hD
      exact B159 _ _ _ x3 (sA σ 19 (σ.1 0 25) (vp_nar .boolean 1)) hv hk (lv_sub hl [0, 1] rfl) hP hD hS
    · have hv := hv.trans (if_neg hc)
      have hk := hk.2 hc
      refine lv_iconst (v := 0) hx hb d_Mo_close_147 (by decide) ?_
      exact W.iret hx hb hr (fun t ht hW => ⟨⟨_, _, rfl, hv.symm, by dsimp only; rw [ht]; exact hP⟩, hS.F ht⟩) hS.2.2 d_Mo_close_148
  have B139 : ∀ (H : Heap) (locs : List Loc) (ls : Array Slot) (s0 : Int32) (σ : St), v = f_Mo_close_139 s0 σ → k_Mo_close_139 s0 σ → lv_has ls 4 [(0, .ref (h 0))] → va_P D classes (Wm ty h σ px) H → va_D A (Wm ty h σ px) → va_S A s.heap H locs → W p l e (headSpec w_Mo_close rm_Mo_close).room s m args below meth c H locs 0 0 (MQ below (va_Qi (fun r (u : St) => (r, u) = v) (fun u t => va_P D classes (Wm ty h u px) t.heap) A) args s 0 0 A) (F0 m 139 ls [.int s0]) := by
    intro H locs ls s0 σ hv hk hl hP hD hS
    unfold f_Mo_close_139 at hv
    unfold k_Mo_close_139 at hk
    refine lv_istore_n (lv' := [(3, .int s0), (0, .ref (h 0))]) hx hb d_Mo_close_139 rfl hl (by decide) rfl (fun ls hl => ?_)
    exact B140 _ _ _ s0 σ hv hk (lv_sub hl [1, 0] rfl) hP hD hS
  have B125 : ∀ (H : Heap) (locs : List Loc) (ls : Array Slot) (x1 : Int32) (σ : St), v = f_Mo_close_125 x1 σ → k_Mo_close_125 x1 σ → lv_has ls 4 [(0, .ref (h 0)), (1, .int x1)] → va_P D classes (Wm ty h σ px) H → va_D A (Wm ty h σ px) → va_S A s.heap H locs → W p l e (headSpec w_Mo_close rm_Mo_close).room s m args below meth c H locs 0 0 (MQ below (va_Qi (fun r (u : St) => (r, u) = v) (fun u t => va_P D classes (Wm ty h u px) t.heap) A) args s 0 0 A) (F0 m 125 ls []) := by
    intro H locs ls x1 σ hv hk hl hP hD hS
    unfold f_Mo_close_125 at hv
    unfold k_Mo_close_125 at hk
    refine lv_aload_n hx hb d_Mo_close_125 rfl (lv_at hl 0 rfl) ?_
    refine lv_aload_n hx hb d_Mo_close_126 rfl (lv_at hl 0 rfl) ?_
    refine va_get (v := .ref (h 18)) (C := R_Mo) (T := T_Mo) (N := 51) hx hb hg in_Mo hown hK hP 0 rfl rfl 26 (by decide) (hg _ m_1285) (fun _ h9 => h9) rfl d_Mo_close_127 ?_
    refine lv_aload_n hx hb d_Mo_close_130 rfl (lv_at hl 0 rfl) ?_
    refine va_get (v := .int (σ.1 0 25)) (C := R_Mo) (T := T_Mo) (N := 51) hx hb hg in_Mo hown hK hP 0 rfl rfl 25 (by decide) (hg _ m_1284) (fun _ h9 => h9) rfl d_Mo_close_131 ?_
    obtain ⟨hk0, hk⟩ := hk
    refine va_iald hx hb hK hP 18 0 rfl rfl hk0 d_Mo_close_134 ?_
    refine lv_iload_n hx hb d_Mo_close_135 rfl (lv_at hl 1 rfl) ?_
    obtain ⟨hk0, hk⟩ := hk
    refine va_calli (va_runV (As := [.int (σ.1 18 (σ.1 0 25).toNatClampNeg), .int x1]) (rest := []) ⟨hx, hb, hml, hown, hg⟩ (c_Mo_enter l D ty h px sa σ H.size (σ.1 18 (σ.1 0 25).toNatClampNeg) x1 hk0) ⟨callB_of 2 hg (gw_C m_1527) rfl rfl rfl (hg _ m_13) (hg _ m_1524) hd_Mo_enter ⟨Nat.le_of_ble_eq_true rfl, Nat.le_of_ble_eq_true rfl⟩, hg _ m_1526, hg _ ms_66⟩ (zz_preVW hM hS hA hN hK hP hD 0 rfl rfl) rfl rfl hl.1 rfl (lv_room (Nat.le_of_ble_eq_true rfl)) d_Mo_close_136 ⟨Nat.le_of_ble_eq_true rfl, Nat.le_of_ble_eq_true rfl⟩) hS (fun q _ h => zz_free hD hS hA q h) (zz_free hD hS hA) (fun r136 u136 t H locs ht hvm hp hP1 hz hk1 hS => ?_)
    rw [ht] at hP1
    rw [← hp] at hv hk
    have hD : va_D A (Wm ty h u136 px) := zz_D hD rfl
    have hP := hP1
    exact B139 _ _ _ r136 u136 hv hk (lv_sub hl [0] rfl) hP hD hS
  have B70 : ∀ (n70 : Nat) (H : Heap) (locs : List Loc) (ls : Array Slot) (x1 : Int32) (x2 : Int32) (x3 : Int32) (σ : St), v = f_Mo_close_70 n70 x1 x2 x3 σ → k_Mo_close_70 n70 x1 x2 x3 σ → lv_has ls 4 [(0, .ref (h 0)), (1, .int x1), (2, .int x2), (3, .int x3)] → va_P D classes (Wm ty h σ px) H → va_D A (Wm ty h σ px) → va_S A s.heap H locs → W p l e (headSpec w_Mo_close rm_Mo_close).room s m args below meth c H locs 0 0 (MQ below (va_Qi (fun r (u : St) => (r, u) = v) (fun u t => va_P D classes (Wm ty h u px) t.heap) A) args s 0 0 A) (F0 m 70 ls []) := by
    intro n70
    induction n70 with
    | zero => intro H locs ls x1 x2 x3 σ hv hk hl hP hD hS; exact hk.elim
    | succ n70 ih70 =>
      have B114 : ∀ (H : Heap) (locs : List Loc) (ls : Array Slot) (x1 : Int32) (x2 : Int32) (x3 : Int32) (σ : St), v = f_Mo_close_114 (f_Mo_close_70 n70) x1 x2 x3 σ → k_Mo_close_114 (k_Mo_close_70 n70) x1 x2 x3 σ → lv_has ls 4 [(0, .ref (h 0)), (1, .int x1), (2, .int x2), (3, .int x3)] → va_P D classes (Wm ty h σ px) H → va_D A (Wm ty h σ px) → va_S A s.heap H locs → W p l e (headSpec w_Mo_close rm_Mo_close).room s m args below meth c H locs 0 0 (MQ below (va_Qi (fun r (u : St) => (r, u) = v) (fun u t => va_P D classes (Wm ty h u px) t.heap) A) args s 0 0 A) (F0 m 114 ls []) := by
        intro H locs ls x1 x2 x3 σ hv hk hl hP hD hS
        unfold f_Mo_close_114 at hv
        unfold k_Mo_close_114 at hk
        refine lv_iinc (k := 3) (v := x3 + 1) (lv' := [(3, .int (x3 + 1)), (0, .ref (h 0)), (1, .int x1), (2, .int x2)]) hx hb d_Mo_close_114 hl rfl (by first | rfl | simp [lit1, litm1]) (by decide) rfl (fun ls hl => ?_)
        refine lv_goto (tgt := 70) hx hb d_Mo_close_117 (by decide) ?_
        exact ih70 _ _ _ x1 x2 (x3 + 1) σ hv hk (lv_sub hl [1, 2, 3, 0] rfl) hP hD hS
      intro H locs ls x1 x2 x3 σ hv hk hl hP hD hS
      rw [f_Mo_close_70] at hv
      rw [k_Mo_close_70] at hk
      refine lv_iload_n hx hb d_Mo_close_70 rfl (lv_at hl 3 rfl) ?_
      refine lv_aload_n hx hb d_Mo_close_71 rfl (lv_at hl 0 rfl) ?_
      refine va_get (v := .int (σ.1 0 19)) (C := R_Mo) (T := T_Mo) (N := 51) hx hb hg in_Mo hown hK hP 0 rfl rfl 19 (by decide) (hg _ m_1278) (fun _ h9 => h9) rfl d_Mo_close_72 ?_
      refine lv_icmp_ge (tgt := 120) hx hb d_Mo_close_75 (by decide) (fun hc => ?_) (fun hc => ?_)
      · have hv := hv.trans (if_pos hc)
        have hk := hk.1 hc
        refine lv_aload_n hx hb d_Mo_close_120 rfl (lv_at hl 0 rfl) ?_
        refine lv_iload_n hx hb d_Mo_close_121 rfl (lv_at hl 2 rfl) ?_
        obtain ⟨hk0, hk⟩ := hk
        refine va_callv (va_runV (As := [.int x2]) (rest := []) ⟨hx, hb, hml, hown, hg⟩ (c_Mo_joinAll l D ty h px sa σ H.size x2 hk0) ⟨callB_of 1 hg (gw_C m_1551) rfl rfl rfl (hg _ m_13) (hg _ m_1548) hd_Mo_joinAll ⟨Nat.le_of_ble_eq_true rfl, Nat.le_of_ble_eq_true rfl⟩, hg _ m_1550, hg _ ms_70⟩ (zz_preVW hM hS hA hN hK hP hD 0 rfl rfl) rfl rfl hl.1 rfl (lv_room (Nat.le_of_ble_eq_true rfl)) d_Mo_close_122 ⟨Nat.le_of_ble_eq_true rfl, Nat.le_of_ble_eq_true rfl⟩) hS (fun q _ h => zz_free hD hS hA q h) (zz_free hD hS hA) (fun u122 t H locs ht hvm hp hP1 hz hk1 hS => ?_)
        rw [ht] at hP1
        rw [← hp] at hv hk
        have hD : va_D A (Wm ty h u122 px) := zz_D hD rfl
        have hP := hP1
        exact B125 _ _ _ x1 u122 hv hk (lv_sub hl [0, 1] rfl) hP hD hS
      · have hv := hv.trans (if_neg hc)
        have hk := hk.2 hc
        refine lv_aload_n hx hb d_Mo_close_78 rfl (lv_at hl 0 rfl) ?_
        refine va_get (v := .ref (h 16)) (C := R_Mo) (T := T_Mo) (N := 51) hx hb hg in_Mo hown hK hP 0 rfl rfl 22 (by decide) (hg _ m_1281) (fun _ h9 => h9) rfl d_Mo_close_79 ?_
        refine lv_iload_n hx hb d_Mo_close_82 rfl (lv_at hl 3 rfl) ?_
        obtain ⟨hk0, hk⟩ := hk
        refine va_iald hx hb hK hP 16 0 rfl rfl hk0 d_Mo_close_83 ?_
        refine lv_aload_n hx hb d_Mo_close_84 rfl (lv_at hl 0 rfl) ?_
        refine va_get (v := .int (σ.1 0 25)) (C := R_Mo) (T := T_Mo) (N := 51) hx hb hg in_Mo hown hK hP 0 rfl rfl 25 (by decide) (hg _ m_1284) (fun _ h9 => h9) rfl d_Mo_close_85 ?_
        refine lv_icmp_ne (tgt := 114) hx hb d_Mo_close_88 (by decide) (fun hc => ?_) (fun hc => ?_)
        · have hv := hv.trans (if_neg hc)
          have hk := hk.2 hc
          exact B114 _ _ _ x1 x2 x3 σ hv hk (lv_sub hl [0, 1, 2, 3] rfl) hP hD hS
        · have hv := hv.trans (if_pos hc)
          have hk := hk.1 hc
          refine lv_aload_n hx hb d_Mo_close_91 rfl (lv_at hl 0 rfl) ?_
          refine va_get (v := .ref (h 17)) (C := R_Mo) (T := T_Mo) (N := 51) hx hb hg in_Mo hown hK hP 0 rfl rfl 23 (by decide) (hg _ m_1282) (fun _ h9 => h9) rfl d_Mo_close_92 ?_
          refine lv_iload_n hx hb d_Mo_close_95 rfl (lv_at hl 3 rfl) ?_
          obtain ⟨hk0, hk⟩ := hk
          refine va_zald hx hb hK hP 17 3 rfl rfl hk0 d_Mo_close_96 ?_
          refine lv_if_eq (tgt := 114) hx hb d_Mo_close_97 (by decide) (fun hc => ?_) (fun hc => ?_)
          · have hv := hv.trans (if_pos hc)
            have hk := hk.1 hc
            exact B114 _ _ _ x1 x2 x3 σ hv hk (lv_sub hl [0, 1, 2, 3] rfl) hP hD hS
          · have hv := hv.trans (if_neg hc)
            have hk := hk.2 hc
            refine lv_aload_n hx hb d_Mo_close_100 rfl (lv_at hl 0 rfl) ?_
            refine lv_aload_n hx hb d_Mo_close_101 rfl (lv_at hl 0 rfl) ?_
            refine va_get (v := .ref (h 15)) (C := R_Mo) (T := T_Mo) (N := 51) hx hb hg in_Mo hown hK hP 0 rfl rfl 21 (by decide) (hg _ m_1280) (fun _ h9 => h9) rfl d_Mo_close_102 ?_
            refine lv_bipush (v := 8) hx hb d_Mo_close_105 (by decide) ?_
            refine lv_iload_n hx hb d_Mo_close_107 rfl (lv_at hl 3 rfl) ?_
            refine lv_imul hx hb d_Mo_close_108 ?_
            obtain ⟨hk0, hk⟩ := hk
            refine va_iald hx hb hK hP 15 0 rfl rfl hk0 d_Mo_close_109 ?_
            refine lv_iconst (v := 0) hx hb d_Mo_close_110 (by decide) ?_
            obtain ⟨hk0, hk⟩ := hk
            refine va_callv (va_runV (As := [.int (σ.1 15 (8 * x3).toNatClampNeg), .int 0]) (rest := []) ⟨hx, hb, hml, hown, hg⟩ (c_Mo_joinAs l D ty h px sa σ H.size (σ.1 15 (8 * x3).toNatClampNeg) 0 hk0) ⟨callB_of 2 hg (gw_C m_1559) rfl rfl rfl (hg _ m_13) (hg _ m_1556) hd_Mo_joinAs ⟨Nat.le_of_ble_eq_true rfl, Nat.le_of_ble_eq_true rfl⟩, hg _ m_1558, hg _ ms_71⟩ (zz_preVW hM hS hA hN hK hP hD 0 rfl rfl) rfl rfl hl.1 rfl (lv_room (Nat.le_of_ble_eq_true rfl)) d_Mo_close_111 ⟨Nat.le_of_ble_eq_true rfl, Nat.le_of_ble_eq_true rfl⟩) hS (fun q _ h => zz_free hD hS hA q h) (zz_free hD hS hA) (fun u111 t H locs ht hvm hp hP1 hz hk1 hS => ?_)
            rw [ht] at hP1
            rw [← hp] at hv hk
            have hD : va_D A (Wm ty h u111 px) := zz_D hD rfl
            have hP := hP1
            exact B114 _ _ _ x1 x2 x3 u111 hv hk (lv_sub hl [0, 1, 2, 3] rfl) hP hD hS
  have B17 : ∀ (n17 : Nat) (H : Heap) (locs : List Loc) (ls : Array Slot) (x1 : Int32) (x2 : Int32) (x3 : Int32) (σ : St), v = f_Mo_close_17 n17 x1 x2 x3 σ → k_Mo_close_17 n17 x1 x2 x3 σ → lv_has ls 4 [(0, .ref (h 0)), (1, .int x1), (2, .int x2), (3, .int x3)] → va_P D classes (Wm ty h σ px) H → va_D A (Wm ty h σ px) → va_S A s.heap H locs → W p l e (headSpec w_Mo_close rm_Mo_close).room s m args below meth c H locs 0 0 (MQ below (va_Qi (fun r (u : St) => (r, u) = v) (fun u t => va_P D classes (Wm ty h u px) t.heap) A) args s 0 0 A) (F0 m 17 ls []) := by
    intro n17
    induction n17 with
    | zero => intro H locs ls x1 x2 x3 σ hv hk hl hP hD hS; exact hk.elim
    | succ n17 ih17 =>
      have B43 : ∀ (H : Heap) (locs : List Loc) (ls : Array Slot) (x1 : Int32) (x3 : Int32) (s0 : Int32) (σ : St), v = f_Mo_close_43 (f_Mo_close_17 n17) x1 x3 s0 σ → k_Mo_close_43 (k_Mo_close_17 n17) x1 x3 s0 σ → lv_has ls 4 [(0, .ref (h 0)), (1, .int x1), (3, .int x3)] → va_P D classes (Wm ty h σ px) H → va_D A (Wm ty h σ px) → va_S A s.heap H locs → W p l e (headSpec w_Mo_close rm_Mo_close).room s m args below meth c H locs 0 0 (MQ below (va_Qi (fun r (u : St) => (r, u) = v) (fun u t => va_P D classes (Wm ty h u px) t.heap) A) args s 0 0 A) (F0 m 43 ls [.int s0]) := by
        intro H locs ls x1 x3 s0 σ hv hk hl hP hD hS
        unfold f_Mo_close_43 at hv
        unfold k_Mo_close_43 at hk
        refine lv_istore_n (lv' := [(2, .int s0), (0, .ref (h 0)), (1, .int x1), (3, .int x3)]) hx hb d_Mo_close_43 rfl hl (by decide) rfl (fun ls hl => ?_)
        refine lv_iinc (k := 3) (v := x3 + 1) (lv' := [(3, .int (x3 + 1)), (2, .int s0), (0, .ref (h 0)), (1, .int x1)]) hx hb d_Mo_close_44 hl rfl (by first | rfl | simp [lit1, litm1]) (by decide) rfl (fun ls hl => ?_)
        refine lv_goto (tgt := 17) hx hb d_Mo_close_47 (by decide) ?_
        exact ih17 _ _ _ x1 s0 (x3 + 1) σ hv hk (lv_sub hl [2, 3, 1, 0] rfl) hP hD hS
      intro H locs ls x1 x2 x3 σ hv hk hl hP hD hS
      rw [f_Mo_close_17] at hv
      rw [k_Mo_close_17] at hk
      refine lv_iload_n hx hb d_Mo_close_17 rfl (lv_at hl 3 rfl) ?_
      refine lv_aload_n hx hb d_Mo_close_18 rfl (lv_at hl 0 rfl) ?_
      refine va_get (v := .int (σ.1 0 19)) (C := R_Mo) (T := T_Mo) (N := 51) hx hb hg in_Mo hown hK hP 0 rfl rfl 19 (by decide) (hg _ m_1278) (fun _ h9 => h9) rfl d_Mo_close_19 ?_
      refine lv_icmp_ge (tgt := 50) hx hb d_Mo_close_22 (by decide) (fun hc => ?_) (fun hc => ?_)
      · have hv := hv.trans (if_pos hc)
        have hk := hk.1 hc
        refine lv_aload_n hx hb d_Mo_close_50 rfl (lv_at hl 0 rfl) ?_
        refine va_get (v := .int (σ.1 0 25)) (C := R_Mo) (T := T_Mo) (N := 51) hx hb hg in_Mo hown hK hP 0 rfl rfl 25 (by decide) (hg _ m_1284) (fun _ h9 => h9) rfl d_Mo_close_51 ?_
        refine lv_if_eq (tgt := 61) hx hb d_Mo_close_54 (by decide) (fun hc => ?_) (fun hc => ?_)
        · have hv := hv.trans (if_pos hc)
          have hk := hk.1 hc
          exact B61 _ _ _ x1 σ hv hk (lv_sub hl [0, 1] rfl) hP hD hS
        · have hv := hv.trans (if_neg hc)
          have hk := hk.2 hc
          refine lv_iload_n hx hb d_Mo_close_57 rfl (lv_at hl 2 rfl) ?_
          refine lv_if_ge (tgt := 68) hx hb d_Mo_close_58 (by decide) (fun hc => ?_) (fun hc => ?_)
          · have hv := hv.trans (if_pos hc)
            have hk := hk.1 hc
            refine lv_iconst (v := 0) hx hb d_Mo_close_68 (by decide) ?_
            refine lv_istore_n (lv' := [(3, .int 0), (0, .ref (h 0)), (1, .int x1), (2, .int x2)]) hx hb d_Mo_close_69 rfl hl (by decide) rfl (fun ls hl => ?_)
            exact B70 1000 _ _ _ x1 x2 0 σ hv hk (lv_sub hl [1, 2, 3, 0] rfl) hP hD hS
          · have hv := hv.trans (if_neg hc)
            have hk := hk.2 hc
            exact B61 _ _ _ x1 σ hv hk (lv_sub hl [0, 1] rfl) hP hD hS
      · have hv := hv.trans (if_neg hc)
        have hk := hk.2 hc
        refine lv_aload_n hx hb d_Mo_close_25 rfl (lv_at hl 0 rfl) ?_
        refine va_get (v := .ref (h 16)) (C := R_Mo) (T := T_Mo) (N := 51) hx hb hg in_Mo hown hK hP 0 rfl rfl 22 (by decide) (hg _ m_1281) (fun _ h9 => h9) rfl d_Mo_close_26 ?_
        refine lv_iload_n hx hb d_Mo_close_29 rfl (lv_at hl 3 rfl) ?_
        obtain ⟨hk0, hk⟩ := hk
        refine va_iald hx hb hK hP 16 0 rfl rfl hk0 d_Mo_close_30 ?_
        refine lv_aload_n hx hb d_Mo_close_31 rfl (lv_at hl 0 rfl) ?_
        refine va_get (v := .int (σ.1 0 25)) (C := R_Mo) (T := T_Mo) (N := 51) hx hb hg in_Mo hown hK hP 0 rfl rfl 25 (by decide) (hg _ m_1284) (fun _ h9 => h9) rfl d_Mo_close_32 ?_
        refine lv_icmp_ne (tgt := 42) hx hb d_Mo_close_35 (by decide) (fun hc => ?_) (fun hc => ?_)
        · have hv := hv.trans (if_neg hc)
          have hk := hk.2 hc
          refine lv_iload_n hx hb d_Mo_close_42 rfl (lv_at hl 2 rfl) ?_
          exact B43 _ _ _ x1 x3 x2 σ hv hk (lv_sub hl [0, 1, 3] rfl) hP hD hS
        · have hv := hv.trans (if_pos hc)
          have hk := hk.1 hc
          refine lv_iload_n hx hb d_Mo_close_38 rfl (lv_at hl 3 rfl) ?_
          refine lv_goto (tgt := 43) hx hb d_Mo_close_39 (by decide) ?_
          exact B43 _ _ _ x1 x3 x3 σ hv hk (lv_sub hl [0, 1, 3] rfl) hP hD hS
  have B4 : ∀ (H : Heap) (locs : List Loc) (ls : Array Slot) (s0 : Int32) (σ : St), v = f_Mo_close_4 s0 σ → k_Mo_close_4 s0 σ → lv_has ls 4 [(0, .ref (h 0))] → va_P D classes (Wm ty h σ px) H → va_D A (Wm ty h σ px) → va_S A s.heap H locs → W p l e (headSpec w_Mo_close rm_Mo_close).room s m args below meth c H locs 0 0 (MQ below (va_Qi (fun r (u : St) => (r, u) = v) (fun u t => va_P D classes (Wm ty h u px) t.heap) A) args s 0 0 A) (F0 m 4 ls [.int s0]) := by
    intro H locs ls s0 σ hv hk hl hP hD hS
    unfold f_Mo_close_4 at hv
    unfold k_Mo_close_4 at hk
    refine lv_if_eq (tgt := 9) hx hb d_Mo_close_4 (by decide) (fun hc => ?_) (fun hc => ?_)
    · have hv := hv.trans (if_pos hc)
      have hk := hk.1 hc
      refine lv_sipush (v := 1074) hx hb d_Mo_close_9 (by decide) ?_
      refine lv_istore_n (lv' := [(1, .int 1074), (0, .ref (h 0))]) hx hb d_Mo_close_12 rfl hl (by decide) rfl (fun ls hl => ?_)
      refine lv_iconst (v := -1) hx hb d_Mo_close_13 (by decide) ?_
      refine lv_istore_n (lv' := [(2, .int (-1)), (1, .int 1074), (0, .ref (h 0))]) hx hb d_Mo_close_14 rfl hl (by decide) rfl (fun ls hl => ?_)
      refine lv_iconst (v := 0) hx hb d_Mo_close_15 (by decide) ?_
      refine lv_istore_n (lv' := [(3, .int 0), (2, .int (-1)), (1, .int 1074), (0, .ref (h 0))]) hx hb d_Mo_close_16 rfl hl (by decide) rfl (fun ls hl => ?_)
      exact B17 1000 _ _ _ 1074 (-1) 0 σ hv hk (lv_sub hl [3, 2, 1, 0] rfl) hP hD hS
    · have hv := hv.trans (if_neg hc)
      have hk := hk.2 hc
      refine lv_iconst (v := -1) hx hb d_Mo_close_7 (by decide) ?_
      exact W.iret hx hb hr (fun t ht hW => ⟨⟨_, _, rfl, hv.symm, by dsimp only; rw [ht]; exact hP⟩, hS.F ht⟩) hS.2.2 d_Mo_close_8
  unfold f_Mo_close at hv
  unfold k_Mo_close at hk
  refine lv_aload_n hx hb d_Mo_close_0 rfl (lv_at hl 0 rfl) ?_
  obtain ⟨hk0, hk⟩ := hk
  refine va_calli (va_runV (As := []) (rest := []) ⟨hx, hb, hml, hown, hg⟩ (c_Mo_begin l D ty h px sa σ s.heap.size  hk0) ⟨callB_of 0 hg (gw_C m_1443) rfl rfl rfl (hg _ m_13) (hg _ m_1440) hd_Mo_begin ⟨Nat.le_of_ble_eq_true rfl, Nat.le_of_ble_eq_true rfl⟩, hg _ m_1442, hg _ ms_49⟩ (zz_preVW hM hS hA hN hK hP hD 0 rfl rfl) rfl rfl hl.1 rfl (lv_room (Nat.le_of_ble_eq_true rfl)) d_Mo_close_1 ⟨Nat.le_of_ble_eq_true rfl, Nat.le_of_ble_eq_true rfl⟩) hS (fun q _ h => zz_free hD hS hA q h) (zz_free hD hS hA) (fun r1 u1 t H locs ht hvm hp hP1 hz hk1 hS => ?_)
  rw [ht] at hP1
  rw [← hp] at hv hk
  have hD : va_D A (Wm ty h u1 px) := zz_D hD rfl
  have hP := hP1
  exact B4 _ _ _ r1 u1 hv hk (lv_sub hl [0] rfl) hP hD hS

-- ClauseLedgerModel.clause(II)I
abbrev b_Mo_clause : ByteArray := prog_14_method_58_code
def y_Mo_clause : MethodName := ⟨"ClauseLedgerModel", "clause", "(II)I"⟩
theorem hd_Mo_clause : y_Mo_clause.cls ≠ "java/lang/invoke/MethodHandle" ∧ y_Mo_clause.cls ≠ "java/lang/invoke/VarHandle" ∧ (parseMethodDescriptor y_Mo_clause.desc).map (fun d => d.parameters.length) = some 2 := by decide +kernel
theorem d_Mo_clause_0 : decode b_Mo_clause 0 = .ok (.aload_n 0, 1) := by decide +kernel
theorem d_Mo_clause_1 : decode b_Mo_clause 1 = .ok (.iconst 0, 1) := by decide +kernel
theorem d_Mo_clause_2 : decode b_Mo_clause 2 = .ok (.putfield 103, 3) := by decide +kernel
theorem d_Mo_clause_5 : decode b_Mo_clause 5 = .ok (.iload_n 1, 1) := by decide +kernel
theorem d_Mo_clause_6 : decode b_Mo_clause 6 = .ok (.ifCond .lt 26, 3) := by decide +kernel
theorem d_Mo_clause_9 : decode b_Mo_clause 9 = .ok (.iload_n 1, 1) := by decide +kernel
theorem d_Mo_clause_10 : decode b_Mo_clause 10 = .ok (.aload_n 0, 1) := by decide +kernel
theorem d_Mo_clause_11 : decode b_Mo_clause 11 = .ok (.getfield 137, 3) := by decide +kernel
theorem d_Mo_clause_14 : decode b_Mo_clause 14 = .ok (.if_icmp .ge 18, 3) := by decide +kernel
theorem d_Mo_clause_17 : decode b_Mo_clause 17 = .ok (.iload_n 2, 1) := by decide +kernel
theorem d_Mo_clause_18 : decode b_Mo_clause 18 = .ok (.iconst (-1), 1) := by decide +kernel
theorem d_Mo_clause_19 : decode b_Mo_clause 19 = .ok (.if_icmp .lt 13, 3) := by decide +kernel
theorem d_Mo_clause_22 : decode b_Mo_clause 22 = .ok (.iload_n 2, 1) := by decide +kernel
theorem d_Mo_clause_23 : decode b_Mo_clause 23 = .ok (.aload_n 0, 1) := by decide +kernel
theorem d_Mo_clause_24 : decode b_Mo_clause 24 = .ok (.getfield 53, 3) := by decide +kernel
theorem d_Mo_clause_27 : decode b_Mo_clause 27 = .ok (.iload_n 1, 1) := by decide +kernel
theorem d_Mo_clause_28 : decode b_Mo_clause 28 = .ok (.iaload, 1) := by decide +kernel
theorem d_Mo_clause_29 : decode b_Mo_clause 29 = .ok (.if_icmp .lt 5, 3) := by decide +kernel
theorem d_Mo_clause_32 : decode b_Mo_clause 32 = .ok (.iconst (-1), 1) := by decide +kernel
theorem d_Mo_clause_33 : decode b_Mo_clause 33 = .ok (.ireturn, 1) := by decide +kernel
theorem d_Mo_clause_34 : decode b_Mo_clause 34 = .ok (.iload_n 2, 1) := by decide +kernel
theorem d_Mo_clause_35 : decode b_Mo_clause 35 = .ok (.ifCond .ge 12, 3) := by decide +kernel
theorem d_Mo_clause_38 : decode b_Mo_clause 38 = .ok (.aload_n 0, 1) := by decide +kernel
theorem d_Mo_clause_39 : decode b_Mo_clause 39 = .ok (.getfield 53, 3) := by decide +kernel
theorem d_Mo_clause_42 : decode b_Mo_clause 42 = .ok (.iload_n 1, 1) := by decide +kernel
theorem d_Mo_clause_43 : decode b_Mo_clause 43 = .ok (.iaload, 1) := by decide +kernel
theorem d_Mo_clause_44 : decode b_Mo_clause 44 = .ok (.goto 14, 3) := by decide +kernel
theorem d_Mo_clause_47 : decode b_Mo_clause 47 = .ok (.aload_n 0, 1) := by decide +kernel
theorem d_Mo_clause_48 : decode b_Mo_clause 48 = .ok (.getfield 56, 3) := by decide +kernel
theorem d_Mo_clause_51 : decode b_Mo_clause 51 = .ok (.bipush 8, 2) := by decide +kernel
theorem d_Mo_clause_53 : decode b_Mo_clause 53 = .ok (.iload_n 1, 1) := by decide +kernel
theorem d_Mo_clause_54 : decode b_Mo_clause 54 = .ok (.imul, 1) := by decide +kernel
theorem d_Mo_clause_55 : decode b_Mo_clause 55 = .ok (.iload_n 2, 1) := by decide +kernel
theorem d_Mo_clause_56 : decode b_Mo_clause 56 = .ok (.iadd, 1) := by decide +kernel
theorem d_Mo_clause_57 : decode b_Mo_clause 57 = .ok (.iaload, 1) := by decide +kernel
theorem d_Mo_clause_58 : decode b_Mo_clause 58 = .ok (.ireturn, 1) := by decide +kernel
def f_Mo_clause_32 (σ : St) : Int32 × St := ((-1), σ)
def k_Mo_clause_32 (σ : St) : Prop := True
def f_Mo_clause_58 (s0 : Int32) (σ : St) : Int32 × St := (s0, σ)
def k_Mo_clause_58 (s0 : Int32) (σ : St) : Prop := True
def f_Mo_clause_5 (x1 : Int32) (x2 : Int32) (σ : St) : Int32 × St := if x1 < 0 then (f_Mo_clause_32 σ) else (if (σ.1 0 19) ≤ x1 then (f_Mo_clause_32 σ) else (if x2 < (-1) then (f_Mo_clause_32 σ) else (if x2 < (σ.1 14 x1.toNatClampNeg) then (if 0 ≤ x2 then (f_Mo_clause_58 (σ.1 15 ((8 * x1) + x2).toNatClampNeg) σ) else (f_Mo_clause_58 (σ.1 14 x1.toNatClampNeg) σ)) else (f_Mo_clause_32 σ))))
def k_Mo_clause_5 (x1 : Int32) (x2 : Int32) (σ : St) : Prop := (x1 < 0 → (k_Mo_clause_32 σ)) ∧ (¬ x1 < 0 → (((σ.1 0 19) ≤ x1 → (k_Mo_clause_32 σ)) ∧ (¬ (σ.1 0 19) ≤ x1 → ((x2 < (-1) → (k_Mo_clause_32 σ)) ∧ (¬ x2 < (-1) → (vp_in x1 60 ∧ ((x2 < (σ.1 14 x1.toNatClampNeg) → ((0 ≤ x2 → (vp_in ((8 * x1) + x2) 480 ∧ (k_Mo_clause_58 (σ.1 15 ((8 * x1) + x2).toNatClampNeg) σ))) ∧ (¬ 0 ≤ x2 → (vp_in x1 60 ∧ (k_Mo_clause_58 (σ.1 14 x1.toNatClampNeg) σ))))) ∧ (¬ x2 < (σ.1 14 x1.toNatClampNeg) → (k_Mo_clause_32 σ)))))))))
def f_Mo_clause (a1 : Int32) (a2 : Int32) (σ : St) : Int32 × St := f_Mo_clause_5 a1 a2 (sF σ 0 0 0)
def k_Mo_clause (a1 : Int32) (a2 : Int32) (σ : St) : Prop := k_Mo_clause_5 a1 a2 (sF σ 0 0 0)
abbrev w_Mo_clause : List Cond := Cond.code y_Mo_clause b_Mo_clause 3 (some .int) :: gw
abbrev rm_Mo_clause : Room := { frames := 0, cells := 0, slots := 0, locals := 0 }
set_option maxHeartbeats 4000000 in
set_option maxRecDepth 100000 in
theorem c_Mo_clause (l : Launch) (D : va_G) (ty : Nat → ClassId) (h : Nat → Nat) (px : va_W) (sa : Nat → Nat) (σ : St) (sz : Nat) (a1 : Int32) (a2 : Int32) (hk : k_Mo_clause a1 a2 σ) : Met l y_Mo_clause w_Mo_clause rm_Mo_clause (va_Pc [.ref (h 0), .int a1, .int a2] (fun U => U.heap.size = sz ∧ va_P D classes (Wm ty h σ px) U.heap ∧ va_K D classes (Ta ty) U ∧ NW U ∧ MK sa (va_A (Wm ty h σ px) sz) U U.heap ∧ va_D (fun _ => True) (Wm ty h σ px))) (va_Qi (fun r (u : St) => (r, u) = f_Mo_clause a1 a2 σ) (fun u t => va_P D classes (Wm ty h u px) t.heap) (va_A (Wm ty h σ px) sz)) 0 0 (va_A (Wm ty h σ px) sz) := by
  refine Met.ofW (cc := b_Mo_clause) (maxL := 3) (ret := (some .int)) (by decide) rfl ?_
  intro p e s m args below meth c s₁ B hml hv
  obtain ⟨ha, hsz, hP, hK, hN, hM, hD0⟩ := hv
  have hx := B.exec
  have hb := B.bytes
  have hr := B.returns
  have hg : ∀ w ∈ gw, w.before args s = true := fun w h9 => atoms_spec (ws := w_Mo_clause) B.pre w (List.mem_cons_of_mem _ h9)
  have hown : s.vm.findClass "ClauseLedgerModel" = some m.cls := findClass_of_methodNamed B.named
  have hlocks := B.notSynchronized
  subst hsz
  have hD := hD0.self (sz := s.heap.size)
  generalize hAe : va_A (Wm ty h σ px) s.heap.size = A at hD hM ⊢
  have hA : ∀ q : Nat, s.heap.size ≤ q → A q := fun q h9 => by rw [← hAe]; exact Or.inr h9
  have hS : va_S A s.heap s.heap [] := va_S.rf
  have he : entryFrame m args 3 = entryFrame m ([.ref (h 0), .int a1, .int a2] : List Value).toArray 3 := by rw [ha]
  rw [he, lg_entry_eq]
  have hl := lv_entry ([.ref (h 0), .int a1, .int a2]) (n := 3) (Nat.le_of_ble_eq_true rfl)
  generalize (lg_sl ([.ref (h 0), .int a1, .int a2]) ++ List.replicate (3 - (lg_sl ([.ref (h 0), .int a1, .int a2])).length) Slot.unset).toArray = ls at hl ⊢
  have hl : lv_has ls 3 [(0, .ref (h 0)), (1, .int a1), (2, .int a2)] := hl
  generalize hv : f_Mo_clause a1 a2 σ = v
  replace hv := hv.symm
  have B32 : ∀ (H : Heap) (locs : List Loc) (ls : Array Slot) (σ : St), v = f_Mo_clause_32 σ → k_Mo_clause_32 σ → lv_has ls 3 [] → va_P D classes (Wm ty h σ px) H → va_D A (Wm ty h σ px) → va_S A s.heap H locs → W p l e (headSpec w_Mo_clause rm_Mo_clause).room s m args below meth c H locs 0 0 (MQ below (va_Qi (fun r (u : St) => (r, u) = v) (fun u t => va_P D classes (Wm ty h u px) t.heap) A) args s 0 0 A) (F0 m 32 ls []) := by
    intro H locs ls σ hv hk hl hP hD hS
    unfold f_Mo_clause_32 at hv
    unfold k_Mo_clause_32 at hk
    refine lv_iconst (v := -1) hx hb d_Mo_clause_32 (by decide) ?_
    exact W.iret hx hb hr (fun t ht hW => ⟨⟨_, _, rfl, hv.symm, by dsimp only; rw [ht]; exact hP⟩, hS.F ht⟩) hS.2.2 d_Mo_clause_33
  have B58 : ∀ (H : Heap) (locs : List Loc) (ls : Array Slot) (s0 : Int32) (σ : St), v = f_Mo_clause_58 s0 σ → k_Mo_clause_58 s0 σ → lv_has ls 3 [] → va_P D classes (Wm ty h σ px) H → va_D A (Wm ty h σ px) → va_S A s.heap H locs → W p l e (headSpec w_Mo_clause rm_Mo_clause).room s m args below meth c H locs 0 0 (MQ below (va_Qi (fun r (u : St) => (r, u) = v) (fun u t => va_P D classes (Wm ty h u px) t.heap) A) args s 0 0 A) (F0 m 58 ls [.int s0]) := by
    intro H locs ls s0 σ hv hk hl hP hD hS
    unfold f_Mo_clause_58 at hv
    unfold k_Mo_clause_58 at hk
    exact W.iret hx hb hr (fun t ht hW => ⟨⟨_, _, rfl, hv.symm, by dsimp only; rw [ht]; exact hP⟩, hS.F ht⟩) hS.2.2 d_Mo_clause_58
  have B5 : ∀ (H : Heap) (locs : List Loc) (ls : Array Slot) (x1 : Int32) (x2 : Int32) (σ : St), v = f_Mo_clause_5 x1 x2 σ → k_Mo_clause_5 x1 x2 σ → lv_has ls 3 [(0, .ref (h 0)), (1, .int x1), (2, .int x2)] → va_P D classes (Wm ty h σ px) H → va_D A (Wm ty h σ px) → va_S A s.heap H locs → W p l e (headSpec w_Mo_clause rm_Mo_clause).room s m args below meth c H locs 0 0 (MQ below (va_Qi (fun r (u : St) => (r, u) = v) (fun u t => va_P D classes (Wm ty h u px) t.heap) A) args s 0 0 A) (F0 m 5 ls []) := by
    intro H locs ls x1 x2 σ hv hk hl hP hD hS
    unfold f_Mo_clause_5 at hv
    unfold k_Mo_clause_5 at hk
    refine lv_iload_n hx hb d_Mo_clause_5 rfl (lv_at hl 1 rfl) ?_
    refine lv_if_lt (tgt := 32) hx hb d_Mo_clause_6 (by decide) (fun hc => ?_) (fun hc => ?_)
    · have hv := hv.trans (if_pos hc)
      have hk := hk.1 hc
      exact B32 _ _ _  σ hv hk (lv_sub hl [] rfl) hP hD hS
    · have hv := hv.trans (if_neg hc)
      have hk := hk.2 hc
      refine lv_iload_n hx hb d_Mo_clause_9 rfl (lv_at hl 1 rfl) ?_
      refine lv_aload_n hx hb d_Mo_clause_10 rfl (lv_at hl 0 rfl) ?_
      refine va_get (v := .int (σ.1 0 19)) (C := R_Mo) (T := T_Mo) (N := 51) hx hb hg in_Mo hown hK hP 0 rfl rfl 19 (by decide) (hg _ m_1278) (fun _ h9 => h9) rfl d_Mo_clause_11 ?_
      refine lv_icmp_ge (tgt := 32) hx hb d_Mo_clause_14 (by decide) (fun hc => ?_) (fun hc => ?_)
      · have hv := hv.trans (if_pos hc)
        have hk := hk.1 hc
        exact B32 _ _ _  σ hv hk (lv_sub hl [] rfl) hP hD hS
      · have hv := hv.trans (if_neg hc)
        have hk := hk.2 hc
        refine lv_iload_n hx hb d_Mo_clause_17 rfl (lv_at hl 2 rfl) ?_
        refine lv_iconst (v := -1) hx hb d_Mo_clause_18 (by decide) ?_
        refine lv_icmp_lt (tgt := 32) hx hb d_Mo_clause_19 (by decide) (fun hc => ?_) (fun hc => ?_)
        · have hv := hv.trans (if_pos hc)
          have hk := hk.1 hc
          exact B32 _ _ _  σ hv hk (lv_sub hl [] rfl) hP hD hS
        · have hv := hv.trans (if_neg hc)
          have hk := hk.2 hc
          refine lv_iload_n hx hb d_Mo_clause_22 rfl (lv_at hl 2 rfl) ?_
          refine lv_aload_n hx hb d_Mo_clause_23 rfl (lv_at hl 0 rfl) ?_
          refine va_get (v := .ref (h 14)) (C := R_Mo) (T := T_Mo) (N := 51) hx hb hg in_Mo hown hK hP 0 rfl rfl 20 (by decide) (hg _ m_1279) (fun _ h9 => h9) rfl d_Mo_clause_24 ?_
          refine lv_iload_n hx hb d_Mo_clause_27 rfl (lv_at hl 1 rfl) ?_
          obtain ⟨hk0, hk⟩ := hk
          refine va_iald hx hb hK hP 14 0 rfl rfl hk0 d_Mo_clause_28 ?_
          refine lv_icmp_lt (tgt := 34) hx hb d_Mo_clause_29 (by decide) (fun hc => ?_) (fun hc => ?_)
          · have hv := hv.trans (if_pos hc)
            have hk := hk.1 hc
            refine lv_iload_n hx hb d_Mo_clause_34 rfl (lv_at hl 2 rfl) ?_
            refine lv_if_ge (tgt := 47) hx hb d_Mo_clause_35 (by decide) (fun hc => ?_) (fun hc => ?_)
            · have hv := hv.trans (if_pos hc)
              have hk := hk.1 hc
              refine lv_aload_n hx hb d_Mo_clause_47 rfl (lv_at hl 0 rfl) ?_
              refine va_get (v := .ref (h 15)) (C := R_Mo) (T := T_Mo) (N := 51) hx hb hg in_Mo hown hK hP 0 rfl rfl 21 (by decide) (hg _ m_1280) (fun _ h9 => h9) rfl d_Mo_clause_48 ?_
              refine lv_bipush (v := 8) hx hb d_Mo_clause_51 (by decide) ?_
              refine lv_iload_n hx hb d_Mo_clause_53 rfl (lv_at hl 1 rfl) ?_
              refine lv_imul hx hb d_Mo_clause_54 ?_
              refine lv_iload_n hx hb d_Mo_clause_55 rfl (lv_at hl 2 rfl) ?_
              refine lv_iadd hx hb d_Mo_clause_56 ?_
              obtain ⟨hk0, hk⟩ := hk
              refine va_iald hx hb hK hP 15 0 rfl rfl hk0 d_Mo_clause_57 ?_
              exact B58 _ _ _ (σ.1 15 ((8 * x1) + x2).toNatClampNeg) σ hv hk (lv_sub hl [] rfl) hP hD hS
            · have hv := hv.trans (if_neg hc)
              have hk := hk.2 hc
              refine lv_aload_n hx hb d_Mo_clause_38 rfl (lv_at hl 0 rfl) ?_
              refine va_get (v := .ref (h 14)) (C := R_Mo) (T := T_Mo) (N := 51) hx hb hg in_Mo hown hK hP 0 rfl rfl 20 (by decide) (hg _ m_1279) (fun _ h9 => h9) rfl d_Mo_clause_39 ?_
              refine lv_iload_n hx hb d_Mo_clause_42 rfl (lv_at hl 1 rfl) ?_
              obtain ⟨hk0, hk⟩ := hk
              refine va_iald hx hb hK hP 14 0 rfl rfl hk0 d_Mo_clause_43 ?_
              refine lv_goto (tgt := 58) hx hb d_Mo_clause_44 (by decide) ?_
              exact B58 _ _ _ (σ.1 14 x1.toNatClampNeg) σ hv hk (lv_sub hl [] rfl) hP hD hS
          · have hv := hv.trans (if_neg hc)
            have hk := hk.2 hc
            exact B32 _ _ _  σ hv hk (lv_sub hl [] rfl) hP hD hS
  unfold f_Mo_clause at hv
  unfold k_Mo_clause at hk
  refine lv_aload_n hx hb d_Mo_clause_0 rfl (lv_at hl 0 rfl) ?_
  refine lv_iconst (v := 0) hx hb d_Mo_clause_1 (by decide) ?_
  refine va_put (v := .int 0) (ty := .int) (C := R_Mo) (T := T_Mo) (N := 51) hx hb hg in_Mo ty_Mo ok_Mo nm_Mo hown hK hP hD hS 0 rfl rfl 0 (by decide) (hg _ m_1259) (fun _ h9 => h9) rfl (by decide +kernel) rfl rfl (Nat.le_of_ble_eq_true rfl) d_Mo_clause_2 (fun H locs hP hD hS => ?_)
  have hP : va_P D classes (Wm ty h (sF σ 0 0 0) px) H := hP
  have hD : va_D A (Wm ty h (sF σ 0 0 0) px) := hD
  exact B5 _ _ _ a1 a2 (sF σ 0 0 0) hv hk (lv_sub hl [0, 1, 2] rfl) hP hD hS

-- ClauseLedgerModel.scope(I)I
abbrev b_Mo_scope : ByteArray := prog_14_method_59_code
def y_Mo_scope : MethodName := ⟨"ClauseLedgerModel", "scope", "(I)I"⟩
theorem hd_Mo_scope : y_Mo_scope.cls ≠ "java/lang/invoke/MethodHandle" ∧ y_Mo_scope.cls ≠ "java/lang/invoke/VarHandle" ∧ (parseMethodDescriptor y_Mo_scope.desc).map (fun d => d.parameters.length) = some 1 := by decide +kernel
theorem d_Mo_scope_0 : decode b_Mo_scope 0 = .ok (.aload_n 0, 1) := by decide +kernel
theorem d_Mo_scope_1 : decode b_Mo_scope 1 = .ok (.iconst 0, 1) := by decide +kernel
theorem d_Mo_scope_2 : decode b_Mo_scope 2 = .ok (.putfield 103, 3) := by decide +kernel
theorem d_Mo_scope_5 : decode b_Mo_scope 5 = .ok (.iload_n 1, 1) := by decide +kernel
theorem d_Mo_scope_6 : decode b_Mo_scope 6 = .ok (.ifCond .lt 11, 3) := by decide +kernel
theorem d_Mo_scope_9 : decode b_Mo_scope 9 = .ok (.iload_n 1, 1) := by decide +kernel
theorem d_Mo_scope_10 : decode b_Mo_scope 10 = .ok (.aload_n 0, 1) := by decide +kernel
theorem d_Mo_scope_11 : decode b_Mo_scope 11 = .ok (.getfield 137, 3) := by decide +kernel
theorem d_Mo_scope_14 : decode b_Mo_scope 14 = .ok (.if_icmp .lt 5, 3) := by decide +kernel
theorem d_Mo_scope_17 : decode b_Mo_scope 17 = .ok (.iconst (-1), 1) := by decide +kernel
theorem d_Mo_scope_18 : decode b_Mo_scope 18 = .ok (.ireturn, 1) := by decide +kernel
theorem d_Mo_scope_19 : decode b_Mo_scope 19 = .ok (.aload_n 0, 1) := by decide +kernel
theorem d_Mo_scope_20 : decode b_Mo_scope 20 = .ok (.aload_n 0, 1) := by decide +kernel
theorem d_Mo_scope_21 : decode b_Mo_scope 21 = .ok (.getfield 59, 3) := by decide +kernel
theorem d_Mo_scope_24 : decode b_Mo_scope 24 = .ok (.iload_n 1, 1) := by decide +kernel
theorem d_Mo_scope_25 : decode b_Mo_scope 25 = .ok (.iaload, 1) := by decide +kernel
theorem d_Mo_scope_26 : decode b_Mo_scope 26 = .ok (.invokevirtual 294, 3) := by decide +kernel
theorem d_Mo_scope_29 : decode b_Mo_scope 29 = .ok (.aload_n 0, 1) := by decide +kernel
theorem d_Mo_scope_30 : decode b_Mo_scope 30 = .ok (.iload_n 1, 1) := by decide +kernel
theorem d_Mo_scope_31 : decode b_Mo_scope 31 = .ok (.invokevirtual 220, 3) := by decide +kernel
theorem d_Mo_scope_34 : decode b_Mo_scope 34 = .ok (.ifCond .eq 7, 3) := by decide +kernel
theorem d_Mo_scope_37 : decode b_Mo_scope 37 = .ok (.iconst 0, 1) := by decide +kernel
theorem d_Mo_scope_38 : decode b_Mo_scope 38 = .ok (.goto 5, 3) := by decide +kernel
theorem d_Mo_scope_41 : decode b_Mo_scope 41 = .ok (.bipush 100, 2) := by decide +kernel
theorem d_Mo_scope_43 : decode b_Mo_scope 43 = .ok (.iadd, 1) := by decide +kernel
theorem d_Mo_scope_44 : decode b_Mo_scope 44 = .ok (.ireturn, 1) := by decide +kernel
def f_Mo_scope_17 (σ : St) : Int32 × St := ((-1), σ)
def k_Mo_scope_17 (σ : St) : Prop := True
def f_Mo_scope_43 (s0 : Int32) (s1 : Int32) (σ : St) : Int32 × St := (s1 + s0, σ)
def k_Mo_scope_43 (s0 : Int32) (s1 : Int32) (σ : St) : Prop := True
def f_Mo_scope_5 (x1 : Int32) (σ : St) : Int32 × St := if x1 < 0 then (f_Mo_scope_17 σ) else (if x1 < (σ.1 0 19) then (if (f_Mo_stands x1 σ) = 0 then (f_Mo_scope_43 100 (f_Mo_deepOf (σ.1 16 x1.toNatClampNeg) σ) σ) else (f_Mo_scope_43 0 (f_Mo_deepOf (σ.1 16 x1.toNatClampNeg) σ) σ)) else (f_Mo_scope_17 σ))
def k_Mo_scope_5 (x1 : Int32) (σ : St) : Prop := (x1 < 0 → (k_Mo_scope_17 σ)) ∧ (¬ x1 < 0 → ((x1 < (σ.1 0 19) → (vp_in x1 60 ∧ ((k_Mo_deepOf (σ.1 16 x1.toNatClampNeg) σ) ∧ ((k_Mo_stands x1 σ) ∧ (((f_Mo_stands x1 σ) = 0 → (k_Mo_scope_43 100 (f_Mo_deepOf (σ.1 16 x1.toNatClampNeg) σ) σ)) ∧ (¬ (f_Mo_stands x1 σ) = 0 → (k_Mo_scope_43 0 (f_Mo_deepOf (σ.1 16 x1.toNatClampNeg) σ) σ))))))) ∧ (¬ x1 < (σ.1 0 19) → (k_Mo_scope_17 σ))))
def f_Mo_scope (a1 : Int32) (σ : St) : Int32 × St := f_Mo_scope_5 a1 (sF σ 0 0 0)
def k_Mo_scope (a1 : Int32) (σ : St) : Prop := k_Mo_scope_5 a1 (sF σ 0 0 0)
abbrev w_Mo_scope : List Cond := Cond.code y_Mo_scope b_Mo_scope 2 (some .int) :: gw
abbrev rm_Mo_scope : Room := { frames := 1, cells := 0, slots := 0, locals := 24 }
set_option maxHeartbeats 4000000 in
set_option maxRecDepth 100000 in
theorem c_Mo_scope (l : Launch) (D : va_G) (ty : Nat → ClassId) (h : Nat → Nat) (px : va_W) (sa : Nat → Nat) (σ : St) (sz : Nat) (a1 : Int32) (hk : k_Mo_scope a1 σ) : Met l y_Mo_scope w_Mo_scope rm_Mo_scope (va_Pc [.ref (h 0), .int a1] (fun U => U.heap.size = sz ∧ va_P D classes (Wm ty h σ px) U.heap ∧ va_K D classes (Ta ty) U ∧ NW U ∧ MK sa (va_A (Wm ty h σ px) sz) U U.heap ∧ va_D (fun _ => True) (Wm ty h σ px))) (va_Qi (fun r (u : St) => (r, u) = f_Mo_scope a1 σ) (fun u t => va_P D classes (Wm ty h u px) t.heap) (va_A (Wm ty h σ px) sz)) 0 0 (va_A (Wm ty h σ px) sz) := by
  refine Met.ofW (cc := b_Mo_scope) (maxL := 2) (ret := (some .int)) (by decide) rfl ?_
  intro p e s m args below meth c s₁ B hml hv
  obtain ⟨ha, hsz, hP, hK, hN, hM, hD0⟩ := hv
  have hx := B.exec
  have hb := B.bytes
  have hr := B.returns
  have hg : ∀ w ∈ gw, w.before args s = true := fun w h9 => atoms_spec (ws := w_Mo_scope) B.pre w (List.mem_cons_of_mem _ h9)
  have hown : s.vm.findClass "ClauseLedgerModel" = some m.cls := findClass_of_methodNamed B.named
  have hlocks := B.notSynchronized
  subst hsz
  have hD := hD0.self (sz := s.heap.size)
  generalize hAe : va_A (Wm ty h σ px) s.heap.size = A at hD hM ⊢
  have hA : ∀ q : Nat, s.heap.size ≤ q → A q := fun q h9 => by rw [← hAe]; exact Or.inr h9
  have hS : va_S A s.heap s.heap [] := va_S.rf
  have he : entryFrame m args 2 = entryFrame m ([.ref (h 0), .int a1] : List Value).toArray 2 := by rw [ha]
  rw [he, lg_entry_eq]
  have hl := lv_entry ([.ref (h 0), .int a1]) (n := 2) (Nat.le_of_ble_eq_true rfl)
  generalize (lg_sl ([.ref (h 0), .int a1]) ++ List.replicate (2 - (lg_sl ([.ref (h 0), .int a1])).length) Slot.unset).toArray = ls at hl ⊢
  have hl : lv_has ls 2 [(0, .ref (h 0)), (1, .int a1)] := hl
  generalize hv : f_Mo_scope a1 σ = v
  replace hv := hv.symm
  have B17 : ∀ (H : Heap) (locs : List Loc) (ls : Array Slot) (σ : St), v = f_Mo_scope_17 σ → k_Mo_scope_17 σ → lv_has ls 2 [] → va_P D classes (Wm ty h σ px) H → va_D A (Wm ty h σ px) → va_S A s.heap H locs → W p l e (headSpec w_Mo_scope rm_Mo_scope).room s m args below meth c H locs 0 0 (MQ below (va_Qi (fun r (u : St) => (r, u) = v) (fun u t => va_P D classes (Wm ty h u px) t.heap) A) args s 0 0 A) (F0 m 17 ls []) := by
    intro H locs ls σ hv hk hl hP hD hS
    unfold f_Mo_scope_17 at hv
    unfold k_Mo_scope_17 at hk
    refine lv_iconst (v := -1) hx hb d_Mo_scope_17 (by decide) ?_
    exact W.iret hx hb hr (fun t ht hW => ⟨⟨_, _, rfl, hv.symm, by dsimp only; rw [ht]; exact hP⟩, hS.F ht⟩) hS.2.2 d_Mo_scope_18
  have B43 : ∀ (H : Heap) (locs : List Loc) (ls : Array Slot) (s0 : Int32) (s1 : Int32) (σ : St), v = f_Mo_scope_43 s0 s1 σ → k_Mo_scope_43 s0 s1 σ → lv_has ls 2 [] → va_P D classes (Wm ty h σ px) H → va_D A (Wm ty h σ px) → va_S A s.heap H locs → W p l e (headSpec w_Mo_scope rm_Mo_scope).room s m args below meth c H locs 0 0 (MQ below (va_Qi (fun r (u : St) => (r, u) = v) (fun u t => va_P D classes (Wm ty h u px) t.heap) A) args s 0 0 A) (F0 m 43 ls [.int s0, .int s1]) := by
    intro H locs ls s0 s1 σ hv hk hl hP hD hS
    unfold f_Mo_scope_43 at hv
    unfold k_Mo_scope_43 at hk
    refine lv_iadd hx hb d_Mo_scope_43 ?_
    exact W.iret hx hb hr (fun t ht hW => ⟨⟨_, _, rfl, hv.symm, by dsimp only; rw [ht]; exact hP⟩, hS.F ht⟩) hS.2.2 d_Mo_scope_44
  have B5 : ∀ (H : Heap) (locs : List Loc) (ls : Array Slot) (x1 : Int32) (σ : St), v = f_Mo_scope_5 x1 σ → k_Mo_scope_5 x1 σ → lv_has ls 2 [(0, .ref (h 0)), (1, .int x1)] → va_P D classes (Wm ty h σ px) H → va_D A (Wm ty h σ px) → va_S A s.heap H locs → W p l e (headSpec w_Mo_scope rm_Mo_scope).room s m args below meth c H locs 0 0 (MQ below (va_Qi (fun r (u : St) => (r, u) = v) (fun u t => va_P D classes (Wm ty h u px) t.heap) A) args s 0 0 A) (F0 m 5 ls []) := by
    intro H locs ls x1 σ hv hk hl hP hD hS
    unfold f_Mo_scope_5 at hv
    unfold k_Mo_scope_5 at hk
    refine lv_iload_n hx hb d_Mo_scope_5 rfl (lv_at hl 1 rfl) ?_
    refine lv_if_lt (tgt := 17) hx hb d_Mo_scope_6 (by decide) (fun hc => ?_) (fun hc => ?_)
    · have hv := hv.trans (if_pos hc)
      have hk := hk.1 hc
      exact B17 _ _ _  σ hv hk (lv_sub hl [] rfl) hP hD hS
    · have hv := hv.trans (if_neg hc)
      have hk := hk.2 hc
      refine lv_iload_n hx hb d_Mo_scope_9 rfl (lv_at hl 1 rfl) ?_
      refine lv_aload_n hx hb d_Mo_scope_10 rfl (lv_at hl 0 rfl) ?_
      refine va_get (v := .int (σ.1 0 19)) (C := R_Mo) (T := T_Mo) (N := 51) hx hb hg in_Mo hown hK hP 0 rfl rfl 19 (by decide) (hg _ m_1278) (fun _ h9 => h9) rfl d_Mo_scope_11 ?_
      refine lv_icmp_lt (tgt := 19) hx hb d_Mo_scope_14 (by decide) (fun hc => ?_) (fun hc => ?_)
      · have hv := hv.trans (if_pos hc)
        have hk := hk.1 hc
        refine lv_aload_n hx hb d_Mo_scope_19 rfl (lv_at hl 0 rfl) ?_
        refine lv_aload_n hx hb d_Mo_scope_20 rfl (lv_at hl 0 rfl) ?_
        refine va_get (v := .ref (h 16)) (C := R_Mo) (T := T_Mo) (N := 51) hx hb hg in_Mo hown hK hP 0 rfl rfl 22 (by decide) (hg _ m_1281) (fun _ h9 => h9) rfl d_Mo_scope_21 ?_
        refine lv_iload_n hx hb d_Mo_scope_24 rfl (lv_at hl 1 rfl) ?_
        obtain ⟨hk0, hk⟩ := hk
        refine va_iald hx hb hK hP 16 0 rfl rfl hk0 d_Mo_scope_25 ?_
        obtain ⟨hk0, hk⟩ := hk
        refine zz_callV (va_runV (As := [.int (σ.1 16 x1.toNatClampNeg)]) (rest := []) ⟨hx, hb, hml, hown, hg⟩ (c_Mo_deepOf l D ty h px sa σ (σ.1 16 x1.toNatClampNeg) hk0) ⟨callB_of 1 hg (gw_C m_1632) rfl rfl rfl (hg _ m_13) (hg _ m_1629) hd_Mo_deepOf ⟨Nat.le_of_ble_eq_true rfl, Nat.le_of_ble_eq_true rfl⟩, hg _ m_1631, hg _ ms_81⟩ (zz_preV (hM.at hS) hN hK hP 0 rfl rfl) rfl rfl hl.1 rfl (lv_room (Nat.le_of_ble_eq_true rfl)) d_Mo_scope_26 ⟨Nat.le_of_ble_eq_true rfl, Nat.le_of_ble_eq_true rfl⟩) ?_
        refine lv_aload_n hx hb d_Mo_scope_29 rfl (lv_at hl 0 rfl) ?_
        refine lv_iload_n hx hb d_Mo_scope_30 rfl (lv_at hl 1 rfl) ?_
        obtain ⟨hk0, hk⟩ := hk
        refine zz_callV (va_runV (As := [.int x1]) (rest := [.int (f_Mo_deepOf (σ.1 16 x1.toNatClampNeg) σ)]) ⟨hx, hb, hml, hown, hg⟩ (c_Mo_stands l D ty h px sa σ x1 hk0) ⟨callB_of 1 hg (gw_C m_1535) rfl rfl rfl (hg _ m_13) (hg _ m_1532) hd_Mo_stands ⟨Nat.le_of_ble_eq_true rfl, Nat.le_of_ble_eq_true rfl⟩, hg _ m_1534, hg _ ms_67⟩ (zz_preV (hM.at hS) hN hK hP 0 rfl rfl) rfl rfl hl.1 rfl (lv_room (Nat.le_of_ble_eq_true rfl)) d_Mo_scope_31 ⟨Nat.le_of_ble_eq_true rfl, Nat.le_of_ble_eq_true rfl⟩) ?_
        refine lv_if_eq (tgt := 41) hx hb d_Mo_scope_34 (by decide) (fun hc => ?_) (fun hc => ?_)
        · have hv := hv.trans (if_pos hc)
          have hk := hk.1 hc
          refine lv_bipush (v := 100) hx hb d_Mo_scope_41 (by decide) ?_
          exact B43 _ _ _ 100 (f_Mo_deepOf (σ.1 16 x1.toNatClampNeg) σ) σ hv hk (lv_sub hl [] rfl) hP hD hS
        · have hv := hv.trans (if_neg hc)
          have hk := hk.2 hc
          refine lv_iconst (v := 0) hx hb d_Mo_scope_37 (by decide) ?_
          refine lv_goto (tgt := 43) hx hb d_Mo_scope_38 (by decide) ?_
          exact B43 _ _ _ 0 (f_Mo_deepOf (σ.1 16 x1.toNatClampNeg) σ) σ hv hk (lv_sub hl [] rfl) hP hD hS
      · have hv := hv.trans (if_neg hc)
        have hk := hk.2 hc
        exact B17 _ _ _  σ hv hk (lv_sub hl [] rfl) hP hD hS
  unfold f_Mo_scope at hv
  unfold k_Mo_scope at hk
  refine lv_aload_n hx hb d_Mo_scope_0 rfl (lv_at hl 0 rfl) ?_
  refine lv_iconst (v := 0) hx hb d_Mo_scope_1 (by decide) ?_
  refine va_put (v := .int 0) (ty := .int) (C := R_Mo) (T := T_Mo) (N := 51) hx hb hg in_Mo ty_Mo ok_Mo nm_Mo hown hK hP hD hS 0 rfl rfl 0 (by decide) (hg _ m_1259) (fun _ h9 => h9) rfl (by decide +kernel) rfl rfl (Nat.le_of_ble_eq_true rfl) d_Mo_scope_2 (fun H locs hP hD hS => ?_)
  have hP : va_P D classes (Wm ty h (sF σ 0 0 0) px) H := hP
  have hD : va_D A (Wm ty h (sF σ 0 0 0) px) := hD
  exact B5 _ _ _ a1 (sF σ 0 0 0) hv hk (lv_sub hl [0, 1] rfl) hP hD hS

-- ClauseLedgerModel.empty()I
abbrev b_Mo_empty : ByteArray := prog_14_method_60_code
def y_Mo_empty : MethodName := ⟨"ClauseLedgerModel", "empty", "()I"⟩
theorem hd_Mo_empty : y_Mo_empty.cls ≠ "java/lang/invoke/MethodHandle" ∧ y_Mo_empty.cls ≠ "java/lang/invoke/VarHandle" ∧ (parseMethodDescriptor y_Mo_empty.desc).map (fun d => d.parameters.length) = some 0 := by decide +kernel
theorem d_Mo_empty_0 : decode b_Mo_empty 0 = .ok (.aload_n 0, 1) := by decide +kernel
theorem d_Mo_empty_1 : decode b_Mo_empty 1 = .ok (.iconst 0, 1) := by decide +kernel
theorem d_Mo_empty_2 : decode b_Mo_empty 2 = .ok (.putfield 103, 3) := by decide +kernel
theorem d_Mo_empty_5 : decode b_Mo_empty 5 = .ok (.iconst 0, 1) := by decide +kernel
theorem d_Mo_empty_6 : decode b_Mo_empty 6 = .ok (.istore_n 1, 1) := by decide +kernel
theorem d_Mo_empty_7 : decode b_Mo_empty 7 = .ok (.iload_n 1, 1) := by decide +kernel
theorem d_Mo_empty_8 : decode b_Mo_empty 8 = .ok (.aload_n 0, 1) := by decide +kernel
theorem d_Mo_empty_9 : decode b_Mo_empty 9 = .ok (.getfield 137, 3) := by decide +kernel
theorem d_Mo_empty_12 : decode b_Mo_empty 12 = .ok (.if_icmp .ge 27, 3) := by decide +kernel
theorem d_Mo_empty_15 : decode b_Mo_empty 15 = .ok (.aload_n 0, 1) := by decide +kernel
theorem d_Mo_empty_16 : decode b_Mo_empty 16 = .ok (.getfield 53, 3) := by decide +kernel
theorem d_Mo_empty_19 : decode b_Mo_empty 19 = .ok (.iload_n 1, 1) := by decide +kernel
theorem d_Mo_empty_20 : decode b_Mo_empty 20 = .ok (.iaload, 1) := by decide +kernel
theorem d_Mo_empty_21 : decode b_Mo_empty 21 = .ok (.ifCond .gt 12, 3) := by decide +kernel
theorem d_Mo_empty_24 : decode b_Mo_empty 24 = .ok (.aload_n 0, 1) := by decide +kernel
theorem d_Mo_empty_25 : decode b_Mo_empty 25 = .ok (.getfield 59, 3) := by decide +kernel
theorem d_Mo_empty_28 : decode b_Mo_empty 28 = .ok (.iload_n 1, 1) := by decide +kernel
theorem d_Mo_empty_29 : decode b_Mo_empty 29 = .ok (.iaload, 1) := by decide +kernel
theorem d_Mo_empty_30 : decode b_Mo_empty 30 = .ok (.ifCond .le 9, 3) := by decide +kernel
theorem d_Mo_empty_33 : decode b_Mo_empty 33 = .ok (.iinc 1 1, 3) := by decide +kernel
theorem d_Mo_empty_36 : decode b_Mo_empty 36 = .ok (.goto (-29), 3) := by decide +kernel
theorem d_Mo_empty_39 : decode b_Mo_empty 39 = .ok (.iload_n 1, 1) := by decide +kernel
theorem d_Mo_empty_40 : decode b_Mo_empty 40 = .ok (.aload_n 0, 1) := by decide +kernel
theorem d_Mo_empty_41 : decode b_Mo_empty 41 = .ok (.getfield 137, 3) := by decide +kernel
theorem d_Mo_empty_44 : decode b_Mo_empty 44 = .ok (.if_icmp .ge 7, 3) := by decide +kernel
theorem d_Mo_empty_47 : decode b_Mo_empty 47 = .ok (.iload_n 1, 1) := by decide +kernel
theorem d_Mo_empty_48 : decode b_Mo_empty 48 = .ok (.goto 4, 3) := by decide +kernel
theorem d_Mo_empty_51 : decode b_Mo_empty 51 = .ok (.iconst (-1), 1) := by decide +kernel
theorem d_Mo_empty_52 : decode b_Mo_empty 52 = .ok (.ireturn, 1) := by decide +kernel
def f_Mo_empty_33 (F7 : (Int32 → St → Int32 × St)) (x1 : Int32) (σ : St) : Int32 × St := F7 (x1 + 1) σ
def k_Mo_empty_33 (K7 : (Int32 → St → Prop)) (x1 : Int32) (σ : St) : Prop := K7 (x1 + 1) σ
def f_Mo_empty_52 (s0 : Int32) (σ : St) : Int32 × St := (s0, σ)
def k_Mo_empty_52 (s0 : Int32) (σ : St) : Prop := True
def f_Mo_empty_39 (x1 : Int32) (σ : St) : Int32 × St := if (σ.1 0 19) ≤ x1 then (f_Mo_empty_52 (-1) σ) else (f_Mo_empty_52 x1 σ)
def k_Mo_empty_39 (x1 : Int32) (σ : St) : Prop := ((σ.1 0 19) ≤ x1 → (k_Mo_empty_52 (-1) σ)) ∧ (¬ (σ.1 0 19) ≤ x1 → (k_Mo_empty_52 x1 σ))
def f_Mo_empty_7 : Nat → Int32 → St → Int32 × St
  | 0, _, σ => (0, σ)
  | n + 1, x1, σ => if (σ.1 0 19) ≤ x1 then (f_Mo_empty_39 x1 σ) else (if 0 < (σ.1 14 x1.toNatClampNeg) then (f_Mo_empty_33 (f_Mo_empty_7 n) x1 σ) else (if (σ.1 16 x1.toNatClampNeg) ≤ 0 then (f_Mo_empty_39 x1 σ) else (f_Mo_empty_33 (f_Mo_empty_7 n) x1 σ)))
def k_Mo_empty_7 : Nat → Int32 → St → Prop
  | 0, _, _ => False
  | n + 1, x1, σ => ((σ.1 0 19) ≤ x1 → (k_Mo_empty_39 x1 σ)) ∧ (¬ (σ.1 0 19) ≤ x1 → (vp_in x1 60 ∧ ((0 < (σ.1 14 x1.toNatClampNeg) → (k_Mo_empty_33 (k_Mo_empty_7 n) x1 σ)) ∧ (¬ 0 < (σ.1 14 x1.toNatClampNeg) → (vp_in x1 60 ∧ (((σ.1 16 x1.toNatClampNeg) ≤ 0 → (k_Mo_empty_39 x1 σ)) ∧ (¬ (σ.1 16 x1.toNatClampNeg) ≤ 0 → (k_Mo_empty_33 (k_Mo_empty_7 n) x1 σ))))))))
def f_Mo_empty_5 (σ : St) : Int32 × St := f_Mo_empty_7 1000 0 σ
def k_Mo_empty_5 (σ : St) : Prop := k_Mo_empty_7 1000 0 σ
def f_Mo_empty (σ : St) : Int32 × St := f_Mo_empty_5 (sF σ 0 0 0)
def k_Mo_empty (σ : St) : Prop := k_Mo_empty_5 (sF σ 0 0 0)
abbrev w_Mo_empty : List Cond := Cond.code y_Mo_empty b_Mo_empty 2 (some .int) :: gw
abbrev rm_Mo_empty : Room := { frames := 0, cells := 0, slots := 0, locals := 0 }
set_option maxHeartbeats 4000000 in
set_option maxRecDepth 100000 in
theorem c_Mo_empty (l : Launch) (D : va_G) (ty : Nat → ClassId) (h : Nat → Nat) (px : va_W) (sa : Nat → Nat) (σ : St) (sz : Nat) (hk : k_Mo_empty σ) : Met l y_Mo_empty w_Mo_empty rm_Mo_empty (va_Pc [.ref (h 0)] (fun U => U.heap.size = sz ∧ va_P D classes (Wm ty h σ px) U.heap ∧ va_K D classes (Ta ty) U ∧ NW U ∧ MK sa (va_A (Wm ty h σ px) sz) U U.heap ∧ va_D (fun _ => True) (Wm ty h σ px))) (va_Qi (fun r (u : St) => (r, u) = f_Mo_empty σ) (fun u t => va_P D classes (Wm ty h u px) t.heap) (va_A (Wm ty h σ px) sz)) 0 0 (va_A (Wm ty h σ px) sz) := by
  refine Met.ofW (cc := b_Mo_empty) (maxL := 2) (ret := (some .int)) (by decide) rfl ?_
  intro p e s m args below meth c s₁ B hml hv
  obtain ⟨ha, hsz, hP, hK, hN, hM, hD0⟩ := hv
  have hx := B.exec
  have hb := B.bytes
  have hr := B.returns
  have hg : ∀ w ∈ gw, w.before args s = true := fun w h9 => atoms_spec (ws := w_Mo_empty) B.pre w (List.mem_cons_of_mem _ h9)
  have hown : s.vm.findClass "ClauseLedgerModel" = some m.cls := findClass_of_methodNamed B.named
  have hlocks := B.notSynchronized
  subst hsz
  have hD := hD0.self (sz := s.heap.size)
  generalize hAe : va_A (Wm ty h σ px) s.heap.size = A at hD hM ⊢
  have hA : ∀ q : Nat, s.heap.size ≤ q → A q := fun q h9 => by rw [← hAe]; exact Or.inr h9
  have hS : va_S A s.heap s.heap [] := va_S.rf
  have he : entryFrame m args 2 = entryFrame m ([.ref (h 0)] : List Value).toArray 2 := by rw [ha]
  rw [he, lg_entry_eq]
  have hl := lv_entry ([.ref (h 0)]) (n := 2) (Nat.le_of_ble_eq_true rfl)
  generalize (lg_sl ([.ref (h 0)]) ++ List.replicate (2 - (lg_sl ([.ref (h 0)])).length) Slot.unset).toArray = ls at hl ⊢
  have hl : lv_has ls 2 [(0, .ref (h 0))] := hl
  generalize hv : f_Mo_empty σ = v
  replace hv := hv.symm
  have B52 : ∀ (H : Heap) (locs : List Loc) (ls : Array Slot) (s0 : Int32) (σ : St), v = f_Mo_empty_52 s0 σ → k_Mo_empty_52 s0 σ → lv_has ls 2 [] → va_P D classes (Wm ty h σ px) H → va_D A (Wm ty h σ px) → va_S A s.heap H locs → W p l e (headSpec w_Mo_empty rm_Mo_empty).room s m args below meth c H locs 0 0 (MQ below (va_Qi (fun r (u : St) => (r, u) = v) (fun u t => va_P D classes (Wm ty h u px) t.heap) A) args s 0 0 A) (F0 m 52 ls [.int s0]) := by
    intro H locs ls s0 σ hv hk hl hP hD hS
    unfold f_Mo_empty_52 at hv
    unfold k_Mo_empty_52 at hk
    exact W.iret hx hb hr (fun t ht hW => ⟨⟨_, _, rfl, hv.symm, by dsimp only; rw [ht]; exact hP⟩, hS.F ht⟩) hS.2.2 d_Mo_empty_52
  have B39 : ∀ (H : Heap) (locs : List Loc) (ls : Array Slot) (x1 : Int32) (σ : St), v = f_Mo_empty_39 x1 σ → k_Mo_empty_39 x1 σ → lv_has ls 2 [(0, .ref (h 0)), (1, .int x1)] → va_P D classes (Wm ty h σ px) H → va_D A (Wm ty h σ px) → va_S A s.heap H locs → W p l e (headSpec w_Mo_empty rm_Mo_empty).room s m args below meth c H locs 0 0 (MQ below (va_Qi (fun r (u : St) => (r, u) = v) (fun u t => va_P D classes (Wm ty h u px) t.heap) A) args s 0 0 A) (F0 m 39 ls []) := by
    intro H locs ls x1 σ hv hk hl hP hD hS
    unfold f_Mo_empty_39 at hv
    unfold k_Mo_empty_39 at hk
    refine lv_iload_n hx hb d_Mo_empty_39 rfl (lv_at hl 1 rfl) ?_
    refine lv_aload_n hx hb d_Mo_empty_40 rfl (lv_at hl 0 rfl) ?_
    refine va_get (v := .int (σ.1 0 19)) (C := R_Mo) (T := T_Mo) (N := 51) hx hb hg in_Mo hown hK hP 0 rfl rfl 19 (by decide) (hg _ m_1278) (fun _ h9 => h9) rfl d_Mo_empty_41 ?_
    refine lv_icmp_ge (tgt := 51) hx hb d_Mo_empty_44 (by decide) (fun hc => ?_) (fun hc => ?_)
    · have hv := hv.trans (if_pos hc)
      have hk := hk.1 hc
      refine lv_iconst (v := -1) hx hb d_Mo_empty_51 (by decide) ?_
      exact B52 _ _ _ (-1) σ hv hk (lv_sub hl [] rfl) hP hD hS
    · have hv := hv.trans (if_neg hc)
      have hk := hk.2 hc
      refine lv_iload_n hx hb d_Mo_empty_47 rfl (lv_at hl 1 rfl) ?_
      refine lv_goto (tgt := 52) hx hb d_Mo_empty_48 (by decide) ?_
      exact B52 _ _ _ x1 σ hv hk (lv_sub hl [] rfl) hP hD hS
  have B7 : ∀ (n7 : Nat) (H : Heap) (locs : List Loc) (ls : Array Slot) (x1 : Int32) (σ : St), v = f_Mo_empty_7 n7 x1 σ → k_Mo_empty_7 n7 x1 σ → lv_has ls 2 [(0, .ref (h 0)), (1, .int x1)] → va_P D classes (Wm ty h σ px) H → va_D A (Wm ty h σ px) → va_S A s.heap H locs → W p l e (headSpec w_Mo_empty rm_Mo_empty).room s m args below meth c H locs 0 0 (MQ below (va_Qi (fun r (u : St) => (r, u) = v) (fun u t => va_P D classes (Wm ty h u px) t.heap) A) args s 0 0 A) (F0 m 7 ls []) := by
    intro n7
    induction n7 with
    | zero => intro H locs ls x1 σ hv hk hl hP hD hS; exact hk.elim
    | succ n7 ih7 =>
      have B33 : ∀ (H : Heap) (locs : List Loc) (ls : Array Slot) (x1 : Int32) (σ : St), v = f_Mo_empty_33 (f_Mo_empty_7 n7) x1 σ → k_Mo_empty_33 (k_Mo_empty_7 n7) x1 σ → lv_has ls 2 [(0, .ref (h 0)), (1, .int x1)] → va_P D classes (Wm ty h σ px) H → va_D A (Wm ty h σ px) → va_S A s.heap H locs → W p l e (headSpec w_Mo_empty rm_Mo_empty).room s m args below meth c H locs 0 0 (MQ below (va_Qi (fun r (u : St) => (r, u) = v) (fun u t => va_P D classes (Wm ty h u px) t.heap) A) args s 0 0 A) (F0 m 33 ls []) := by
        intro H locs ls x1 σ hv hk hl hP hD hS
        unfold f_Mo_empty_33 at hv
        unfold k_Mo_empty_33 at hk
        refine lv_iinc (k := 1) (v := x1 + 1) (lv' := [(1, .int (x1 + 1)), (0, .ref (h 0))]) hx hb d_Mo_empty_33 hl rfl (by first | rfl | simp [lit1, litm1]) (by decide) rfl (fun ls hl => ?_)
        refine lv_goto (tgt := 7) hx hb d_Mo_empty_36 (by decide) ?_
        exact ih7 _ _ _ (x1 + 1) σ hv hk (lv_sub hl [1, 0] rfl) hP hD hS
      intro H locs ls x1 σ hv hk hl hP hD hS
      rw [f_Mo_empty_7] at hv
      rw [k_Mo_empty_7] at hk
      refine lv_iload_n hx hb d_Mo_empty_7 rfl (lv_at hl 1 rfl) ?_
      refine lv_aload_n hx hb d_Mo_empty_8 rfl (lv_at hl 0 rfl) ?_
      refine va_get (v := .int (σ.1 0 19)) (C := R_Mo) (T := T_Mo) (N := 51) hx hb hg in_Mo hown hK hP 0 rfl rfl 19 (by decide) (hg _ m_1278) (fun _ h9 => h9) rfl d_Mo_empty_9 ?_
      refine lv_icmp_ge (tgt := 39) hx hb d_Mo_empty_12 (by decide) (fun hc => ?_) (fun hc => ?_)
      · have hv := hv.trans (if_pos hc)
        have hk := hk.1 hc
        exact B39 _ _ _ x1 σ hv hk (lv_sub hl [0, 1] rfl) hP hD hS
      · have hv := hv.trans (if_neg hc)
        have hk := hk.2 hc
        refine lv_aload_n hx hb d_Mo_empty_15 rfl (lv_at hl 0 rfl) ?_
        refine va_get (v := .ref (h 14)) (C := R_Mo) (T := T_Mo) (N := 51) hx hb hg in_Mo hown hK hP 0 rfl rfl 20 (by decide) (hg _ m_1279) (fun _ h9 => h9) rfl d_Mo_empty_16 ?_
        refine lv_iload_n hx hb d_Mo_empty_19 rfl (lv_at hl 1 rfl) ?_
        obtain ⟨hk0, hk⟩ := hk
        refine va_iald hx hb hK hP 14 0 rfl rfl hk0 d_Mo_empty_20 ?_
        refine lv_if_gt (tgt := 33) hx hb d_Mo_empty_21 (by decide) (fun hc => ?_) (fun hc => ?_)
        · have hv := hv.trans (if_pos hc)
          have hk := hk.1 hc
          exact B33 _ _ _ x1 σ hv hk (lv_sub hl [0, 1] rfl) hP hD hS
        · have hv := hv.trans (if_neg hc)
          have hk := hk.2 hc
          refine lv_aload_n hx hb d_Mo_empty_24 rfl (lv_at hl 0 rfl) ?_
          refine va_get (v := .ref (h 16)) (C := R_Mo) (T := T_Mo) (N := 51) hx hb hg in_Mo hown hK hP 0 rfl rfl 22 (by decide) (hg _ m_1281) (fun _ h9 => h9) rfl d_Mo_empty_25 ?_
          refine lv_iload_n hx hb d_Mo_empty_28 rfl (lv_at hl 1 rfl) ?_
          obtain ⟨hk0, hk⟩ := hk
          refine va_iald hx hb hK hP 16 0 rfl rfl hk0 d_Mo_empty_29 ?_
          refine lv_if_le (tgt := 39) hx hb d_Mo_empty_30 (by decide) (fun hc => ?_) (fun hc => ?_)
          · have hv := hv.trans (if_pos hc)
            have hk := hk.1 hc
            exact B39 _ _ _ x1 σ hv hk (lv_sub hl [0, 1] rfl) hP hD hS
          · have hv := hv.trans (if_neg hc)
            have hk := hk.2 hc
            exact B33 _ _ _ x1 σ hv hk (lv_sub hl [0, 1] rfl) hP hD hS
  have B5 : ∀ (H : Heap) (locs : List Loc) (ls : Array Slot) (σ : St), v = f_Mo_empty_5 σ → k_Mo_empty_5 σ → lv_has ls 2 [(0, .ref (h 0))] → va_P D classes (Wm ty h σ px) H → va_D A (Wm ty h σ px) → va_S A s.heap H locs → W p l e (headSpec w_Mo_empty rm_Mo_empty).room s m args below meth c H locs 0 0 (MQ below (va_Qi (fun r (u : St) => (r, u) = v) (fun u t => va_P D classes (Wm ty h u px) t.heap) A) args s 0 0 A) (F0 m 5 ls []) := by
    intro H locs ls σ hv hk hl hP hD hS
    unfold f_Mo_empty_5 at hv
    unfold k_Mo_empty_5 at hk
    refine lv_iconst (v := 0) hx hb d_Mo_empty_5 (by decide) ?_
    refine lv_istore_n (lv' := [(1, .int 0), (0, .ref (h 0))]) hx hb d_Mo_empty_6 rfl hl (by decide) rfl (fun ls hl => ?_)
    exact B7 1000 _ _ _ 0 σ hv hk (lv_sub hl [1, 0] rfl) hP hD hS
  unfold f_Mo_empty at hv
  unfold k_Mo_empty at hk
  refine lv_aload_n hx hb d_Mo_empty_0 rfl (lv_at hl 0 rfl) ?_
  refine lv_iconst (v := 0) hx hb d_Mo_empty_1 (by decide) ?_
  refine va_put (v := .int 0) (ty := .int) (C := R_Mo) (T := T_Mo) (N := 51) hx hb hg in_Mo ty_Mo ok_Mo nm_Mo hown hK hP hD hS 0 rfl rfl 0 (by decide) (hg _ m_1259) (fun _ h9 => h9) rfl (by decide +kernel) rfl rfl (Nat.le_of_ble_eq_true rfl) d_Mo_empty_2 (fun H locs hP hD hS => ?_)
  have hP : va_P D classes (Wm ty h (sF σ 0 0 0) px) H := hP
  have hD : va_D A (Wm ty h (sF σ 0 0 0) px) := hD
  exact B5 _ _ _  (sF σ 0 0 0) hv hk (lv_sub hl [0] rfl) hP hD hS

-- ClauseLedgerModel.look(II)I
abbrev b_Mo_look : ByteArray := prog_14_method_61_code
def y_Mo_look : MethodName := ⟨"ClauseLedgerModel", "look", "(II)I"⟩
theorem hd_Mo_look : y_Mo_look.cls ≠ "java/lang/invoke/MethodHandle" ∧ y_Mo_look.cls ≠ "java/lang/invoke/VarHandle" ∧ (parseMethodDescriptor y_Mo_look.desc).map (fun d => d.parameters.length) = some 2 := by decide +kernel
theorem d_Mo_look_0 : decode b_Mo_look 0 = .ok (.aload_n 0, 1) := by decide +kernel
theorem d_Mo_look_1 : decode b_Mo_look 1 = .ok (.iconst 0, 1) := by decide +kernel
theorem d_Mo_look_2 : decode b_Mo_look 2 = .ok (.putfield 103, 3) := by decide +kernel
theorem d_Mo_look_5 : decode b_Mo_look 5 = .ok (.iload_n 1, 1) := by decide +kernel
theorem d_Mo_look_6 : decode b_Mo_look 6 = .ok (.iconst (-1), 1) := by decide +kernel
theorem d_Mo_look_7 : decode b_Mo_look 7 = .ok (.if_icmp .ne 41, 3) := by decide +kernel
theorem d_Mo_look_10 : decode b_Mo_look 10 = .ok (.iload_n 2, 1) := by decide +kernel
theorem d_Mo_look_11 : decode b_Mo_look 11 = .ok (.ifCond .ne 10, 3) := by decide +kernel
theorem d_Mo_look_14 : decode b_Mo_look 14 = .ok (.aload_n 0, 1) := by decide +kernel
theorem d_Mo_look_15 : decode b_Mo_look 15 = .ok (.getfield 109, 3) := by decide +kernel
theorem d_Mo_look_18 : decode b_Mo_look 18 = .ok (.goto 29, 3) := by decide +kernel
theorem d_Mo_look_21 : decode b_Mo_look 21 = .ok (.iload_n 2, 1) := by decide +kernel
theorem d_Mo_look_22 : decode b_Mo_look 22 = .ok (.iconst 1, 1) := by decide +kernel
theorem d_Mo_look_23 : decode b_Mo_look 23 = .ok (.if_icmp .ne 10, 3) := by decide +kernel
theorem d_Mo_look_26 : decode b_Mo_look 26 = .ok (.aload_n 0, 1) := by decide +kernel
theorem d_Mo_look_27 : decode b_Mo_look 27 = .ok (.getfield 137, 3) := by decide +kernel
theorem d_Mo_look_30 : decode b_Mo_look 30 = .ok (.goto 17, 3) := by decide +kernel
theorem d_Mo_look_33 : decode b_Mo_look 33 = .ok (.iload_n 2, 1) := by decide +kernel
theorem d_Mo_look_34 : decode b_Mo_look 34 = .ok (.iconst 2, 1) := by decide +kernel
theorem d_Mo_look_35 : decode b_Mo_look 35 = .ok (.if_icmp .ne 10, 3) := by decide +kernel
theorem d_Mo_look_38 : decode b_Mo_look 38 = .ok (.aload_n 0, 1) := by decide +kernel
theorem d_Mo_look_39 : decode b_Mo_look 39 = .ok (.getfield 126, 3) := by decide +kernel
theorem d_Mo_look_42 : decode b_Mo_look 42 = .ok (.goto 5, 3) := by decide +kernel
theorem d_Mo_look_45 : decode b_Mo_look 45 = .ok (.bipush (-2), 2) := by decide +kernel
theorem d_Mo_look_47 : decode b_Mo_look 47 = .ok (.ireturn, 1) := by decide +kernel
theorem d_Mo_look_48 : decode b_Mo_look 48 = .ok (.iload_n 1, 1) := by decide +kernel
theorem d_Mo_look_49 : decode b_Mo_look 49 = .ok (.ifCond .lt 11, 3) := by decide +kernel
theorem d_Mo_look_52 : decode b_Mo_look 52 = .ok (.iload_n 1, 1) := by decide +kernel
theorem d_Mo_look_53 : decode b_Mo_look 53 = .ok (.aload_n 0, 1) := by decide +kernel
theorem d_Mo_look_54 : decode b_Mo_look 54 = .ok (.getfield 109, 3) := by decide +kernel
theorem d_Mo_look_57 : decode b_Mo_look 57 = .ok (.if_icmp .lt 6, 3) := by decide +kernel
theorem d_Mo_look_60 : decode b_Mo_look 60 = .ok (.bipush (-2), 2) := by decide +kernel
theorem d_Mo_look_62 : decode b_Mo_look 62 = .ok (.ireturn, 1) := by decide +kernel
theorem d_Mo_look_63 : decode b_Mo_look 63 = .ok (.iload_n 2, 1) := by decide +kernel
theorem d_Mo_look_64 : decode b_Mo_look 64 = .ok (.tableswitch 82 0 5 #[40, 47, 54, 61, 68, 75], 40) := by decide +kernel
theorem d_Mo_look_104 : decode b_Mo_look 104 = .ok (.aload_n 0, 1) := by decide +kernel
theorem d_Mo_look_105 : decode b_Mo_look 105 = .ok (.getfield 26, 3) := by decide +kernel
theorem d_Mo_look_108 : decode b_Mo_look 108 = .ok (.iload_n 1, 1) := by decide +kernel
theorem d_Mo_look_109 : decode b_Mo_look 109 = .ok (.iaload, 1) := by decide +kernel
theorem d_Mo_look_110 : decode b_Mo_look 110 = .ok (.ireturn, 1) := by decide +kernel
theorem d_Mo_look_111 : decode b_Mo_look 111 = .ok (.aload_n 0, 1) := by decide +kernel
theorem d_Mo_look_112 : decode b_Mo_look 112 = .ok (.getfield 29, 3) := by decide +kernel
theorem d_Mo_look_115 : decode b_Mo_look 115 = .ok (.iload_n 1, 1) := by decide +kernel
theorem d_Mo_look_116 : decode b_Mo_look 116 = .ok (.iaload, 1) := by decide +kernel
theorem d_Mo_look_117 : decode b_Mo_look 117 = .ok (.ireturn, 1) := by decide +kernel
theorem d_Mo_look_118 : decode b_Mo_look 118 = .ok (.aload_n 0, 1) := by decide +kernel
theorem d_Mo_look_119 : decode b_Mo_look 119 = .ok (.getfield 32, 3) := by decide +kernel
theorem d_Mo_look_122 : decode b_Mo_look 122 = .ok (.iload_n 1, 1) := by decide +kernel
theorem d_Mo_look_123 : decode b_Mo_look 123 = .ok (.iaload, 1) := by decide +kernel
theorem d_Mo_look_124 : decode b_Mo_look 124 = .ok (.ireturn, 1) := by decide +kernel
theorem d_Mo_look_125 : decode b_Mo_look 125 = .ok (.aload_n 0, 1) := by decide +kernel
theorem d_Mo_look_126 : decode b_Mo_look 126 = .ok (.getfield 35, 3) := by decide +kernel
theorem d_Mo_look_129 : decode b_Mo_look 129 = .ok (.iload_n 1, 1) := by decide +kernel
theorem d_Mo_look_130 : decode b_Mo_look 130 = .ok (.iaload, 1) := by decide +kernel
theorem d_Mo_look_131 : decode b_Mo_look 131 = .ok (.ireturn, 1) := by decide +kernel
theorem d_Mo_look_132 : decode b_Mo_look 132 = .ok (.aload_n 0, 1) := by decide +kernel
theorem d_Mo_look_133 : decode b_Mo_look 133 = .ok (.getfield 38, 3) := by decide +kernel
theorem d_Mo_look_136 : decode b_Mo_look 136 = .ok (.iload_n 1, 1) := by decide +kernel
theorem d_Mo_look_137 : decode b_Mo_look 137 = .ok (.iaload, 1) := by decide +kernel
theorem d_Mo_look_138 : decode b_Mo_look 138 = .ok (.ireturn, 1) := by decide +kernel
theorem d_Mo_look_139 : decode b_Mo_look 139 = .ok (.aload_n 0, 1) := by decide +kernel
theorem d_Mo_look_140 : decode b_Mo_look 140 = .ok (.getfield 41, 3) := by decide +kernel
theorem d_Mo_look_143 : decode b_Mo_look 143 = .ok (.iload_n 1, 1) := by decide +kernel
theorem d_Mo_look_144 : decode b_Mo_look 144 = .ok (.iaload, 1) := by decide +kernel
theorem d_Mo_look_145 : decode b_Mo_look 145 = .ok (.ireturn, 1) := by decide +kernel
theorem d_Mo_look_146 : decode b_Mo_look 146 = .ok (.bipush (-2), 2) := by decide +kernel
theorem d_Mo_look_148 : decode b_Mo_look 148 = .ok (.ireturn, 1) := by decide +kernel
def f_Mo_look_47 (s0 : Int32) (σ : St) : Int32 × St := (s0, σ)
def k_Mo_look_47 (s0 : Int32) (σ : St) : Prop := True
def f_Mo_look_60 (σ : St) : Int32 × St := ((-2), σ)
def k_Mo_look_60 (σ : St) : Prop := True
def f_Mo_look_5 (x1 : Int32) (x2 : Int32) (σ : St) : Int32 × St := if x1 = (-1) then (if x2 = 0 then (f_Mo_look_47 (σ.1 0 8) σ) else (if x2 = 1 then (f_Mo_look_47 (σ.1 0 19) σ) else (if x2 = 2 then (f_Mo_look_47 (σ.1 0 1) σ) else (f_Mo_look_47 (-2) σ)))) else (if x1 < 0 then (f_Mo_look_60 σ) else (if x1 < (σ.1 0 8) then (if x2 = 0 then (σ.1 5 x1.toNatClampNeg, σ) else (if x2 = 1 then (σ.1 6 x1.toNatClampNeg, σ) else (if x2 = 2 then (σ.1 7 x1.toNatClampNeg, σ) else (if x2 = 3 then (σ.1 8 x1.toNatClampNeg, σ) else (if x2 = 4 then (σ.1 9 x1.toNatClampNeg, σ) else (if x2 = 5 then (σ.1 10 x1.toNatClampNeg, σ) else ((-2), σ))))))) else (f_Mo_look_60 σ)))
def k_Mo_look_5 (x1 : Int32) (x2 : Int32) (σ : St) : Prop := (x1 = (-1) → ((x2 = 0 → (k_Mo_look_47 (σ.1 0 8) σ)) ∧ (¬ x2 = 0 → ((x2 = 1 → (k_Mo_look_47 (σ.1 0 19) σ)) ∧ (¬ x2 = 1 → ((x2 = 2 → (k_Mo_look_47 (σ.1 0 1) σ)) ∧ (¬ x2 = 2 → (k_Mo_look_47 (-2) σ)))))))) ∧ (¬ x1 = (-1) → ((x1 < 0 → (k_Mo_look_60 σ)) ∧ (¬ x1 < 0 → ((x1 < (σ.1 0 8) → ((x2 = 0 → (vp_in x1 400 ∧ True)) ∧ (¬ x2 = 0 → ((x2 = 1 → (vp_in x1 400 ∧ True)) ∧ (¬ x2 = 1 → ((x2 = 2 → (vp_in x1 400 ∧ True)) ∧ (¬ x2 = 2 → ((x2 = 3 → (vp_in x1 400 ∧ True)) ∧ (¬ x2 = 3 → ((x2 = 4 → (vp_in x1 400 ∧ True)) ∧ (¬ x2 = 4 → ((x2 = 5 → (vp_in x1 400 ∧ True)) ∧ (¬ x2 = 5 → True))))))))))))) ∧ (¬ x1 < (σ.1 0 8) → (k_Mo_look_60 σ))))))
def f_Mo_look (a1 : Int32) (a2 : Int32) (σ : St) : Int32 × St := f_Mo_look_5 a1 a2 (sF σ 0 0 0)
def k_Mo_look (a1 : Int32) (a2 : Int32) (σ : St) : Prop := k_Mo_look_5 a1 a2 (sF σ 0 0 0)
abbrev w_Mo_look : List Cond := Cond.code y_Mo_look b_Mo_look 3 (some .int) :: gw
abbrev rm_Mo_look : Room := { frames := 0, cells := 0, slots := 0, locals := 0 }
set_option maxHeartbeats 4000000 in
set_option maxRecDepth 100000 in
theorem c_Mo_look (l : Launch) (D : va_G) (ty : Nat → ClassId) (h : Nat → Nat) (px : va_W) (sa : Nat → Nat) (σ : St) (sz : Nat) (a1 : Int32) (a2 : Int32) (hk : k_Mo_look a1 a2 σ) : Met l y_Mo_look w_Mo_look rm_Mo_look (va_Pc [.ref (h 0), .int a1, .int a2] (fun U => U.heap.size = sz ∧ va_P D classes (Wm ty h σ px) U.heap ∧ va_K D classes (Ta ty) U ∧ NW U ∧ MK sa (va_A (Wm ty h σ px) sz) U U.heap ∧ va_D (fun _ => True) (Wm ty h σ px))) (va_Qi (fun r (u : St) => (r, u) = f_Mo_look a1 a2 σ) (fun u t => va_P D classes (Wm ty h u px) t.heap) (va_A (Wm ty h σ px) sz)) 0 0 (va_A (Wm ty h σ px) sz) := by
  refine Met.ofW (cc := b_Mo_look) (maxL := 3) (ret := (some .int)) (by decide) rfl ?_
  intro p e s m args below meth c s₁ B hml hv
  obtain ⟨ha, hsz, hP, hK, hN, hM, hD0⟩ := hv
  have hx := B.exec
  have hb := B.bytes
  have hr := B.returns
  have hg : ∀ w ∈ gw, w.before args s = true := fun w h9 => atoms_spec (ws := w_Mo_look) B.pre w (List.mem_cons_of_mem _ h9)
  have hown : s.vm.findClass "ClauseLedgerModel" = some m.cls := findClass_of_methodNamed B.named
  have hlocks := B.notSynchronized
  subst hsz
  have hD := hD0.self (sz := s.heap.size)
  generalize hAe : va_A (Wm ty h σ px) s.heap.size = A at hD hM ⊢
  have hA : ∀ q : Nat, s.heap.size ≤ q → A q := fun q h9 => by rw [← hAe]; exact Or.inr h9
  have hS : va_S A s.heap s.heap [] := va_S.rf
  have he : entryFrame m args 3 = entryFrame m ([.ref (h 0), .int a1, .int a2] : List Value).toArray 3 := by rw [ha]
  rw [he, lg_entry_eq]
  have hl := lv_entry ([.ref (h 0), .int a1, .int a2]) (n := 3) (Nat.le_of_ble_eq_true rfl)
  generalize (lg_sl ([.ref (h 0), .int a1, .int a2]) ++ List.replicate (3 - (lg_sl ([.ref (h 0), .int a1, .int a2])).length) Slot.unset).toArray = ls at hl ⊢
  have hl : lv_has ls 3 [(0, .ref (h 0)), (1, .int a1), (2, .int a2)] := hl
  generalize hv : f_Mo_look a1 a2 σ = v
  replace hv := hv.symm
  have B47 : ∀ (H : Heap) (locs : List Loc) (ls : Array Slot) (s0 : Int32) (σ : St), v = f_Mo_look_47 s0 σ → k_Mo_look_47 s0 σ → lv_has ls 3 [] → va_P D classes (Wm ty h σ px) H → va_D A (Wm ty h σ px) → va_S A s.heap H locs → W p l e (headSpec w_Mo_look rm_Mo_look).room s m args below meth c H locs 0 0 (MQ below (va_Qi (fun r (u : St) => (r, u) = v) (fun u t => va_P D classes (Wm ty h u px) t.heap) A) args s 0 0 A) (F0 m 47 ls [.int s0]) := by
    intro H locs ls s0 σ hv hk hl hP hD hS
    unfold f_Mo_look_47 at hv
    unfold k_Mo_look_47 at hk
    exact W.iret hx hb hr (fun t ht hW => ⟨⟨_, _, rfl, hv.symm, by dsimp only; rw [ht]; exact hP⟩, hS.F ht⟩) hS.2.2 d_Mo_look_47
  have B60 : ∀ (H : Heap) (locs : List Loc) (ls : Array Slot) (σ : St), v = f_Mo_look_60 σ → k_Mo_look_60 σ → lv_has ls 3 [] → va_P D classes (Wm ty h σ px) H → va_D A (Wm ty h σ px) → va_S A s.heap H locs → W p l e (headSpec w_Mo_look rm_Mo_look).room s m args below meth c H locs 0 0 (MQ below (va_Qi (fun r (u : St) => (r, u) = v) (fun u t => va_P D classes (Wm ty h u px) t.heap) A) args s 0 0 A) (F0 m 60 ls []) := by
    intro H locs ls σ hv hk hl hP hD hS
    unfold f_Mo_look_60 at hv
    unfold k_Mo_look_60 at hk
    refine lv_bipush (v := -2) hx hb d_Mo_look_60 (by decide) ?_
    exact W.iret hx hb hr (fun t ht hW => ⟨⟨_, _, rfl, hv.symm, by dsimp only; rw [ht]; exact hP⟩, hS.F ht⟩) hS.2.2 d_Mo_look_62
  have B5 : ∀ (H : Heap) (locs : List Loc) (ls : Array Slot) (x1 : Int32) (x2 : Int32) (σ : St), v = f_Mo_look_5 x1 x2 σ → k_Mo_look_5 x1 x2 σ → lv_has ls 3 [(0, .ref (h 0)), (1, .int x1), (2, .int x2)] → va_P D classes (Wm ty h σ px) H → va_D A (Wm ty h σ px) → va_S A s.heap H locs → W p l e (headSpec w_Mo_look rm_Mo_look).room s m args below meth c H locs 0 0 (MQ below (va_Qi (fun r (u : St) => (r, u) = v) (fun u t => va_P D classes (Wm ty h u px) t.heap) A) args s 0 0 A) (F0 m 5 ls []) := by
    intro H locs ls x1 x2 σ hv hk hl hP hD hS
    unfold f_Mo_look_5 at hv
    unfold k_Mo_look_5 at hk
    refine lv_iload_n hx hb d_Mo_look_5 rfl (lv_at hl 1 rfl) ?_
    refine lv_iconst (v := -1) hx hb d_Mo_look_6 (by decide) ?_
    refine lv_icmp_ne (tgt := 48) hx hb d_Mo_look_7 (by decide) (fun hc => ?_) (fun hc => ?_)
    · have hv := hv.trans (if_neg hc)
      have hk := hk.2 hc
      refine lv_iload_n hx hb d_Mo_look_48 rfl (lv_at hl 1 rfl) ?_
      refine lv_if_lt (tgt := 60) hx hb d_Mo_look_49 (by decide) (fun hc => ?_) (fun hc => ?_)
      · have hv := hv.trans (if_pos hc)
        have hk := hk.1 hc
        exact B60 _ _ _  σ hv hk (lv_sub hl [] rfl) hP hD hS
      · have hv := hv.trans (if_neg hc)
        have hk := hk.2 hc
        refine lv_iload_n hx hb d_Mo_look_52 rfl (lv_at hl 1 rfl) ?_
        refine lv_aload_n hx hb d_Mo_look_53 rfl (lv_at hl 0 rfl) ?_
        refine va_get (v := .int (σ.1 0 8)) (C := R_Mo) (T := T_Mo) (N := 51) hx hb hg in_Mo hown hK hP 0 rfl rfl 8 (by decide) (hg _ m_1267) (fun _ h9 => h9) rfl d_Mo_look_54 ?_
        refine lv_icmp_lt (tgt := 63) hx hb d_Mo_look_57 (by decide) (fun hc => ?_) (fun hc => ?_)
        · have hv := hv.trans (if_pos hc)
          have hk := hk.1 hc
          refine lv_iload_n hx hb d_Mo_look_63 rfl (lv_at hl 2 rfl) ?_
          by_cases hc0 : x2 = 0
          · have hv := hv.trans (if_pos hc0)
            have hk := hk.1 hc0
            refine lv_tableIn (tgt := 104) hx hb d_Mo_look_64 (by rw [hc0]; decide) (by rw [hc0]; decide) (by rw [hc0]; rfl) (by decide) ?_
            refine lv_aload_n hx hb d_Mo_look_104 rfl (lv_at hl 0 rfl) ?_
            refine va_get (v := .ref (h 5)) (C := R_Mo) (T := T_Mo) (N := 51) hx hb hg in_Mo hown hK hP 0 rfl rfl 10 (by decide) (hg _ m_1269) (fun _ h9 => h9) rfl d_Mo_look_105 ?_
            refine lv_iload_n hx hb d_Mo_look_108 rfl (lv_at hl 1 rfl) ?_
            obtain ⟨hk0, hk⟩ := hk
            refine va_iald hx hb hK hP 5 0 rfl rfl hk0 d_Mo_look_109 ?_
            exact W.iret hx hb hr (fun t ht hW => ⟨⟨_, _, rfl, hv.symm, by dsimp only; rw [ht]; exact hP⟩, hS.F ht⟩) hS.2.2 d_Mo_look_110
          · have hv := hv.trans (if_neg hc0)
            have hk := hk.2 hc0
            by_cases hc1 : x2 = 1
            · have hv := hv.trans (if_pos hc1)
              have hk := hk.1 hc1
              refine lv_tableIn (tgt := 111) hx hb d_Mo_look_64 (by rw [hc1]; decide) (by rw [hc1]; decide) (by rw [hc1]; rfl) (by decide) ?_
              refine lv_aload_n hx hb d_Mo_look_111 rfl (lv_at hl 0 rfl) ?_
              refine va_get (v := .ref (h 6)) (C := R_Mo) (T := T_Mo) (N := 51) hx hb hg in_Mo hown hK hP 0 rfl rfl 11 (by decide) (hg _ m_1270) (fun _ h9 => h9) rfl d_Mo_look_112 ?_
              refine lv_iload_n hx hb d_Mo_look_115 rfl (lv_at hl 1 rfl) ?_
              obtain ⟨hk0, hk⟩ := hk
              refine va_iald hx hb hK hP 6 0 rfl rfl hk0 d_Mo_look_116 ?_
              exact W.iret hx hb hr (fun t ht hW => ⟨⟨_, _, rfl, hv.symm, by dsimp only; rw [ht]; exact hP⟩, hS.F ht⟩) hS.2.2 d_Mo_look_117
            · have hv := hv.trans (if_neg hc1)
              have hk := hk.2 hc1
              by_cases hc2 : x2 = 2
              · have hv := hv.trans (if_pos hc2)
                have hk := hk.1 hc2
                refine lv_tableIn (tgt := 118) hx hb d_Mo_look_64 (by rw [hc2]; decide) (by rw [hc2]; decide) (by rw [hc2]; rfl) (by decide) ?_
                refine lv_aload_n hx hb d_Mo_look_118 rfl (lv_at hl 0 rfl) ?_
                refine va_get (v := .ref (h 7)) (C := R_Mo) (T := T_Mo) (N := 51) hx hb hg in_Mo hown hK hP 0 rfl rfl 12 (by decide) (hg _ m_1271) (fun _ h9 => h9) rfl d_Mo_look_119 ?_
                refine lv_iload_n hx hb d_Mo_look_122 rfl (lv_at hl 1 rfl) ?_
                obtain ⟨hk0, hk⟩ := hk
                refine va_iald hx hb hK hP 7 0 rfl rfl hk0 d_Mo_look_123 ?_
                exact W.iret hx hb hr (fun t ht hW => ⟨⟨_, _, rfl, hv.symm, by dsimp only; rw [ht]; exact hP⟩, hS.F ht⟩) hS.2.2 d_Mo_look_124
              · have hv := hv.trans (if_neg hc2)
                have hk := hk.2 hc2
                by_cases hc3 : x2 = 3
                · have hv := hv.trans (if_pos hc3)
                  have hk := hk.1 hc3
                  refine lv_tableIn (tgt := 125) hx hb d_Mo_look_64 (by rw [hc3]; decide) (by rw [hc3]; decide) (by rw [hc3]; rfl) (by decide) ?_
                  refine lv_aload_n hx hb d_Mo_look_125 rfl (lv_at hl 0 rfl) ?_
                  refine va_get (v := .ref (h 8)) (C := R_Mo) (T := T_Mo) (N := 51) hx hb hg in_Mo hown hK hP 0 rfl rfl 13 (by decide) (hg _ m_1272) (fun _ h9 => h9) rfl d_Mo_look_126 ?_
                  refine lv_iload_n hx hb d_Mo_look_129 rfl (lv_at hl 1 rfl) ?_
                  obtain ⟨hk0, hk⟩ := hk
                  refine va_iald hx hb hK hP 8 0 rfl rfl hk0 d_Mo_look_130 ?_
                  exact W.iret hx hb hr (fun t ht hW => ⟨⟨_, _, rfl, hv.symm, by dsimp only; rw [ht]; exact hP⟩, hS.F ht⟩) hS.2.2 d_Mo_look_131
                · have hv := hv.trans (if_neg hc3)
                  have hk := hk.2 hc3
                  by_cases hc4 : x2 = 4
                  · have hv := hv.trans (if_pos hc4)
                    have hk := hk.1 hc4
                    refine lv_tableIn (tgt := 132) hx hb d_Mo_look_64 (by rw [hc4]; decide) (by rw [hc4]; decide) (by rw [hc4]; rfl) (by decide) ?_
                    refine lv_aload_n hx hb d_Mo_look_132 rfl (lv_at hl 0 rfl) ?_
                    refine va_get (v := .ref (h 9)) (C := R_Mo) (T := T_Mo) (N := 51) hx hb hg in_Mo hown hK hP 0 rfl rfl 14 (by decide) (hg _ m_1273) (fun _ h9 => h9) rfl d_Mo_look_133 ?_
                    refine lv_iload_n hx hb d_Mo_look_136 rfl (lv_at hl 1 rfl) ?_
                    obtain ⟨hk0, hk⟩ := hk
                    refine va_iald hx hb hK hP 9 0 rfl rfl hk0 d_Mo_look_137 ?_
                    exact W.iret hx hb hr (fun t ht hW => ⟨⟨_, _, rfl, hv.symm, by dsimp only; rw [ht]; exact hP⟩, hS.F ht⟩) hS.2.2 d_Mo_look_138
                  · have hv := hv.trans (if_neg hc4)
                    have hk := hk.2 hc4
                    by_cases hc5 : x2 = 5
                    · have hv := hv.trans (if_pos hc5)
                      have hk := hk.1 hc5
                      refine lv_tableIn (tgt := 139) hx hb d_Mo_look_64 (by rw [hc5]; decide) (by rw [hc5]; decide) (by rw [hc5]; rfl) (by decide) ?_
                      refine lv_aload_n hx hb d_Mo_look_139 rfl (lv_at hl 0 rfl) ?_
                      refine va_get (v := .ref (h 10)) (C := R_Mo) (T := T_Mo) (N := 51) hx hb hg in_Mo hown hK hP 0 rfl rfl 15 (by decide) (hg _ m_1274) (fun _ h9 => h9) rfl d_Mo_look_140 ?_
                      refine lv_iload_n hx hb d_Mo_look_143 rfl (lv_at hl 1 rfl) ?_
                      obtain ⟨hk0, hk⟩ := hk
                      refine va_iald hx hb hK hP 10 0 rfl rfl hk0 d_Mo_look_144 ?_
                      exact W.iret hx hb hr (fun t ht hW => ⟨⟨_, _, rfl, hv.symm, by dsimp only; rw [ht]; exact hP⟩, hS.F ht⟩) hS.2.2 d_Mo_look_145
                    · have hv := hv.trans (if_neg hc5)
                      have hk := hk.2 hc5
                      refine lv_tableOut (tgt := 146) hx hb d_Mo_look_64 (by have := lv_neT hc0 (by decide : (0 : Int32).toInt = 0); have := lv_neT hc1 (by decide : (1 : Int32).toInt = 1); have := lv_neT hc2 (by decide : (2 : Int32).toInt = 2); have := lv_neT hc3 (by decide : (3 : Int32).toInt = 3); have := lv_neT hc4 (by decide : (4 : Int32).toInt = 4); have := lv_neT hc5 (by decide : (5 : Int32).toInt = 5); omega) (by decide) ?_
                      refine lv_bipush (v := -2) hx hb d_Mo_look_146 (by decide) ?_
                      exact W.iret hx hb hr (fun t ht hW => ⟨⟨_, _, rfl, hv.symm, by dsimp only; rw [ht]; exact hP⟩, hS.F ht⟩) hS.2.2 d_Mo_look_148
        · have hv := hv.trans (if_neg hc)
          have hk := hk.2 hc
          exact B60 _ _ _  σ hv hk (lv_sub hl [] rfl) hP hD hS
    · have hv := hv.trans (if_pos hc)
      have hk := hk.1 hc
      refine lv_iload_n hx hb d_Mo_look_10 rfl (lv_at hl 2 rfl) ?_
      refine lv_if_ne (tgt := 21) hx hb d_Mo_look_11 (by decide) (fun hc => ?_) (fun hc => ?_)
      · have hv := hv.trans (if_neg hc)
        have hk := hk.2 hc
        refine lv_iload_n hx hb d_Mo_look_21 rfl (lv_at hl 2 rfl) ?_
        refine lv_iconst (v := 1) hx hb d_Mo_look_22 (by decide) ?_
        refine lv_icmp_ne (tgt := 33) hx hb d_Mo_look_23 (by decide) (fun hc => ?_) (fun hc => ?_)
        · have hv := hv.trans (if_neg hc)
          have hk := hk.2 hc
          refine lv_iload_n hx hb d_Mo_look_33 rfl (lv_at hl 2 rfl) ?_
          refine lv_iconst (v := 2) hx hb d_Mo_look_34 (by decide) ?_
          refine lv_icmp_ne (tgt := 45) hx hb d_Mo_look_35 (by decide) (fun hc => ?_) (fun hc => ?_)
          · have hv := hv.trans (if_neg hc)
            have hk := hk.2 hc
            refine lv_bipush (v := -2) hx hb d_Mo_look_45 (by decide) ?_
            exact B47 _ _ _ (-2) σ hv hk (lv_sub hl [] rfl) hP hD hS
          · have hv := hv.trans (if_pos hc)
            have hk := hk.1 hc
            refine lv_aload_n hx hb d_Mo_look_38 rfl (lv_at hl 0 rfl) ?_
            refine va_get (v := .int (σ.1 0 1)) (C := R_Mo) (T := T_Mo) (N := 51) hx hb hg in_Mo hown hK hP 0 rfl rfl 1 (by decide) (hg _ m_1260) (fun _ h9 => h9) rfl d_Mo_look_39 ?_
            refine lv_goto (tgt := 47) hx hb d_Mo_look_42 (by decide) ?_
            exact B47 _ _ _ (σ.1 0 1) σ hv hk (lv_sub hl [] rfl) hP hD hS
        · have hv := hv.trans (if_pos hc)
          have hk := hk.1 hc
          refine lv_aload_n hx hb d_Mo_look_26 rfl (lv_at hl 0 rfl) ?_
          refine va_get (v := .int (σ.1 0 19)) (C := R_Mo) (T := T_Mo) (N := 51) hx hb hg in_Mo hown hK hP 0 rfl rfl 19 (by decide) (hg _ m_1278) (fun _ h9 => h9) rfl d_Mo_look_27 ?_
          refine lv_goto (tgt := 47) hx hb d_Mo_look_30 (by decide) ?_
          exact B47 _ _ _ (σ.1 0 19) σ hv hk (lv_sub hl [] rfl) hP hD hS
      · have hv := hv.trans (if_pos hc)
        have hk := hk.1 hc
        refine lv_aload_n hx hb d_Mo_look_14 rfl (lv_at hl 0 rfl) ?_
        refine va_get (v := .int (σ.1 0 8)) (C := R_Mo) (T := T_Mo) (N := 51) hx hb hg in_Mo hown hK hP 0 rfl rfl 8 (by decide) (hg _ m_1267) (fun _ h9 => h9) rfl d_Mo_look_15 ?_
        refine lv_goto (tgt := 47) hx hb d_Mo_look_18 (by decide) ?_
        exact B47 _ _ _ (σ.1 0 8) σ hv hk (lv_sub hl [] rfl) hP hD hS
  unfold f_Mo_look at hv
  unfold k_Mo_look at hk
  refine lv_aload_n hx hb d_Mo_look_0 rfl (lv_at hl 0 rfl) ?_
  refine lv_iconst (v := 0) hx hb d_Mo_look_1 (by decide) ?_
  refine va_put (v := .int 0) (ty := .int) (C := R_Mo) (T := T_Mo) (N := 51) hx hb hg in_Mo ty_Mo ok_Mo nm_Mo hown hK hP hD hS 0 rfl rfl 0 (by decide) (hg _ m_1259) (fun _ h9 => h9) rfl (by decide +kernel) rfl rfl (Nat.le_of_ble_eq_true rfl) d_Mo_look_2 (fun H locs hP hD hS => ?_)
  have hP : va_P D classes (Wm ty h (sF σ 0 0 0) px) H := hP
  have hD : va_D A (Wm ty h (sF σ 0 0 0) px) := hD
  exact B5 _ _ _ a1 a2 (sF σ 0 0 0) hv hk (lv_sub hl [0, 1, 2] rfl) hP hD hS

-- ClauseLedgerModel.write(I)V
abbrev b_Mo_write : ByteArray := prog_14_method_62_code
def y_Mo_write : MethodName := ⟨"ClauseLedgerModel", "write", "(I)V"⟩
theorem hd_Mo_write : y_Mo_write.cls ≠ "java/lang/invoke/MethodHandle" ∧ y_Mo_write.cls ≠ "java/lang/invoke/VarHandle" ∧ (parseMethodDescriptor y_Mo_write.desc).map (fun d => d.parameters.length) = some 1 := by decide +kernel
theorem d_Mo_write_0 : decode b_Mo_write 0 = .ok (.aload_n 0, 1) := by decide +kernel
theorem d_Mo_write_1 : decode b_Mo_write 1 = .ok (.getfield 297, 3) := by decide +kernel
theorem d_Mo_write_4 : decode b_Mo_write 4 = .ok (.aload_n 0, 1) := by decide +kernel
theorem d_Mo_write_5 : decode b_Mo_write 5 = .ok (.getfield 300, 3) := by decide +kernel
theorem d_Mo_write_8 : decode b_Mo_write 8 = .ok (.if_icmp .ne 8, 3) := by decide +kernel
theorem d_Mo_write_11 : decode b_Mo_write 11 = .ok (.aload_n 0, 1) := by decide +kernel
theorem d_Mo_write_12 : decode b_Mo_write 12 = .ok (.iload_n 1, 1) := by decide +kernel
theorem d_Mo_write_13 : decode b_Mo_write 13 = .ok (.putfield 303, 3) := by decide +kernel
theorem d_Mo_write_16 : decode b_Mo_write 16 = .ok (.aload_n 0, 1) := by decide +kernel
theorem d_Mo_write_17 : decode b_Mo_write 17 = .ok (.dup, 1) := by decide +kernel
theorem d_Mo_write_18 : decode b_Mo_write 18 = .ok (.getfield 297, 3) := by decide +kernel
theorem d_Mo_write_21 : decode b_Mo_write 21 = .ok (.iconst 1, 1) := by decide +kernel
theorem d_Mo_write_22 : decode b_Mo_write 22 = .ok (.iadd, 1) := by decide +kernel
theorem d_Mo_write_23 : decode b_Mo_write 23 = .ok (.putfield 297, 3) := by decide +kernel
theorem d_Mo_write_26 : decode b_Mo_write 26 = .ok (.return_, 1) := by decide +kernel
def f_Mo_write_26 (σ : St) : St := σ
def k_Mo_write_26 (σ : St) : Prop := True
def f_Mo_write_16 (σ : St) : St := f_Mo_write_26 (sF σ 0 46 ((σ.1 0 46) + 1))
def k_Mo_write_16 (σ : St) : Prop := k_Mo_write_26 (sF σ 0 46 ((σ.1 0 46) + 1))
def f_Mo_write (a1 : Int32) (σ : St) : St := if (σ.1 0 46) = (σ.1 0 47) then (f_Mo_write_16 (sF σ 0 48 a1)) else (f_Mo_write_16 σ)
def k_Mo_write (a1 : Int32) (σ : St) : Prop := ((σ.1 0 46) = (σ.1 0 47) → (k_Mo_write_16 (sF σ 0 48 a1))) ∧ (¬ (σ.1 0 46) = (σ.1 0 47) → (k_Mo_write_16 σ))
abbrev w_Mo_write : List Cond := Cond.code y_Mo_write b_Mo_write 2 none :: gw
abbrev rm_Mo_write : Room := { frames := 0, cells := 0, slots := 0, locals := 0 }
set_option maxHeartbeats 4000000 in
set_option maxRecDepth 100000 in
theorem c_Mo_write (l : Launch) (D : va_G) (ty : Nat → ClassId) (h : Nat → Nat) (px : va_W) (sa : Nat → Nat) (σ : St) (sz : Nat) (a1 : Int32) (hk : k_Mo_write a1 σ) : Met l y_Mo_write w_Mo_write rm_Mo_write (va_Pc [.ref (h 0), .int a1] (fun U => U.heap.size = sz ∧ va_P D classes (Wm ty h σ px) U.heap ∧ va_K D classes (Ta ty) U ∧ NW U ∧ MK sa (va_A (Wm ty h σ px) sz) U U.heap ∧ va_D (fun _ => True) (Wm ty h σ px))) (va_Qv (fun u : St => u = f_Mo_write a1 σ) (fun u t => va_P D classes (Wm ty h u px) t.heap) (va_A (Wm ty h σ px) sz)) 0 0 (va_A (Wm ty h σ px) sz) := by
  refine Met.ofW (cc := b_Mo_write) (maxL := 2) (ret := none) (by decide) rfl ?_
  intro p e s m args below meth c s₁ B hml hv
  obtain ⟨ha, hsz, hP, hK, hN, hM, hD0⟩ := hv
  have hx := B.exec
  have hb := B.bytes
  have hr := B.returns
  have hg : ∀ w ∈ gw, w.before args s = true := fun w h9 => atoms_spec (ws := w_Mo_write) B.pre w (List.mem_cons_of_mem _ h9)
  have hown : s.vm.findClass "ClauseLedgerModel" = some m.cls := findClass_of_methodNamed B.named
  have hlocks := B.notSynchronized
  subst hsz
  have hD := hD0.self (sz := s.heap.size)
  generalize hAe : va_A (Wm ty h σ px) s.heap.size = A at hD hM ⊢
  have hA : ∀ q : Nat, s.heap.size ≤ q → A q := fun q h9 => by rw [← hAe]; exact Or.inr h9
  have hS : va_S A s.heap s.heap [] := va_S.rf
  have he : entryFrame m args 2 = entryFrame m ([.ref (h 0), .int a1] : List Value).toArray 2 := by rw [ha]
  rw [he, lg_entry_eq]
  have hl := lv_entry ([.ref (h 0), .int a1]) (n := 2) (Nat.le_of_ble_eq_true rfl)
  generalize (lg_sl ([.ref (h 0), .int a1]) ++ List.replicate (2 - (lg_sl ([.ref (h 0), .int a1])).length) Slot.unset).toArray = ls at hl ⊢
  have hl : lv_has ls 2 [(0, .ref (h 0)), (1, .int a1)] := hl
  generalize hv : f_Mo_write a1 σ = v
  replace hv := hv.symm
  have B26 : ∀ (H : Heap) (locs : List Loc) (ls : Array Slot) (σ : St), v = f_Mo_write_26 σ → k_Mo_write_26 σ → lv_has ls 2 [] → va_P D classes (Wm ty h σ px) H → va_D A (Wm ty h σ px) → va_S A s.heap H locs → W p l e (headSpec w_Mo_write rm_Mo_write).room s m args below meth c H locs 0 0 (MQ below (va_Qv (fun u : St => u = v) (fun u t => va_P D classes (Wm ty h u px) t.heap) A) args s 0 0 A) (F0 m 26 ls []) := by
    intro H locs ls σ hv hk hl hP hD hS
    unfold f_Mo_write_26 at hv
    unfold k_Mo_write_26 at hk
    exact W.vret hx hb hr (fun t ht hW => ⟨⟨_, rfl, hv.symm, by dsimp only; rw [ht]; exact hP⟩, hS.F ht⟩) hS.2.2 d_Mo_write_26
  have B16 : ∀ (H : Heap) (locs : List Loc) (ls : Array Slot) (σ : St), v = f_Mo_write_16 σ → k_Mo_write_16 σ → lv_has ls 2 [(0, .ref (h 0))] → va_P D classes (Wm ty h σ px) H → va_D A (Wm ty h σ px) → va_S A s.heap H locs → W p l e (headSpec w_Mo_write rm_Mo_write).room s m args below meth c H locs 0 0 (MQ below (va_Qv (fun u : St => u = v) (fun u t => va_P D classes (Wm ty h u px) t.heap) A) args s 0 0 A) (F0 m 16 ls []) := by
    intro H locs ls σ hv hk hl hP hD hS
    unfold f_Mo_write_16 at hv
    unfold k_Mo_write_16 at hk
    refine lv_aload_n hx hb d_Mo_write_16 rfl (lv_at hl 0 rfl) ?_
    refine lv_dup hx hb d_Mo_write_17 rfl ?_
    refine va_get (v := .int (σ.1 0 46)) (C := R_Mo) (T := T_Mo) (N := 51) hx hb hg in_Mo hown hK hP 0 rfl rfl 46 (by decide) (hg _ m_1305) (fun _ h9 => h9) rfl d_Mo_write_18 ?_
    refine lv_iconst (v := 1) hx hb d_Mo_write_21 (by decide) ?_
    refine lv_iadd hx hb d_Mo_write_22 ?_
    refine va_put (v := .int ((σ.1 0 46) + 1)) (ty := .int) (C := R_Mo) (T := T_Mo) (N := 51) hx hb hg in_Mo ty_Mo ok_Mo nm_Mo hown hK hP hD hS 0 rfl rfl 46 (by decide) (hg _ m_1305) (fun _ h9 => h9) rfl (by decide +kernel) rfl rfl (Nat.le_of_ble_eq_true rfl) d_Mo_write_23 (fun H locs hP hD hS => ?_)
    have hP : va_P D classes (Wm ty h (sF σ 0 46 ((σ.1 0 46) + 1)) px) H := hP
    have hD : va_D A (Wm ty h (sF σ 0 46 ((σ.1 0 46) + 1)) px) := hD
    exact B26 _ _ _  (sF σ 0 46 ((σ.1 0 46) + 1)) hv hk (lv_sub hl [] rfl) hP hD hS
  unfold f_Mo_write at hv
  unfold k_Mo_write at hk
  refine lv_aload_n hx hb d_Mo_write_0 rfl (lv_at hl 0 rfl) ?_
  refine va_get (v := .int (σ.1 0 46)) (C := R_Mo) (T := T_Mo) (N := 51) hx hb hg in_Mo hown hK hP 0 rfl rfl 46 (by decide) (hg _ m_1305) (fun _ h9 => h9) rfl d_Mo_write_1 ?_
  refine lv_aload_n hx hb d_Mo_write_4 rfl (lv_at hl 0 rfl) ?_
  refine va_get (v := .int (σ.1 0 47)) (C := R_Mo) (T := T_Mo) (N := 51) hx hb hg in_Mo hown hK hP 0 rfl rfl 47 (by decide) (hg _ m_1306) (fun _ h9 => h9) rfl d_Mo_write_5 ?_
  refine lv_icmp_ne (tgt := 16) hx hb d_Mo_write_8 (by decide) (fun hc => ?_) (fun hc => ?_)
  · have hv := hv.trans (if_neg hc)
    have hk := hk.2 hc
    exact B16 _ _ _  σ hv hk (lv_sub hl [0] rfl) hP hD hS
  · have hv := hv.trans (if_pos hc)
    have hk := hk.1 hc
    refine lv_aload_n hx hb d_Mo_write_11 rfl (lv_at hl 0 rfl) ?_
    refine lv_iload_n hx hb d_Mo_write_12 rfl (lv_at hl 1 rfl) ?_
    refine va_put (v := .int a1) (ty := .int) (C := R_Mo) (T := T_Mo) (N := 51) hx hb hg in_Mo ty_Mo ok_Mo nm_Mo hown hK hP hD hS 0 rfl rfl 48 (by decide) (hg _ m_1307) (fun _ h9 => h9) rfl (by decide +kernel) rfl rfl (Nat.le_of_ble_eq_true rfl) d_Mo_write_13 (fun H locs hP hD hS => ?_)
    have hP : va_P D classes (Wm ty h (sF σ 0 48 a1) px) H := hP
    have hD : va_D A (Wm ty h (sF σ 0 48 a1) px) := hD
    exact B16 _ _ _  (sF σ 0 48 a1) hv hk (lv_sub hl [0] rfl) hP hD hS

-- ClauseLedgerModel.writeNumber(I)V
abbrev b_Mo_writeNumber : ByteArray := prog_14_method_63_code
def y_Mo_writeNumber : MethodName := ⟨"ClauseLedgerModel", "writeNumber", "(I)V"⟩
theorem hd_Mo_writeNumber : y_Mo_writeNumber.cls ≠ "java/lang/invoke/MethodHandle" ∧ y_Mo_writeNumber.cls ≠ "java/lang/invoke/VarHandle" ∧ (parseMethodDescriptor y_Mo_writeNumber.desc).map (fun d => d.parameters.length) = some 1 := by decide +kernel
theorem d_Mo_writeNumber_0 : decode b_Mo_writeNumber 0 = .ok (.iconst 1, 1) := by decide +kernel
theorem d_Mo_writeNumber_1 : decode b_Mo_writeNumber 1 = .ok (.istore_n 2, 1) := by decide +kernel
theorem d_Mo_writeNumber_2 : decode b_Mo_writeNumber 2 = .ok (.iload_n 1, 1) := by decide +kernel
theorem d_Mo_writeNumber_3 : decode b_Mo_writeNumber 3 = .ok (.iload_n 2, 1) := by decide +kernel
theorem d_Mo_writeNumber_4 : decode b_Mo_writeNumber 4 = .ok (.idiv, 1) := by decide +kernel
theorem d_Mo_writeNumber_5 : decode b_Mo_writeNumber 5 = .ok (.bipush 9, 2) := by decide +kernel
theorem d_Mo_writeNumber_7 : decode b_Mo_writeNumber 7 = .ok (.if_icmp .le 11, 3) := by decide +kernel
theorem d_Mo_writeNumber_10 : decode b_Mo_writeNumber 10 = .ok (.iload_n 2, 1) := by decide +kernel
theorem d_Mo_writeNumber_11 : decode b_Mo_writeNumber 11 = .ok (.bipush 10, 2) := by decide +kernel
theorem d_Mo_writeNumber_13 : decode b_Mo_writeNumber 13 = .ok (.imul, 1) := by decide +kernel
theorem d_Mo_writeNumber_14 : decode b_Mo_writeNumber 14 = .ok (.istore_n 2, 1) := by decide +kernel
theorem d_Mo_writeNumber_15 : decode b_Mo_writeNumber 15 = .ok (.goto (-13), 3) := by decide +kernel
theorem d_Mo_writeNumber_18 : decode b_Mo_writeNumber 18 = .ok (.iload_n 2, 1) := by decide +kernel
theorem d_Mo_writeNumber_19 : decode b_Mo_writeNumber 19 = .ok (.ifCond .le 24, 3) := by decide +kernel
theorem d_Mo_writeNumber_22 : decode b_Mo_writeNumber 22 = .ok (.aload_n 0, 1) := by decide +kernel
theorem d_Mo_writeNumber_23 : decode b_Mo_writeNumber 23 = .ok (.bipush 48, 2) := by decide +kernel
theorem d_Mo_writeNumber_25 : decode b_Mo_writeNumber 25 = .ok (.iload_n 1, 1) := by decide +kernel
theorem d_Mo_writeNumber_26 : decode b_Mo_writeNumber 26 = .ok (.iload_n 2, 1) := by decide +kernel
theorem d_Mo_writeNumber_27 : decode b_Mo_writeNumber 27 = .ok (.idiv, 1) := by decide +kernel
theorem d_Mo_writeNumber_28 : decode b_Mo_writeNumber 28 = .ok (.bipush 10, 2) := by decide +kernel
theorem d_Mo_writeNumber_30 : decode b_Mo_writeNumber 30 = .ok (.irem, 1) := by decide +kernel
theorem d_Mo_writeNumber_31 : decode b_Mo_writeNumber 31 = .ok (.iadd, 1) := by decide +kernel
theorem d_Mo_writeNumber_32 : decode b_Mo_writeNumber 32 = .ok (.invokevirtual 306, 3) := by decide +kernel
theorem d_Mo_writeNumber_35 : decode b_Mo_writeNumber 35 = .ok (.iload_n 2, 1) := by decide +kernel
theorem d_Mo_writeNumber_36 : decode b_Mo_writeNumber 36 = .ok (.bipush 10, 2) := by decide +kernel
theorem d_Mo_writeNumber_38 : decode b_Mo_writeNumber 38 = .ok (.idiv, 1) := by decide +kernel
theorem d_Mo_writeNumber_39 : decode b_Mo_writeNumber 39 = .ok (.istore_n 2, 1) := by decide +kernel
theorem d_Mo_writeNumber_40 : decode b_Mo_writeNumber 40 = .ok (.goto (-22), 3) := by decide +kernel
theorem d_Mo_writeNumber_43 : decode b_Mo_writeNumber 43 = .ok (.return_, 1) := by decide +kernel
def f_Mo_writeNumber_15 (F2 : (Int32 → Int32 → St → St)) (x1 : Int32) (x2 : Int32) (σ : St) : St := F2 x1 x2 σ
def k_Mo_writeNumber_15 (K2 : (Int32 → Int32 → St → Prop)) (x1 : Int32) (x2 : Int32) (σ : St) : Prop := K2 x1 x2 σ
def f_Mo_writeNumber_40 (F18 : (Int32 → Int32 → St → St)) (x1 : Int32) (x2 : Int32) (σ : St) : St := F18 x1 x2 σ
def k_Mo_writeNumber_40 (K18 : (Int32 → Int32 → St → Prop)) (x1 : Int32) (x2 : Int32) (σ : St) : Prop := K18 x1 x2 σ
def f_Mo_writeNumber_35 (F18 : (Int32 → Int32 → St → St)) (x1 : Int32) (x2 : Int32) (σ : St) : St := f_Mo_writeNumber_40 F18 x1 (x2 / 10) σ
def k_Mo_writeNumber_35 (K18 : (Int32 → Int32 → St → Prop)) (x1 : Int32) (x2 : Int32) (σ : St) : Prop := (¬ (10 : Int32) = 0) ∧ (k_Mo_writeNumber_40 K18 x1 (x2 / 10) σ)
def f_Mo_writeNumber_18 : Nat → Int32 → Int32 → St → St
  | 0, _, _, σ => σ
  | n + 1, x1, x2, σ => if x2 ≤ 0 then σ else (f_Mo_writeNumber_35 (f_Mo_writeNumber_18 n) x1 x2 (f_Mo_write (48 + ((x1 / x2) - (x1 / x2) / 10 * 10)) σ))
def k_Mo_writeNumber_18 : Nat → Int32 → Int32 → St → Prop
  | 0, _, _, _ => False
  | n + 1, x1, x2, σ => (x2 ≤ 0 → True) ∧ (¬ x2 ≤ 0 → ((¬ (x2 : Int32) = 0) ∧ ((¬ (10 : Int32) = 0) ∧ ((k_Mo_write (48 + ((x1 / x2) - (x1 / x2) / 10 * 10)) σ) ∧ (k_Mo_writeNumber_35 (k_Mo_writeNumber_18 n) x1 x2 (f_Mo_write (48 + ((x1 / x2) - (x1 / x2) / 10 * 10)) σ))))))
def f_Mo_writeNumber_2 : Nat → Int32 → Int32 → St → St
  | 0, _, _, σ => σ
  | n + 1, x1, x2, σ => if (x1 / x2) ≤ 9 then (f_Mo_writeNumber_18 1000 x1 x2 σ) else (f_Mo_writeNumber_15 (f_Mo_writeNumber_2 n) x1 (x2 * 10) σ)
def k_Mo_writeNumber_2 : Nat → Int32 → Int32 → St → Prop
  | 0, _, _, _ => False
  | n + 1, x1, x2, σ => (¬ (x2 : Int32) = 0) ∧ (((x1 / x2) ≤ 9 → (k_Mo_writeNumber_18 1000 x1 x2 σ)) ∧ (¬ (x1 / x2) ≤ 9 → (k_Mo_writeNumber_15 (k_Mo_writeNumber_2 n) x1 (x2 * 10) σ)))
def f_Mo_writeNumber (a1 : Int32) (σ : St) : St := f_Mo_writeNumber_2 1000 a1 1 σ
def k_Mo_writeNumber (a1 : Int32) (σ : St) : Prop := k_Mo_writeNumber_2 1000 a1 1 σ
abbrev w_Mo_writeNumber : List Cond := Cond.code y_Mo_writeNumber b_Mo_writeNumber 3 none :: gw
abbrev rm_Mo_writeNumber : Room := { frames := 1, cells := 0, slots := 0, locals := 21 }
set_option maxHeartbeats 4000000 in
set_option maxRecDepth 100000 in
theorem c_Mo_writeNumber (l : Launch) (D : va_G) (ty : Nat → ClassId) (h : Nat → Nat) (px : va_W) (sa : Nat → Nat) (σ : St) (sz : Nat) (a1 : Int32) (hk : k_Mo_writeNumber a1 σ) : Met l y_Mo_writeNumber w_Mo_writeNumber rm_Mo_writeNumber (va_Pc [.ref (h 0), .int a1] (fun U => U.heap.size = sz ∧ va_P D classes (Wm ty h σ px) U.heap ∧ va_K D classes (Ta ty) U ∧ NW U ∧ MK sa (va_A (Wm ty h σ px) sz) U U.heap ∧ va_D (fun _ => True) (Wm ty h σ px))) (va_Qv (fun u : St => u = f_Mo_writeNumber a1 σ) (fun u t => va_P D classes (Wm ty h u px) t.heap) (va_A (Wm ty h σ px) sz)) 0 0 (va_A (Wm ty h σ px) sz) := by
  refine Met.ofW (cc := b_Mo_writeNumber) (maxL := 3) (ret := none) (by decide) rfl ?_
  intro p e s m args below meth c s₁ B hml hv
  obtain ⟨ha, hsz, hP, hK, hN, hM, hD0⟩ := hv
  have hx := B.exec
  have hb := B.bytes
  have hr := B.returns
  have hg : ∀ w ∈ gw, w.before args s = true := fun w h9 => atoms_spec (ws := w_Mo_writeNumber) B.pre w (List.mem_cons_of_mem _ h9)
  have hown : s.vm.findClass "ClauseLedgerModel" = some m.cls := findClass_of_methodNamed B.named
  have hlocks := B.notSynchronized
  subst hsz
  have hD := hD0.self (sz := s.heap.size)
  generalize hAe : va_A (Wm ty h σ px) s.heap.size = A at hD hM ⊢
  have hA : ∀ q : Nat, s.heap.size ≤ q → A q := fun q h9 => by rw [← hAe]; exact Or.inr h9
  have hS : va_S A s.heap s.heap [] := va_S.rf
  have he : entryFrame m args 3 = entryFrame m ([.ref (h 0), .int a1] : List Value).toArray 3 := by rw [ha]
  rw [he, lg_entry_eq]
  have hl := lv_entry ([.ref (h 0), .int a1]) (n := 3) (Nat.le_of_ble_eq_true rfl)
  generalize (lg_sl ([.ref (h 0), .int a1]) ++ List.replicate (3 - (lg_sl ([.ref (h 0), .int a1])).length) Slot.unset).toArray = ls at hl ⊢
  have hl : lv_has ls 3 [(0, .ref (h 0)), (1, .int a1)] := hl
  generalize hv : f_Mo_writeNumber a1 σ = v
  replace hv := hv.symm
  have B18 : ∀ (n18 : Nat) (H : Heap) (locs : List Loc) (ls : Array Slot) (x1 : Int32) (x2 : Int32) (σ : St), v = f_Mo_writeNumber_18 n18 x1 x2 σ → k_Mo_writeNumber_18 n18 x1 x2 σ → lv_has ls 3 [(0, .ref (h 0)), (1, .int x1), (2, .int x2)] → va_P D classes (Wm ty h σ px) H → va_D A (Wm ty h σ px) → va_S A s.heap H locs → W p l e (headSpec w_Mo_writeNumber rm_Mo_writeNumber).room s m args below meth c H locs 0 0 (MQ below (va_Qv (fun u : St => u = v) (fun u t => va_P D classes (Wm ty h u px) t.heap) A) args s 0 0 A) (F0 m 18 ls []) := by
    intro n18
    induction n18 with
    | zero => intro H locs ls x1 x2 σ hv hk hl hP hD hS; exact hk.elim
    | succ n18 ih18 =>
      have B40 : ∀ (H : Heap) (locs : List Loc) (ls : Array Slot) (x1 : Int32) (x2 : Int32) (σ : St), v = f_Mo_writeNumber_40 (f_Mo_writeNumber_18 n18) x1 x2 σ → k_Mo_writeNumber_40 (k_Mo_writeNumber_18 n18) x1 x2 σ → lv_has ls 3 [(0, .ref (h 0)), (1, .int x1), (2, .int x2)] → va_P D classes (Wm ty h σ px) H → va_D A (Wm ty h σ px) → va_S A s.heap H locs → W p l e (headSpec w_Mo_writeNumber rm_Mo_writeNumber).room s m args below meth c H locs 0 0 (MQ below (va_Qv (fun u : St => u = v) (fun u t => va_P D classes (Wm ty h u px) t.heap) A) args s 0 0 A) (F0 m 40 ls []) := by
        intro H locs ls x1 x2 σ hv hk hl hP hD hS
        unfold f_Mo_writeNumber_40 at hv
        unfold k_Mo_writeNumber_40 at hk
        refine lv_goto (tgt := 18) hx hb d_Mo_writeNumber_40 (by decide) ?_
        exact ih18 _ _ _ x1 x2 σ hv hk (lv_sub hl [0, 1, 2] rfl) hP hD hS
      have B35 : ∀ (H : Heap) (locs : List Loc) (ls : Array Slot) (x1 : Int32) (x2 : Int32) (σ : St), v = f_Mo_writeNumber_35 (f_Mo_writeNumber_18 n18) x1 x2 σ → k_Mo_writeNumber_35 (k_Mo_writeNumber_18 n18) x1 x2 σ → lv_has ls 3 [(0, .ref (h 0)), (1, .int x1), (2, .int x2)] → va_P D classes (Wm ty h σ px) H → va_D A (Wm ty h σ px) → va_S A s.heap H locs → W p l e (headSpec w_Mo_writeNumber rm_Mo_writeNumber).room s m args below meth c H locs 0 0 (MQ below (va_Qv (fun u : St => u = v) (fun u t => va_P D classes (Wm ty h u px) t.heap) A) args s 0 0 A) (F0 m 35 ls []) := by
        intro H locs ls x1 x2 σ hv hk hl hP hD hS
        unfold f_Mo_writeNumber_35 at hv
        unfold k_Mo_writeNumber_35 at hk
        refine lv_iload_n hx hb d_Mo_writeNumber_35 rfl (lv_at hl 2 rfl) ?_
        refine lv_bipush (v := 10) hx hb d_Mo_writeNumber_36 (by decide) ?_
        obtain ⟨hk0, hk⟩ := hk
        refine lv_idiv hx hb d_Mo_writeNumber_38 hk0 ?_
        refine lv_istore_n (lv' := [(2, .int (x2 / 10)), (0, .ref (h 0)), (1, .int x1)]) hx hb d_Mo_writeNumber_39 rfl hl (by decide) rfl (fun ls hl => ?_)
        exact B40 _ _ _ x1 (x2 / 10) σ hv hk (lv_sub hl [1, 2, 0] rfl) hP hD hS
      intro H locs ls x1 x2 σ hv hk hl hP hD hS
      rw [f_Mo_writeNumber_18] at hv
      rw [k_Mo_writeNumber_18] at hk
      refine lv_iload_n hx hb d_Mo_writeNumber_18 rfl (lv_at hl 2 rfl) ?_
      refine lv_if_le (tgt := 43) hx hb d_Mo_writeNumber_19 (by decide) (fun hc => ?_) (fun hc => ?_)
      · have hv := hv.trans (if_pos hc)
        have hk := hk.1 hc
        exact W.vret hx hb hr (fun t ht hW => ⟨⟨_, rfl, hv.symm, by dsimp only; rw [ht]; exact hP⟩, hS.F ht⟩) hS.2.2 d_Mo_writeNumber_43
      · have hv := hv.trans (if_neg hc)
        have hk := hk.2 hc
        refine lv_aload_n hx hb d_Mo_writeNumber_22 rfl (lv_at hl 0 rfl) ?_
        refine lv_bipush (v := 48) hx hb d_Mo_writeNumber_23 (by decide) ?_
        refine lv_iload_n hx hb d_Mo_writeNumber_25 rfl (lv_at hl 1 rfl) ?_
        refine lv_iload_n hx hb d_Mo_writeNumber_26 rfl (lv_at hl 2 rfl) ?_
        obtain ⟨hk0, hk⟩ := hk
        refine lv_idiv hx hb d_Mo_writeNumber_27 hk0 ?_
        refine lv_bipush (v := 10) hx hb d_Mo_writeNumber_28 (by decide) ?_
        obtain ⟨hk0, hk⟩ := hk
        refine lv_irem hx hb d_Mo_writeNumber_30 hk0 ?_
        refine lv_iadd hx hb d_Mo_writeNumber_31 ?_
        obtain ⟨hk0, hk⟩ := hk
        refine va_callv (va_runV (As := [.int (48 + ((x1 / x2) - (x1 / x2) / 10 * 10))]) (rest := []) ⟨hx, hb, hml, hown, hg⟩ (c_Mo_write l D ty h px sa σ H.size (48 + ((x1 / x2) - (x1 / x2) / 10 * 10)) hk0) ⟨callB_of 1 hg (gw_C m_1668) rfl rfl rfl (hg _ m_13) (hg _ m_1665) hd_Mo_write ⟨Nat.le_of_ble_eq_true rfl, Nat.le_of_ble_eq_true rfl⟩, hg _ m_1667, hg _ ms_84⟩ (zz_preVW hM hS hA hN hK hP hD 0 rfl rfl) rfl rfl hl.1 rfl (lv_room (Nat.le_of_ble_eq_true rfl)) d_Mo_writeNumber_32 ⟨Nat.le_of_ble_eq_true rfl, Nat.le_of_ble_eq_true rfl⟩) hS (fun q _ h => zz_free hD hS hA q h) (zz_free hD hS hA) (fun u32 t H locs ht hvm hp hP1 hz hk1 hS => ?_)
        rw [ht] at hP1
        rw [← hp] at hv hk
        have hD : va_D A (Wm ty h u32 px) := zz_D hD rfl
        have hP := hP1
        exact B35 _ _ _ x1 x2 u32 hv hk (lv_sub hl [0, 1, 2] rfl) hP hD hS
  have B2 : ∀ (n2 : Nat) (H : Heap) (locs : List Loc) (ls : Array Slot) (x1 : Int32) (x2 : Int32) (σ : St), v = f_Mo_writeNumber_2 n2 x1 x2 σ → k_Mo_writeNumber_2 n2 x1 x2 σ → lv_has ls 3 [(0, .ref (h 0)), (1, .int x1), (2, .int x2)] → va_P D classes (Wm ty h σ px) H → va_D A (Wm ty h σ px) → va_S A s.heap H locs → W p l e (headSpec w_Mo_writeNumber rm_Mo_writeNumber).room s m args below meth c H locs 0 0 (MQ below (va_Qv (fun u : St => u = v) (fun u t => va_P D classes (Wm ty h u px) t.heap) A) args s 0 0 A) (F0 m 2 ls []) := by
    intro n2
    induction n2 with
    | zero => intro H locs ls x1 x2 σ hv hk hl hP hD hS; exact hk.elim
    | succ n2 ih2 =>
      have B15 : ∀ (H : Heap) (locs : List Loc) (ls : Array Slot) (x1 : Int32) (x2 : Int32) (σ : St), v = f_Mo_writeNumber_15 (f_Mo_writeNumber_2 n2) x1 x2 σ → k_Mo_writeNumber_15 (k_Mo_writeNumber_2 n2) x1 x2 σ → lv_has ls 3 [(0, .ref (h 0)), (1, .int x1), (2, .int x2)] → va_P D classes (Wm ty h σ px) H → va_D A (Wm ty h σ px) → va_S A s.heap H locs → W p l e (headSpec w_Mo_writeNumber rm_Mo_writeNumber).room s m args below meth c H locs 0 0 (MQ below (va_Qv (fun u : St => u = v) (fun u t => va_P D classes (Wm ty h u px) t.heap) A) args s 0 0 A) (F0 m 15 ls []) := by
        intro H locs ls x1 x2 σ hv hk hl hP hD hS
        unfold f_Mo_writeNumber_15 at hv
        unfold k_Mo_writeNumber_15 at hk
        refine lv_goto (tgt := 2) hx hb d_Mo_writeNumber_15 (by decide) ?_
        exact ih2 _ _ _ x1 x2 σ hv hk (lv_sub hl [0, 1, 2] rfl) hP hD hS
      intro H locs ls x1 x2 σ hv hk hl hP hD hS
      rw [f_Mo_writeNumber_2] at hv
      rw [k_Mo_writeNumber_2] at hk
      refine lv_iload_n hx hb d_Mo_writeNumber_2 rfl (lv_at hl 1 rfl) ?_
      refine lv_iload_n hx hb d_Mo_writeNumber_3 rfl (lv_at hl 2 rfl) ?_
      obtain ⟨hk0, hk⟩ := hk
      refine lv_idiv hx hb d_Mo_writeNumber_4 hk0 ?_
      refine lv_bipush (v := 9) hx hb d_Mo_writeNumber_5 (by decide) ?_
      refine lv_icmp_le (tgt := 18) hx hb d_Mo_writeNumber_7 (by decide) (fun hc => ?_) (fun hc => ?_)
      · have hv := hv.trans (if_pos hc)
        have hk := hk.1 hc
        exact B18 1000 _ _ _ x1 x2 σ hv hk (lv_sub hl [0, 1, 2] rfl) hP hD hS
      · have hv := hv.trans (if_neg hc)
        have hk := hk.2 hc
        refine lv_iload_n hx hb d_Mo_writeNumber_10 rfl (lv_at hl 2 rfl) ?_
        refine lv_bipush (v := 10) hx hb d_Mo_writeNumber_11 (by decide) ?_
        refine lv_imul hx hb d_Mo_writeNumber_13 ?_
        refine lv_istore_n (lv' := [(2, .int (x2 * 10)), (0, .ref (h 0)), (1, .int x1)]) hx hb d_Mo_writeNumber_14 rfl hl (by decide) rfl (fun ls hl => ?_)
        exact B15 _ _ _ x1 (x2 * 10) σ hv hk (lv_sub hl [1, 2, 0] rfl) hP hD hS
  unfold f_Mo_writeNumber at hv
  unfold k_Mo_writeNumber at hk
  refine lv_iconst (v := 1) hx hb d_Mo_writeNumber_0 (by decide) ?_
  refine lv_istore_n (lv' := [(2, .int 1), (0, .ref (h 0)), (1, .int a1)]) hx hb d_Mo_writeNumber_1 rfl hl (by decide) rfl (fun ls hl => ?_)
  exact B2 1000 _ _ _ a1 1 σ hv hk (lv_sub hl [1, 2, 0] rfl) hP hD hS

-- ClauseLedgerModel.writeHead(I)V
abbrev b_Mo_writeHead : ByteArray := prog_14_method_64_code
def y_Mo_writeHead : MethodName := ⟨"ClauseLedgerModel", "writeHead", "(I)V"⟩
theorem hd_Mo_writeHead : y_Mo_writeHead.cls ≠ "java/lang/invoke/MethodHandle" ∧ y_Mo_writeHead.cls ≠ "java/lang/invoke/VarHandle" ∧ (parseMethodDescriptor y_Mo_writeHead.desc).map (fun d => d.parameters.length) = some 1 := by decide +kernel
theorem d_Mo_writeHead_0 : decode b_Mo_writeHead 0 = .ok (.aload_n 0, 1) := by decide +kernel
theorem d_Mo_writeHead_1 : decode b_Mo_writeHead 1 = .ok (.getfield 26, 3) := by decide +kernel
theorem d_Mo_writeHead_4 : decode b_Mo_writeHead 4 = .ok (.iload_n 1, 1) := by decide +kernel
theorem d_Mo_writeHead_5 : decode b_Mo_writeHead 5 = .ok (.iaload, 1) := by decide +kernel
theorem d_Mo_writeHead_6 : decode b_Mo_writeHead 6 = .ok (.istore_n 2, 1) := by decide +kernel
theorem d_Mo_writeHead_7 : decode b_Mo_writeHead 7 = .ok (.iload_n 2, 1) := by decide +kernel
theorem d_Mo_writeHead_8 : decode b_Mo_writeHead 8 = .ok (.iconst 2, 1) := by decide +kernel
theorem d_Mo_writeHead_9 : decode b_Mo_writeHead 9 = .ok (.if_icmp .ne 84, 3) := by decide +kernel
theorem d_Mo_writeHead_12 : decode b_Mo_writeHead 12 = .ok (.aload_n 0, 1) := by decide +kernel
theorem d_Mo_writeHead_13 : decode b_Mo_writeHead 13 = .ok (.getfield 44, 3) := by decide +kernel
theorem d_Mo_writeHead_16 : decode b_Mo_writeHead 16 = .ok (.iload_n 1, 1) := by decide +kernel
theorem d_Mo_writeHead_17 : decode b_Mo_writeHead 17 = .ok (.iaload, 1) := by decide +kernel
theorem d_Mo_writeHead_18 : decode b_Mo_writeHead 18 = .ok (.ifCond .ge 9, 3) := by decide +kernel
theorem d_Mo_writeHead_21 : decode b_Mo_writeHead 21 = .ok (.aload_n 0, 1) := by decide +kernel
theorem d_Mo_writeHead_22 : decode b_Mo_writeHead 22 = .ok (.bipush 45, 2) := by decide +kernel
theorem d_Mo_writeHead_24 : decode b_Mo_writeHead 24 = .ok (.invokevirtual 306, 3) := by decide +kernel
theorem d_Mo_writeHead_27 : decode b_Mo_writeHead 27 = .ok (.aload_n 0, 1) := by decide +kernel
theorem d_Mo_writeHead_28 : decode b_Mo_writeHead 28 = .ok (.aload_n 0, 1) := by decide +kernel
theorem d_Mo_writeHead_29 : decode b_Mo_writeHead 29 = .ok (.getfield 44, 3) := by decide +kernel
theorem d_Mo_writeHead_32 : decode b_Mo_writeHead 32 = .ok (.iload_n 1, 1) := by decide +kernel
theorem d_Mo_writeHead_33 : decode b_Mo_writeHead 33 = .ok (.iaload, 1) := by decide +kernel
theorem d_Mo_writeHead_34 : decode b_Mo_writeHead 34 = .ok (.ifCond .ge 13, 3) := by decide +kernel
theorem d_Mo_writeHead_37 : decode b_Mo_writeHead 37 = .ok (.aload_n 0, 1) := by decide +kernel
theorem d_Mo_writeHead_38 : decode b_Mo_writeHead 38 = .ok (.getfield 44, 3) := by decide +kernel
theorem d_Mo_writeHead_41 : decode b_Mo_writeHead 41 = .ok (.iload_n 1, 1) := by decide +kernel
theorem d_Mo_writeHead_42 : decode b_Mo_writeHead 42 = .ok (.iaload, 1) := by decide +kernel
theorem d_Mo_writeHead_43 : decode b_Mo_writeHead 43 = .ok (.ineg, 1) := by decide +kernel
theorem d_Mo_writeHead_44 : decode b_Mo_writeHead 44 = .ok (.goto 9, 3) := by decide +kernel
theorem d_Mo_writeHead_47 : decode b_Mo_writeHead 47 = .ok (.aload_n 0, 1) := by decide +kernel
theorem d_Mo_writeHead_48 : decode b_Mo_writeHead 48 = .ok (.getfield 44, 3) := by decide +kernel
theorem d_Mo_writeHead_51 : decode b_Mo_writeHead 51 = .ok (.iload_n 1, 1) := by decide +kernel
theorem d_Mo_writeHead_52 : decode b_Mo_writeHead 52 = .ok (.iaload, 1) := by decide +kernel
theorem d_Mo_writeHead_53 : decode b_Mo_writeHead 53 = .ok (.invokevirtual 309, 3) := by decide +kernel
theorem d_Mo_writeHead_56 : decode b_Mo_writeHead 56 = .ok (.aload_n 0, 1) := by decide +kernel
theorem d_Mo_writeHead_57 : decode b_Mo_writeHead 57 = .ok (.getfield 47, 3) := by decide +kernel
theorem d_Mo_writeHead_60 : decode b_Mo_writeHead 60 = .ok (.iload_n 1, 1) := by decide +kernel
theorem d_Mo_writeHead_61 : decode b_Mo_writeHead 61 = .ok (.iaload, 1) := by decide +kernel
theorem d_Mo_writeHead_62 : decode b_Mo_writeHead 62 = .ok (.iconst 1, 1) := by decide +kernel
theorem d_Mo_writeHead_63 : decode b_Mo_writeHead 63 = .ok (.if_icmp .le 9, 3) := by decide +kernel
theorem d_Mo_writeHead_66 : decode b_Mo_writeHead 66 = .ok (.aload_n 0, 1) := by decide +kernel
theorem d_Mo_writeHead_67 : decode b_Mo_writeHead 67 = .ok (.bipush 47, 2) := by decide +kernel
theorem d_Mo_writeHead_69 : decode b_Mo_writeHead 69 = .ok (.invokevirtual 306, 3) := by decide +kernel
theorem d_Mo_writeHead_72 : decode b_Mo_writeHead 72 = .ok (.aload_n 0, 1) := by decide +kernel
theorem d_Mo_writeHead_73 : decode b_Mo_writeHead 73 = .ok (.getfield 47, 3) := by decide +kernel
theorem d_Mo_writeHead_76 : decode b_Mo_writeHead 76 = .ok (.iload_n 1, 1) := by decide +kernel
theorem d_Mo_writeHead_77 : decode b_Mo_writeHead 77 = .ok (.iaload, 1) := by decide +kernel
theorem d_Mo_writeHead_78 : decode b_Mo_writeHead 78 = .ok (.iconst 1, 1) := by decide +kernel
theorem d_Mo_writeHead_79 : decode b_Mo_writeHead 79 = .ok (.if_icmp .le 13, 3) := by decide +kernel
theorem d_Mo_writeHead_82 : decode b_Mo_writeHead 82 = .ok (.aload_n 0, 1) := by decide +kernel
theorem d_Mo_writeHead_83 : decode b_Mo_writeHead 83 = .ok (.aload_n 0, 1) := by decide +kernel
theorem d_Mo_writeHead_84 : decode b_Mo_writeHead 84 = .ok (.getfield 47, 3) := by decide +kernel
theorem d_Mo_writeHead_87 : decode b_Mo_writeHead 87 = .ok (.iload_n 1, 1) := by decide +kernel
theorem d_Mo_writeHead_88 : decode b_Mo_writeHead 88 = .ok (.iaload, 1) := by decide +kernel
theorem d_Mo_writeHead_89 : decode b_Mo_writeHead 89 = .ok (.invokevirtual 309, 3) := by decide +kernel
theorem d_Mo_writeHead_92 : decode b_Mo_writeHead 92 = .ok (.return_, 1) := by decide +kernel
theorem d_Mo_writeHead_93 : decode b_Mo_writeHead 93 = .ok (.aload_n 0, 1) := by decide +kernel
theorem d_Mo_writeHead_94 : decode b_Mo_writeHead 94 = .ok (.getfield 35, 3) := by decide +kernel
theorem d_Mo_writeHead_97 : decode b_Mo_writeHead 97 = .ok (.iload_n 1, 1) := by decide +kernel
theorem d_Mo_writeHead_98 : decode b_Mo_writeHead 98 = .ok (.iaload, 1) := by decide +kernel
theorem d_Mo_writeHead_99 : decode b_Mo_writeHead 99 = .ok (.ifCond .lt 9, 3) := by decide +kernel
theorem d_Mo_writeHead_102 : decode b_Mo_writeHead 102 = .ok (.aload_n 0, 1) := by decide +kernel
theorem d_Mo_writeHead_103 : decode b_Mo_writeHead 103 = .ok (.bipush 40, 2) := by decide +kernel
theorem d_Mo_writeHead_105 : decode b_Mo_writeHead 105 = .ok (.invokevirtual 306, 3) := by decide +kernel
theorem d_Mo_writeHead_108 : decode b_Mo_writeHead 108 = .ok (.aload_n 0, 1) := by decide +kernel
theorem d_Mo_writeHead_109 : decode b_Mo_writeHead 109 = .ok (.iload_n 2, 1) := by decide +kernel
theorem d_Mo_writeHead_110 : decode b_Mo_writeHead 110 = .ok (.ifCond .ne 15, 3) := by decide +kernel
theorem d_Mo_writeHead_113 : decode b_Mo_writeHead 113 = .ok (.bipush 97, 2) := by decide +kernel
theorem d_Mo_writeHead_115 : decode b_Mo_writeHead 115 = .ok (.aload_n 0, 1) := by decide +kernel
theorem d_Mo_writeHead_116 : decode b_Mo_writeHead 116 = .ok (.getfield 41, 3) := by decide +kernel
theorem d_Mo_writeHead_119 : decode b_Mo_writeHead 119 = .ok (.iload_n 1, 1) := by decide +kernel
theorem d_Mo_writeHead_120 : decode b_Mo_writeHead 120 = .ok (.iaload, 1) := by decide +kernel
theorem d_Mo_writeHead_121 : decode b_Mo_writeHead 121 = .ok (.iadd, 1) := by decide +kernel
theorem d_Mo_writeHead_122 : decode b_Mo_writeHead 122 = .ok (.goto 96, 3) := by decide +kernel
theorem d_Mo_writeHead_125 : decode b_Mo_writeHead 125 = .ok (.iload_n 2, 1) := by decide +kernel
theorem d_Mo_writeHead_126 : decode b_Mo_writeHead 126 = .ok (.iconst 1, 1) := by decide +kernel
theorem d_Mo_writeHead_127 : decode b_Mo_writeHead 127 = .ok (.if_icmp .ne 15, 3) := by decide +kernel
theorem d_Mo_writeHead_130 : decode b_Mo_writeHead 130 = .ok (.bipush 120, 2) := by decide +kernel
theorem d_Mo_writeHead_132 : decode b_Mo_writeHead 132 = .ok (.aload_n 0, 1) := by decide +kernel
theorem d_Mo_writeHead_133 : decode b_Mo_writeHead 133 = .ok (.getfield 41, 3) := by decide +kernel
theorem d_Mo_writeHead_136 : decode b_Mo_writeHead 136 = .ok (.iload_n 1, 1) := by decide +kernel
theorem d_Mo_writeHead_137 : decode b_Mo_writeHead 137 = .ok (.iaload, 1) := by decide +kernel
theorem d_Mo_writeHead_138 : decode b_Mo_writeHead 138 = .ok (.iadd, 1) := by decide +kernel
theorem d_Mo_writeHead_139 : decode b_Mo_writeHead 139 = .ok (.goto 79, 3) := by decide +kernel
theorem d_Mo_writeHead_142 : decode b_Mo_writeHead 142 = .ok (.iload_n 2, 1) := by decide +kernel
theorem d_Mo_writeHead_143 : decode b_Mo_writeHead 143 = .ok (.iconst 3, 1) := by decide +kernel
theorem d_Mo_writeHead_144 : decode b_Mo_writeHead 144 = .ok (.if_icmp .ne 8, 3) := by decide +kernel
theorem d_Mo_writeHead_147 : decode b_Mo_writeHead 147 = .ok (.bipush 43, 2) := by decide +kernel
theorem d_Mo_writeHead_149 : decode b_Mo_writeHead 149 = .ok (.goto 69, 3) := by decide +kernel
theorem d_Mo_writeHead_152 : decode b_Mo_writeHead 152 = .ok (.iload_n 2, 1) := by decide +kernel
theorem d_Mo_writeHead_153 : decode b_Mo_writeHead 153 = .ok (.iconst 4, 1) := by decide +kernel
theorem d_Mo_writeHead_154 : decode b_Mo_writeHead 154 = .ok (.if_icmp .ne 8, 3) := by decide +kernel
theorem d_Mo_writeHead_157 : decode b_Mo_writeHead 157 = .ok (.bipush 42, 2) := by decide +kernel
theorem d_Mo_writeHead_159 : decode b_Mo_writeHead 159 = .ok (.goto 59, 3) := by decide +kernel
theorem d_Mo_writeHead_162 : decode b_Mo_writeHead 162 = .ok (.iload_n 2, 1) := by decide +kernel
theorem d_Mo_writeHead_163 : decode b_Mo_writeHead 163 = .ok (.iconst 5, 1) := by decide +kernel
theorem d_Mo_writeHead_164 : decode b_Mo_writeHead 164 = .ok (.if_icmp .ne 8, 3) := by decide +kernel
theorem d_Mo_writeHead_167 : decode b_Mo_writeHead 167 = .ok (.bipush 61, 2) := by decide +kernel
theorem d_Mo_writeHead_169 : decode b_Mo_writeHead 169 = .ok (.goto 49, 3) := by decide +kernel
theorem d_Mo_writeHead_172 : decode b_Mo_writeHead 172 = .ok (.iload_n 2, 1) := by decide +kernel
theorem d_Mo_writeHead_173 : decode b_Mo_writeHead 173 = .ok (.bipush 6, 2) := by decide +kernel
theorem d_Mo_writeHead_175 : decode b_Mo_writeHead 175 = .ok (.if_icmp .ne 8, 3) := by decide +kernel
theorem d_Mo_writeHead_178 : decode b_Mo_writeHead 178 = .ok (.bipush 60, 2) := by decide +kernel
theorem d_Mo_writeHead_180 : decode b_Mo_writeHead 180 = .ok (.goto 38, 3) := by decide +kernel
theorem d_Mo_writeHead_183 : decode b_Mo_writeHead 183 = .ok (.iload_n 2, 1) := by decide +kernel
theorem d_Mo_writeHead_184 : decode b_Mo_writeHead 184 = .ok (.bipush 7, 2) := by decide +kernel
theorem d_Mo_writeHead_186 : decode b_Mo_writeHead 186 = .ok (.if_icmp .ne 8, 3) := by decide +kernel
theorem d_Mo_writeHead_189 : decode b_Mo_writeHead 189 = .ok (.bipush 126, 2) := by decide +kernel
theorem d_Mo_writeHead_191 : decode b_Mo_writeHead 191 = .ok (.goto 27, 3) := by decide +kernel
theorem d_Mo_writeHead_194 : decode b_Mo_writeHead 194 = .ok (.iload_n 2, 1) := by decide +kernel
theorem d_Mo_writeHead_195 : decode b_Mo_writeHead 195 = .ok (.bipush 8, 2) := by decide +kernel
theorem d_Mo_writeHead_197 : decode b_Mo_writeHead 197 = .ok (.if_icmp .ne 8, 3) := by decide +kernel
theorem d_Mo_writeHead_200 : decode b_Mo_writeHead 200 = .ok (.bipush 38, 2) := by decide +kernel
theorem d_Mo_writeHead_202 : decode b_Mo_writeHead 202 = .ok (.goto 16, 3) := by decide +kernel
theorem d_Mo_writeHead_205 : decode b_Mo_writeHead 205 = .ok (.iload_n 2, 1) := by decide +kernel
theorem d_Mo_writeHead_206 : decode b_Mo_writeHead 206 = .ok (.bipush 9, 2) := by decide +kernel
theorem d_Mo_writeHead_208 : decode b_Mo_writeHead 208 = .ok (.if_icmp .ne 8, 3) := by decide +kernel
theorem d_Mo_writeHead_211 : decode b_Mo_writeHead 211 = .ok (.bipush 124, 2) := by decide +kernel
theorem d_Mo_writeHead_213 : decode b_Mo_writeHead 213 = .ok (.goto 5, 3) := by decide +kernel
theorem d_Mo_writeHead_216 : decode b_Mo_writeHead 216 = .ok (.bipush 33, 2) := by decide +kernel
theorem d_Mo_writeHead_218 : decode b_Mo_writeHead 218 = .ok (.invokevirtual 306, 3) := by decide +kernel
theorem d_Mo_writeHead_221 : decode b_Mo_writeHead 221 = .ok (.iload_n 2, 1) := by decide +kernel
theorem d_Mo_writeHead_222 : decode b_Mo_writeHead 222 = .ok (.bipush 10, 2) := by decide +kernel
theorem d_Mo_writeHead_224 : decode b_Mo_writeHead 224 = .ok (.if_icmp .ne 22, 3) := by decide +kernel
theorem d_Mo_writeHead_227 : decode b_Mo_writeHead 227 = .ok (.aload_n 0, 1) := by decide +kernel
theorem d_Mo_writeHead_228 : decode b_Mo_writeHead 228 = .ok (.bipush 32, 2) := by decide +kernel
theorem d_Mo_writeHead_230 : decode b_Mo_writeHead 230 = .ok (.invokevirtual 306, 3) := by decide +kernel
theorem d_Mo_writeHead_233 : decode b_Mo_writeHead 233 = .ok (.aload_n 0, 1) := by decide +kernel
theorem d_Mo_writeHead_234 : decode b_Mo_writeHead 234 = .ok (.bipush 120, 2) := by decide +kernel
theorem d_Mo_writeHead_236 : decode b_Mo_writeHead 236 = .ok (.aload_n 0, 1) := by decide +kernel
theorem d_Mo_writeHead_237 : decode b_Mo_writeHead 237 = .ok (.getfield 41, 3) := by decide +kernel
theorem d_Mo_writeHead_240 : decode b_Mo_writeHead 240 = .ok (.iload_n 1, 1) := by decide +kernel
theorem d_Mo_writeHead_241 : decode b_Mo_writeHead 241 = .ok (.iaload, 1) := by decide +kernel
theorem d_Mo_writeHead_242 : decode b_Mo_writeHead 242 = .ok (.iadd, 1) := by decide +kernel
theorem d_Mo_writeHead_243 : decode b_Mo_writeHead 243 = .ok (.invokevirtual 306, 3) := by decide +kernel
theorem d_Mo_writeHead_246 : decode b_Mo_writeHead 246 = .ok (.return_, 1) := by decide +kernel
def f_Mo_writeHead_92 (σ : St) : St := σ
def k_Mo_writeHead_92 (σ : St) : Prop := True
def f_Mo_writeHead_72 (x1 : Int32) (σ : St) : St := if (σ.1 12 x1.toNatClampNeg) ≤ 1 then (f_Mo_writeHead_92 σ) else (f_Mo_writeHead_92 (f_Mo_writeNumber (σ.1 12 x1.toNatClampNeg) σ))
def k_Mo_writeHead_72 (x1 : Int32) (σ : St) : Prop := vp_in x1 400 ∧ (((σ.1 12 x1.toNatClampNeg) ≤ 1 → (k_Mo_writeHead_92 σ)) ∧ (¬ (σ.1 12 x1.toNatClampNeg) ≤ 1 → (vp_in x1 400 ∧ ((k_Mo_writeNumber (σ.1 12 x1.toNatClampNeg) σ) ∧ (k_Mo_writeHead_92 (f_Mo_writeNumber (σ.1 12 x1.toNatClampNeg) σ))))))
def f_Mo_writeHead_56 (x1 : Int32) (σ : St) : St := if (σ.1 12 x1.toNatClampNeg) ≤ 1 then (f_Mo_writeHead_72 x1 σ) else (f_Mo_writeHead_72 x1 (f_Mo_write 47 σ))
def k_Mo_writeHead_56 (x1 : Int32) (σ : St) : Prop := vp_in x1 400 ∧ (((σ.1 12 x1.toNatClampNeg) ≤ 1 → (k_Mo_writeHead_72 x1 σ)) ∧ (¬ (σ.1 12 x1.toNatClampNeg) ≤ 1 → ((k_Mo_write 47 σ) ∧ (k_Mo_writeHead_72 x1 (f_Mo_write 47 σ)))))
def f_Mo_writeHead_53 (x1 : Int32) (s0 : Int32) (σ : St) : St := f_Mo_writeHead_56 x1 (f_Mo_writeNumber s0 σ)
def k_Mo_writeHead_53 (x1 : Int32) (s0 : Int32) (σ : St) : Prop := (k_Mo_writeNumber s0 σ) ∧ (k_Mo_writeHead_56 x1 (f_Mo_writeNumber s0 σ))
def f_Mo_writeHead_27 (x1 : Int32) (σ : St) : St := if 0 ≤ (σ.1 11 x1.toNatClampNeg) then (f_Mo_writeHead_53 x1 (σ.1 11 x1.toNatClampNeg) σ) else (f_Mo_writeHead_53 x1 (-(σ.1 11 x1.toNatClampNeg)) σ)
def k_Mo_writeHead_27 (x1 : Int32) (σ : St) : Prop := vp_in x1 400 ∧ ((0 ≤ (σ.1 11 x1.toNatClampNeg) → (vp_in x1 400 ∧ (k_Mo_writeHead_53 x1 (σ.1 11 x1.toNatClampNeg) σ))) ∧ (¬ 0 ≤ (σ.1 11 x1.toNatClampNeg) → (vp_in x1 400 ∧ (k_Mo_writeHead_53 x1 (-(σ.1 11 x1.toNatClampNeg)) σ))))
def f_Mo_writeHead_246 (σ : St) : St := σ
def k_Mo_writeHead_246 (σ : St) : Prop := True
def f_Mo_writeHead_233 (x1 : Int32) (σ : St) : St := f_Mo_writeHead_246 (f_Mo_write (120 + (σ.1 10 x1.toNatClampNeg)) σ)
def k_Mo_writeHead_233 (x1 : Int32) (σ : St) : Prop := vp_in x1 400 ∧ ((k_Mo_write (120 + (σ.1 10 x1.toNatClampNeg)) σ) ∧ (k_Mo_writeHead_246 (f_Mo_write (120 + (σ.1 10 x1.toNatClampNeg)) σ)))
def f_Mo_writeHead_221 (x1 : Int32) (x2 : Int32) (σ : St) : St := if x2 = 10 then (f_Mo_writeHead_233 x1 (f_Mo_write 32 σ)) else (f_Mo_writeHead_246 σ)
def k_Mo_writeHead_221 (x1 : Int32) (x2 : Int32) (σ : St) : Prop := (x2 = 10 → ((k_Mo_write 32 σ) ∧ (k_Mo_writeHead_233 x1 (f_Mo_write 32 σ)))) ∧ (¬ x2 = 10 → (k_Mo_writeHead_246 σ))
def f_Mo_writeHead_218 (x1 : Int32) (x2 : Int32) (s0 : Int32) (σ : St) : St := f_Mo_writeHead_221 x1 x2 (f_Mo_write s0 σ)
def k_Mo_writeHead_218 (x1 : Int32) (x2 : Int32) (s0 : Int32) (σ : St) : Prop := (k_Mo_write s0 σ) ∧ (k_Mo_writeHead_221 x1 x2 (f_Mo_write s0 σ))
def f_Mo_writeHead_108 (x1 : Int32) (x2 : Int32) (σ : St) : St := if x2 = 0 then (f_Mo_writeHead_218 x1 x2 (97 + (σ.1 10 x1.toNatClampNeg)) σ) else (if x2 = 1 then (f_Mo_writeHead_218 x1 x2 (120 + (σ.1 10 x1.toNatClampNeg)) σ) else (if x2 = 3 then (f_Mo_writeHead_218 x1 x2 43 σ) else (if x2 = 4 then (f_Mo_writeHead_218 x1 x2 42 σ) else (if x2 = 5 then (f_Mo_writeHead_218 x1 x2 61 σ) else (if x2 = 6 then (f_Mo_writeHead_218 x1 x2 60 σ) else (if x2 = 7 then (f_Mo_writeHead_218 x1 x2 126 σ) else (if x2 = 8 then (f_Mo_writeHead_218 x1 x2 38 σ) else (if x2 = 9 then (f_Mo_writeHead_218 x1 x2 124 σ) else (f_Mo_writeHead_218 x1 x2 33 σ)))))))))
def k_Mo_writeHead_108 (x1 : Int32) (x2 : Int32) (σ : St) : Prop := (x2 = 0 → (vp_in x1 400 ∧ (k_Mo_writeHead_218 x1 x2 (97 + (σ.1 10 x1.toNatClampNeg)) σ))) ∧ (¬ x2 = 0 → ((x2 = 1 → (vp_in x1 400 ∧ (k_Mo_writeHead_218 x1 x2 (120 + (σ.1 10 x1.toNatClampNeg)) σ))) ∧ (¬ x2 = 1 → ((x2 = 3 → (k_Mo_writeHead_218 x1 x2 43 σ)) ∧ (¬ x2 = 3 → ((x2 = 4 → (k_Mo_writeHead_218 x1 x2 42 σ)) ∧ (¬ x2 = 4 → ((x2 = 5 → (k_Mo_writeHead_218 x1 x2 61 σ)) ∧ (¬ x2 = 5 → ((x2 = 6 → (k_Mo_writeHead_218 x1 x2 60 σ)) ∧ (¬ x2 = 6 → ((x2 = 7 → (k_Mo_writeHead_218 x1 x2 126 σ)) ∧ (¬ x2 = 7 → ((x2 = 8 → (k_Mo_writeHead_218 x1 x2 38 σ)) ∧ (¬ x2 = 8 → ((x2 = 9 → (k_Mo_writeHead_218 x1 x2 124 σ)) ∧ (¬ x2 = 9 → (k_Mo_writeHead_218 x1 x2 33 σ))))))))))))))))))
def f_Mo_writeHead_7 (x1 : Int32) (x2 : Int32) (σ : St) : St := if x2 = 2 then (if 0 ≤ (σ.1 11 x1.toNatClampNeg) then (f_Mo_writeHead_27 x1 σ) else (f_Mo_writeHead_27 x1 (f_Mo_write 45 σ))) else (if (σ.1 8 x1.toNatClampNeg) < 0 then (f_Mo_writeHead_108 x1 x2 σ) else (f_Mo_writeHead_108 x1 x2 (f_Mo_write 40 σ)))
def k_Mo_writeHead_7 (x1 : Int32) (x2 : Int32) (σ : St) : Prop := (x2 = 2 → (vp_in x1 400 ∧ ((0 ≤ (σ.1 11 x1.toNatClampNeg) → (k_Mo_writeHead_27 x1 σ)) ∧ (¬ 0 ≤ (σ.1 11 x1.toNatClampNeg) → ((k_Mo_write 45 σ) ∧ (k_Mo_writeHead_27 x1 (f_Mo_write 45 σ))))))) ∧ (¬ x2 = 2 → (vp_in x1 400 ∧ (((σ.1 8 x1.toNatClampNeg) < 0 → (k_Mo_writeHead_108 x1 x2 σ)) ∧ (¬ (σ.1 8 x1.toNatClampNeg) < 0 → ((k_Mo_write 40 σ) ∧ (k_Mo_writeHead_108 x1 x2 (f_Mo_write 40 σ)))))))
def f_Mo_writeHead (a1 : Int32) (σ : St) : St := f_Mo_writeHead_7 a1 (σ.1 5 a1.toNatClampNeg) σ
def k_Mo_writeHead (a1 : Int32) (σ : St) : Prop := vp_in a1 400 ∧ (k_Mo_writeHead_7 a1 (σ.1 5 a1.toNatClampNeg) σ)
abbrev w_Mo_writeHead : List Cond := Cond.code y_Mo_writeHead b_Mo_writeHead 3 none :: gw
abbrev rm_Mo_writeHead : Room := { frames := 2, cells := 0, slots := 0, locals := 43 }
set_option maxHeartbeats 4000000 in
set_option maxRecDepth 100000 in
theorem c_Mo_writeHead (l : Launch) (D : va_G) (ty : Nat → ClassId) (h : Nat → Nat) (px : va_W) (sa : Nat → Nat) (σ : St) (sz : Nat) (a1 : Int32) (hk : k_Mo_writeHead a1 σ) : Met l y_Mo_writeHead w_Mo_writeHead rm_Mo_writeHead (va_Pc [.ref (h 0), .int a1] (fun U => U.heap.size = sz ∧ va_P D classes (Wm ty h σ px) U.heap ∧ va_K D classes (Ta ty) U ∧ NW U ∧ MK sa (va_A (Wm ty h σ px) sz) U U.heap ∧ va_D (fun _ => True) (Wm ty h σ px))) (va_Qv (fun u : St => u = f_Mo_writeHead a1 σ) (fun u t => va_P D classes (Wm ty h u px) t.heap) (va_A (Wm ty h σ px) sz)) 0 0 (va_A (Wm ty h σ px) sz) := by
  refine Met.ofW (cc := b_Mo_writeHead) (maxL := 3) (ret := none) (by decide) rfl ?_
  intro p e s m args below meth c s₁ B hml hv
  obtain ⟨ha, hsz, hP, hK, hN, hM, hD0⟩ := hv
  have hx := B.exec
  have hb := B.bytes
  have hr := B.returns
  have hg : ∀ w ∈ gw, w.before args s = true := fun w h9 => atoms_spec (ws := w_Mo_writeHead) B.pre w (List.mem_cons_of_mem _ h9)
  have hown : s.vm.findClass "ClauseLedgerModel" = some m.cls := findClass_of_methodNamed B.named
  have hlocks := B.notSynchronized
  subst hsz
  have hD := hD0.self (sz := s.heap.size)
  generalize hAe : va_A (Wm ty h σ px) s.heap.size = A at hD hM ⊢
  have hA : ∀ q : Nat, s.heap.size ≤ q → A q := fun q h9 => by rw [← hAe]; exact Or.inr h9
  have hS : va_S A s.heap s.heap [] := va_S.rf
  have he : entryFrame m args 3 = entryFrame m ([.ref (h 0), .int a1] : List Value).toArray 3 := by rw [ha]
  rw [he, lg_entry_eq]
  have hl := lv_entry ([.ref (h 0), .int a1]) (n := 3) (Nat.le_of_ble_eq_true rfl)
  generalize (lg_sl ([.ref (h 0), .int a1]) ++ List.replicate (3 - (lg_sl ([.ref (h 0), .int a1])).length) Slot.unset).toArray = ls at hl ⊢
  have hl : lv_has ls 3 [(0, .ref (h 0)), (1, .int a1)] := hl
  generalize hv : f_Mo_writeHead a1 σ = v
  replace hv := hv.symm
  have B92 : ∀ (H : Heap) (locs : List Loc) (ls : Array Slot) (σ : St), v = f_Mo_writeHead_92 σ → k_Mo_writeHead_92 σ → lv_has ls 3 [] → va_P D classes (Wm ty h σ px) H → va_D A (Wm ty h σ px) → va_S A s.heap H locs → W p l e (headSpec w_Mo_writeHead rm_Mo_writeHead).room s m args below meth c H locs 0 0 (MQ below (va_Qv (fun u : St => u = v) (fun u t => va_P D classes (Wm ty h u px) t.heap) A) args s 0 0 A) (F0 m 92 ls []) := by
    intro H locs ls σ hv hk hl hP hD hS
    unfold f_Mo_writeHead_92 at hv
    unfold k_Mo_writeHead_92 at hk
    exact W.vret hx hb hr (fun t ht hW => ⟨⟨_, rfl, hv.symm, by dsimp only; rw [ht]; exact hP⟩, hS.F ht⟩) hS.2.2 d_Mo_writeHead_92
  have B72 : ∀ (H : Heap) (locs : List Loc) (ls : Array Slot) (x1 : Int32) (σ : St), v = f_Mo_writeHead_72 x1 σ → k_Mo_writeHead_72 x1 σ → lv_has ls 3 [(0, .ref (h 0)), (1, .int x1)] → va_P D classes (Wm ty h σ px) H → va_D A (Wm ty h σ px) → va_S A s.heap H locs → W p l e (headSpec w_Mo_writeHead rm_Mo_writeHead).room s m args below meth c H locs 0 0 (MQ below (va_Qv (fun u : St => u = v) (fun u t => va_P D classes (Wm ty h u px) t.heap) A) args s 0 0 A) (F0 m 72 ls []) := by
    intro H locs ls x1 σ hv hk hl hP hD hS
    unfold f_Mo_writeHead_72 at hv
    unfold k_Mo_writeHead_72 at hk
    refine lv_aload_n hx hb d_Mo_writeHead_72 rfl (lv_at hl 0 rfl) ?_
    refine va_get (v := .ref (h 12)) (C := R_Mo) (T := T_Mo) (N := 51) hx hb hg in_Mo hown hK hP 0 rfl rfl 17 (by decide) (hg _ m_1276) (fun _ h9 => h9) rfl d_Mo_writeHead_73 ?_
    refine lv_iload_n hx hb d_Mo_writeHead_76 rfl (lv_at hl 1 rfl) ?_
    obtain ⟨hk0, hk⟩ := hk
    refine va_iald hx hb hK hP 12 0 rfl rfl hk0 d_Mo_writeHead_77 ?_
    refine lv_iconst (v := 1) hx hb d_Mo_writeHead_78 (by decide) ?_
    refine lv_icmp_le (tgt := 92) hx hb d_Mo_writeHead_79 (by decide) (fun hc => ?_) (fun hc => ?_)
    · have hv := hv.trans (if_pos hc)
      have hk := hk.1 hc
      exact B92 _ _ _  σ hv hk (lv_sub hl [] rfl) hP hD hS
    · have hv := hv.trans (if_neg hc)
      have hk := hk.2 hc
      refine lv_aload_n hx hb d_Mo_writeHead_82 rfl (lv_at hl 0 rfl) ?_
      refine lv_aload_n hx hb d_Mo_writeHead_83 rfl (lv_at hl 0 rfl) ?_
      refine va_get (v := .ref (h 12)) (C := R_Mo) (T := T_Mo) (N := 51) hx hb hg in_Mo hown hK hP 0 rfl rfl 17 (by decide) (hg _ m_1276) (fun _ h9 => h9) rfl d_Mo_writeHead_84 ?_
      refine lv_iload_n hx hb d_Mo_writeHead_87 rfl (lv_at hl 1 rfl) ?_
      obtain ⟨hk0, hk⟩ := hk
      refine va_iald hx hb hK hP 12 0 rfl rfl hk0 d_Mo_writeHead_88 ?_
      obtain ⟨hk0, hk⟩ := hk
      refine va_callv (va_runV (As := [.int (σ.1 12 x1.toNatClampNeg)]) (rest := []) ⟨hx, hb, hml, hown, hg⟩ (c_Mo_writeNumber l D ty h px sa σ H.size (σ.1 12 x1.toNatClampNeg) hk0) ⟨callB_of 1 hg (gw_C m_1672) rfl rfl rfl (hg _ m_13) (hg _ m_1669) hd_Mo_writeNumber ⟨Nat.le_of_ble_eq_true rfl, Nat.le_of_ble_eq_true rfl⟩, hg _ m_1671, hg _ ms_85⟩ (zz_preVW hM hS hA hN hK hP hD 0 rfl rfl) rfl rfl hl.1 rfl (lv_room (Nat.le_of_ble_eq_true rfl)) d_Mo_writeHead_89 ⟨Nat.le_of_ble_eq_true rfl, Nat.le_of_ble_eq_true rfl⟩) hS (fun q _ h => zz_free hD hS hA q h) (zz_free hD hS hA) (fun u89 t H locs ht hvm hp hP1 hz hk1 hS => ?_)
      rw [ht] at hP1
      rw [← hp] at hv hk
      have hD : va_D A (Wm ty h u89 px) := zz_D hD rfl
      have hP := hP1
      exact B92 _ _ _  u89 hv hk (lv_sub hl [] rfl) hP hD hS
  have B56 : ∀ (H : Heap) (locs : List Loc) (ls : Array Slot) (x1 : Int32) (σ : St), v = f_Mo_writeHead_56 x1 σ → k_Mo_writeHead_56 x1 σ → lv_has ls 3 [(0, .ref (h 0)), (1, .int x1)] → va_P D classes (Wm ty h σ px) H → va_D A (Wm ty h σ px) → va_S A s.heap H locs → W p l e (headSpec w_Mo_writeHead rm_Mo_writeHead).room s m args below meth c H locs 0 0 (MQ below (va_Qv (fun u : St => u = v) (fun u t => va_P D classes (Wm ty h u px) t.heap) A) args s 0 0 A) (F0 m 56 ls []) := by
    intro H locs ls x1 σ hv hk hl hP hD hS
    unfold f_Mo_writeHead_56 at hv
    unfold k_Mo_writeHead_56 at hk
    refine lv_aload_n hx hb d_Mo_writeHead_56 rfl (lv_at hl 0 rfl) ?_
    refine va_get (v := .ref (h 12)) (C := R_Mo) (T := T_Mo) (N := 51) hx hb hg in_Mo hown hK hP 0 rfl rfl 17 (by decide) (hg _ m_1276) (fun _ h9 => h9) rfl d_Mo_writeHead_57 ?_
    refine lv_iload_n hx hb d_Mo_writeHead_60 rfl (lv_at hl 1 rfl) ?_
    obtain ⟨hk0, hk⟩ := hk
    refine va_iald hx hb hK hP 12 0 rfl rfl hk0 d_Mo_writeHead_61 ?_
    refine lv_iconst (v := 1) hx hb d_Mo_writeHead_62 (by decide) ?_
    refine lv_icmp_le (tgt := 72) hx hb d_Mo_writeHead_63 (by decide) (fun hc => ?_) (fun hc => ?_)
    · have hv := hv.trans (if_pos hc)
      have hk := hk.1 hc
      exact B72 _ _ _ x1 σ hv hk (lv_sub hl [0, 1] rfl) hP hD hS
    · have hv := hv.trans (if_neg hc)
      have hk := hk.2 hc
      refine lv_aload_n hx hb d_Mo_writeHead_66 rfl (lv_at hl 0 rfl) ?_
      refine lv_bipush (v := 47) hx hb d_Mo_writeHead_67 (by decide) ?_
      obtain ⟨hk0, hk⟩ := hk
      refine va_callv (va_runV (As := [.int 47]) (rest := []) ⟨hx, hb, hml, hown, hg⟩ (c_Mo_write l D ty h px sa σ H.size 47 hk0) ⟨callB_of 1 hg (gw_C m_1668) rfl rfl rfl (hg _ m_13) (hg _ m_1665) hd_Mo_write ⟨Nat.le_of_ble_eq_true rfl, Nat.le_of_ble_eq_true rfl⟩, hg _ m_1667, hg _ ms_84⟩ (zz_preVW hM hS hA hN hK hP hD 0 rfl rfl) rfl rfl hl.1 rfl (lv_room (Nat.le_of_ble_eq_true rfl)) d_Mo_writeHead_69 ⟨Nat.le_of_ble_eq_true rfl, Nat.le_of_ble_eq_true rfl⟩) hS (fun q _ h => zz_free hD hS hA q h) (zz_free hD hS hA) (fun u69 t H locs ht hvm hp hP1 hz hk1 hS => ?_)
      rw [ht] at hP1
      rw [← hp] at hv hk
      have hD : va_D A (Wm ty h u69 px) := zz_D hD rfl
      have hP := hP1
      exact B72 _ _ _ x1 u69 hv hk (lv_sub hl [0, 1] rfl) hP hD hS
  have B53 : ∀ (H : Heap) (locs : List Loc) (ls : Array Slot) (x1 : Int32) (s0 : Int32) (σ : St), v = f_Mo_writeHead_53 x1 s0 σ → k_Mo_writeHead_53 x1 s0 σ → lv_has ls 3 [(0, .ref (h 0)), (1, .int x1)] → va_P D classes (Wm ty h σ px) H → va_D A (Wm ty h σ px) → va_S A s.heap H locs → W p l e (headSpec w_Mo_writeHead rm_Mo_writeHead).room s m args below meth c H locs 0 0 (MQ below (va_Qv (fun u : St => u = v) (fun u t => va_P D classes (Wm ty h u px) t.heap) A) args s 0 0 A) (F0 m 53 ls [.int s0, .ref (h 0)]) := by
    intro H locs ls x1 s0 σ hv hk hl hP hD hS
    unfold f_Mo_writeHead_53 at hv
    unfold k_Mo_writeHead_53 at hk
    obtain ⟨hk0, hk⟩ := hk
    refine va_callv (va_runV (As := [.int s0]) (rest := []) ⟨hx, hb, hml, hown, hg⟩ (c_Mo_writeNumber l D ty h px sa σ H.size s0 hk0) ⟨callB_of 1 hg (gw_C m_1672) rfl rfl rfl (hg _ m_13) (hg _ m_1669) hd_Mo_writeNumber ⟨Nat.le_of_ble_eq_true rfl, Nat.le_of_ble_eq_true rfl⟩, hg _ m_1671, hg _ ms_85⟩ (zz_preVW hM hS hA hN hK hP hD 0 rfl rfl) rfl rfl hl.1 rfl (lv_room (Nat.le_of_ble_eq_true rfl)) d_Mo_writeHead_53 ⟨Nat.le_of_ble_eq_true rfl, Nat.le_of_ble_eq_true rfl⟩) hS (fun q _ h => zz_free hD hS hA q h) (zz_free hD hS hA) (fun u53 t H locs ht hvm hp hP1 hz hk1 hS => ?_)
    rw [ht] at hP1
    rw [← hp] at hv hk
    have hD : va_D A (Wm ty h u53 px) := zz_D hD rfl
    have hP := hP1
    exact B56 _ _ _ x1 u53 hv hk (lv_sub hl [0, 1] rfl) hP hD hS
  have B27 : ∀ (H : Heap) (locs : List Loc) (ls : Array Slot) (x1 : Int32) (σ : St), v = f_Mo_writeHead_27 x1 σ → k_Mo_writeHead_27 x1 σ → lv_has ls 3 [(0, .ref (h 0)), (1, .int x1)] → va_P D classes (Wm ty h σ px) H → va_D A (Wm ty h σ px) → va_S A s.heap H locs → W p l e (headSpec w_Mo_writeHead rm_Mo_writeHead).room s m args below meth c H locs 0 0 (MQ below (va_Qv (fun u : St => u = v) (fun u t => va_P D classes (Wm ty h u px) t.heap) A) args s 0 0 A) (F0 m 27 ls []) := by
    intro H locs ls x1 σ hv hk hl hP hD hS
    unfold f_Mo_writeHead_27 at hv
    unfold k_Mo_writeHead_27 at hk
    refine lv_aload_n hx hb d_Mo_writeHead_27 rfl (lv_at hl 0 rfl) ?_
    refine lv_aload_n hx hb d_Mo_writeHead_28 rfl (lv_at hl 0 rfl) ?_
    refine va_get (v := .ref (h 11)) (C := R_Mo) (T := T_Mo) (N := 51) hx hb hg in_Mo hown hK hP 0 rfl rfl 16 (by decide) (hg _ m_1275) (fun _ h9 => h9) rfl d_Mo_writeHead_29 ?_
    refine lv_iload_n hx hb d_Mo_writeHead_32 rfl (lv_at hl 1 rfl) ?_
    obtain ⟨hk0, hk⟩ := hk
    refine va_iald hx hb hK hP 11 0 rfl rfl hk0 d_Mo_writeHead_33 ?_
    refine lv_if_ge (tgt := 47) hx hb d_Mo_writeHead_34 (by decide) (fun hc => ?_) (fun hc => ?_)
    · have hv := hv.trans (if_pos hc)
      have hk := hk.1 hc
      refine lv_aload_n hx hb d_Mo_writeHead_47 rfl (lv_at hl 0 rfl) ?_
      refine va_get (v := .ref (h 11)) (C := R_Mo) (T := T_Mo) (N := 51) hx hb hg in_Mo hown hK hP 0 rfl rfl 16 (by decide) (hg _ m_1275) (fun _ h9 => h9) rfl d_Mo_writeHead_48 ?_
      refine lv_iload_n hx hb d_Mo_writeHead_51 rfl (lv_at hl 1 rfl) ?_
      obtain ⟨hk0, hk⟩ := hk
      refine va_iald hx hb hK hP 11 0 rfl rfl hk0 d_Mo_writeHead_52 ?_
      exact B53 _ _ _ x1 (σ.1 11 x1.toNatClampNeg) σ hv hk (lv_sub hl [0, 1] rfl) hP hD hS
    · have hv := hv.trans (if_neg hc)
      have hk := hk.2 hc
      refine lv_aload_n hx hb d_Mo_writeHead_37 rfl (lv_at hl 0 rfl) ?_
      refine va_get (v := .ref (h 11)) (C := R_Mo) (T := T_Mo) (N := 51) hx hb hg in_Mo hown hK hP 0 rfl rfl 16 (by decide) (hg _ m_1275) (fun _ h9 => h9) rfl d_Mo_writeHead_38 ?_
      refine lv_iload_n hx hb d_Mo_writeHead_41 rfl (lv_at hl 1 rfl) ?_
      obtain ⟨hk0, hk⟩ := hk
      refine va_iald hx hb hK hP 11 0 rfl rfl hk0 d_Mo_writeHead_42 ?_
      refine lv_ineg hx hb d_Mo_writeHead_43 ?_
      refine lv_goto (tgt := 53) hx hb d_Mo_writeHead_44 (by decide) ?_
      exact B53 _ _ _ x1 (-(σ.1 11 x1.toNatClampNeg)) σ hv hk (lv_sub hl [0, 1] rfl) hP hD hS
  have B246 : ∀ (H : Heap) (locs : List Loc) (ls : Array Slot) (σ : St), v = f_Mo_writeHead_246 σ → k_Mo_writeHead_246 σ → lv_has ls 3 [] → va_P D classes (Wm ty h σ px) H → va_D A (Wm ty h σ px) → va_S A s.heap H locs → W p l e (headSpec w_Mo_writeHead rm_Mo_writeHead).room s m args below meth c H locs 0 0 (MQ below (va_Qv (fun u : St => u = v) (fun u t => va_P D classes (Wm ty h u px) t.heap) A) args s 0 0 A) (F0 m 246 ls []) := by
    intro H locs ls σ hv hk hl hP hD hS
    unfold f_Mo_writeHead_246 at hv
    unfold k_Mo_writeHead_246 at hk
    exact W.vret hx hb hr (fun t ht hW => ⟨⟨_, rfl, hv.symm, by dsimp only; rw [ht]; exact hP⟩, hS.F ht⟩) hS.2.2 d_Mo_writeHead_246
  have B233 : ∀ (H : Heap) (locs : List Loc) (ls : Array Slot) (x1 : Int32) (σ : St), v = f_Mo_writeHead_233 x1 σ → k_Mo_writeHead_233 x1 σ → lv_has ls 3 [(0, .ref (h 0)), (1, .int x1)] → va_P D classes (Wm ty h σ px) H → va_D A (Wm ty h σ px) → va_S A s.heap H locs → W p l e (headSpec w_Mo_writeHead rm_Mo_writeHead).room s m args below meth c H locs 0 0 (MQ below (va_Qv (fun u : St => u = v) (fun u t => va_P D classes (Wm ty h u px) t.heap) A) args s 0 0 A) (F0 m 233 ls []) := by
    intro H locs ls x1 σ hv hk hl hP hD hS
    unfold f_Mo_writeHead_233 at hv
    unfold k_Mo_writeHead_233 at hk
    refine lv_aload_n hx hb d_Mo_writeHead_233 rfl (lv_at hl 0 rfl) ?_
    refine lv_bipush (v := 120) hx hb d_Mo_writeHead_234 (by decide) ?_
    refine lv_aload_n hx hb d_Mo_writeHead_236 rfl (lv_at hl 0 rfl) ?_
    refine va_get (v := .ref (h 10)) (C := R_Mo) (T := T_Mo) (N := 51) hx hb hg in_Mo hown hK hP 0 rfl rfl 15 (by decide) (hg _ m_1274) (fun _ h9 => h9) rfl d_Mo_writeHead_237 ?_
    refine lv_iload_n hx hb d_Mo_writeHead_240 rfl (lv_at hl 1 rfl) ?_
    obtain ⟨hk0, hk⟩ := hk
    refine va_iald hx hb hK hP 10 0 rfl rfl hk0 d_Mo_writeHead_241 ?_
    refine lv_iadd hx hb d_Mo_writeHead_242 ?_
    obtain ⟨hk0, hk⟩ := hk
    refine va_callv (va_runV (As := [.int (120 + (σ.1 10 x1.toNatClampNeg))]) (rest := []) ⟨hx, hb, hml, hown, hg⟩ (c_Mo_write l D ty h px sa σ H.size (120 + (σ.1 10 x1.toNatClampNeg)) hk0) ⟨callB_of 1 hg (gw_C m_1668) rfl rfl rfl (hg _ m_13) (hg _ m_1665) hd_Mo_write ⟨Nat.le_of_ble_eq_true rfl, Nat.le_of_ble_eq_true rfl⟩, hg _ m_1667, hg _ ms_84⟩ (zz_preVW hM hS hA hN hK hP hD 0 rfl rfl) rfl rfl hl.1 rfl (lv_room (Nat.le_of_ble_eq_true rfl)) d_Mo_writeHead_243 ⟨Nat.le_of_ble_eq_true rfl, Nat.le_of_ble_eq_true rfl⟩) hS (fun q _ h => zz_free hD hS hA q h) (zz_free hD hS hA) (fun u243 t H locs ht hvm hp hP1 hz hk1 hS => ?_)
    rw [ht] at hP1
    rw [← hp] at hv hk
    have hD : va_D A (Wm ty h u243 px) := zz_D hD rfl
    have hP := hP1
    exact B246 _ _ _  u243 hv hk (lv_sub hl [] rfl) hP hD hS
  have B221 : ∀ (H : Heap) (locs : List Loc) (ls : Array Slot) (x1 : Int32) (x2 : Int32) (σ : St), v = f_Mo_writeHead_221 x1 x2 σ → k_Mo_writeHead_221 x1 x2 σ → lv_has ls 3 [(0, .ref (h 0)), (1, .int x1), (2, .int x2)] → va_P D classes (Wm ty h σ px) H → va_D A (Wm ty h σ px) → va_S A s.heap H locs → W p l e (headSpec w_Mo_writeHead rm_Mo_writeHead).room s m args below meth c H locs 0 0 (MQ below (va_Qv (fun u : St => u = v) (fun u t => va_P D classes (Wm ty h u px) t.heap) A) args s 0 0 A) (F0 m 221 ls []) := by
    intro H locs ls x1 x2 σ hv hk hl hP hD hS
    unfold f_Mo_writeHead_221 at hv
    unfold k_Mo_writeHead_221 at hk
    refine lv_iload_n hx hb d_Mo_writeHead_221 rfl (lv_at hl 2 rfl) ?_
    refine lv_bipush (v := 10) hx hb d_Mo_writeHead_222 (by decide) ?_
    refine lv_icmp_ne (tgt := 246) hx hb d_Mo_writeHead_224 (by decide) (fun hc => ?_) (fun hc => ?_)
    · have hv := hv.trans (if_neg hc)
      have hk := hk.2 hc
      exact B246 _ _ _  σ hv hk (lv_sub hl [] rfl) hP hD hS
    · have hv := hv.trans (if_pos hc)
      have hk := hk.1 hc
      refine lv_aload_n hx hb d_Mo_writeHead_227 rfl (lv_at hl 0 rfl) ?_
      refine lv_bipush (v := 32) hx hb d_Mo_writeHead_228 (by decide) ?_
      obtain ⟨hk0, hk⟩ := hk
      refine va_callv (va_runV (As := [.int 32]) (rest := []) ⟨hx, hb, hml, hown, hg⟩ (c_Mo_write l D ty h px sa σ H.size 32 hk0) ⟨callB_of 1 hg (gw_C m_1668) rfl rfl rfl (hg _ m_13) (hg _ m_1665) hd_Mo_write ⟨Nat.le_of_ble_eq_true rfl, Nat.le_of_ble_eq_true rfl⟩, hg _ m_1667, hg _ ms_84⟩ (zz_preVW hM hS hA hN hK hP hD 0 rfl rfl) rfl rfl hl.1 rfl (lv_room (Nat.le_of_ble_eq_true rfl)) d_Mo_writeHead_230 ⟨Nat.le_of_ble_eq_true rfl, Nat.le_of_ble_eq_true rfl⟩) hS (fun q _ h => zz_free hD hS hA q h) (zz_free hD hS hA) (fun u230 t H locs ht hvm hp hP1 hz hk1 hS => ?_)
      rw [ht] at hP1
      rw [← hp] at hv hk
      have hD : va_D A (Wm ty h u230 px) := zz_D hD rfl
      have hP := hP1
      exact B233 _ _ _ x1 u230 hv hk (lv_sub hl [0, 1] rfl) hP hD hS
  have B218 : ∀ (H : Heap) (locs : List Loc) (ls : Array Slot) (x1 : Int32) (x2 : Int32) (s0 : Int32) (σ : St), v = f_Mo_writeHead_218 x1 x2 s0 σ → k_Mo_writeHead_218 x1 x2 s0 σ → lv_has ls 3 [(0, .ref (h 0)), (1, .int x1), (2, .int x2)] → va_P D classes (Wm ty h σ px) H → va_D A (Wm ty h σ px) → va_S A s.heap H locs → W p l e (headSpec w_Mo_writeHead rm_Mo_writeHead).room s m args below meth c H locs 0 0 (MQ below (va_Qv (fun u : St => u = v) (fun u t => va_P D classes (Wm ty h u px) t.heap) A) args s 0 0 A) (F0 m 218 ls [.int s0, .ref (h 0)]) := by
    intro H locs ls x1 x2 s0 σ hv hk hl hP hD hS
    unfold f_Mo_writeHead_218 at hv
    unfold k_Mo_writeHead_218 at hk
    obtain ⟨hk0, hk⟩ := hk
    refine va_callv (va_runV (As := [.int s0]) (rest := []) ⟨hx, hb, hml, hown, hg⟩ (c_Mo_write l D ty h px sa σ H.size s0 hk0) ⟨callB_of 1 hg (gw_C m_1668) rfl rfl rfl (hg _ m_13) (hg _ m_1665) hd_Mo_write ⟨Nat.le_of_ble_eq_true rfl, Nat.le_of_ble_eq_true rfl⟩, hg _ m_1667, hg _ ms_84⟩ (zz_preVW hM hS hA hN hK hP hD 0 rfl rfl) rfl rfl hl.1 rfl (lv_room (Nat.le_of_ble_eq_true rfl)) d_Mo_writeHead_218 ⟨Nat.le_of_ble_eq_true rfl, Nat.le_of_ble_eq_true rfl⟩) hS (fun q _ h => zz_free hD hS hA q h) (zz_free hD hS hA) (fun u218 t H locs ht hvm hp hP1 hz hk1 hS => ?_)
    rw [ht] at hP1
    rw [← hp] at hv hk
    have hD : va_D A (Wm ty h u218 px) := zz_D hD rfl
    have hP := hP1
    exact B221 _ _ _ x1 x2 u218 hv hk (lv_sub hl [0, 1, 2] rfl) hP hD hS
  have B108 : ∀ (H : Heap) (locs : List Loc) (ls : Array Slot) (x1 : Int32) (x2 : Int32) (σ : St), v = f_Mo_writeHead_108 x1 x2 σ → k_Mo_writeHead_108 x1 x2 σ → lv_has ls 3 [(0, .ref (h 0)), (1, .int x1), (2, .int x2)] → va_P D classes (Wm ty h σ px) H → va_D A (Wm ty h σ px) → va_S A s.heap H locs → W p l e (headSpec w_Mo_writeHead rm_Mo_writeHead).room s m args below meth c H locs 0 0 (MQ below (va_Qv (fun u : St => u = v) (fun u t => va_P D classes (Wm ty h u px) t.heap) A) args s 0 0 A) (F0 m 108 ls []) := by
    intro H locs ls x1 x2 σ hv hk hl hP hD hS
    unfold f_Mo_writeHead_108 at hv
    unfold k_Mo_writeHead_108 at hk
    refine lv_aload_n hx hb d_Mo_writeHead_108 rfl (lv_at hl 0 rfl) ?_
    refine lv_iload_n hx hb d_Mo_writeHead_109 rfl (lv_at hl 2 rfl) ?_
    refine lv_if_ne (tgt := 125) hx hb d_Mo_writeHead_110 (by decide) (fun hc => ?_) (fun hc => ?_)
    · have hv := hv.trans (if_neg hc)
      have hk := hk.2 hc
      refine lv_iload_n hx hb d_Mo_writeHead_125 rfl (lv_at hl 2 rfl) ?_
      refine lv_iconst (v := 1) hx hb d_Mo_writeHead_126 (by decide) ?_
      refine lv_icmp_ne (tgt := 142) hx hb d_Mo_writeHead_127 (by decide) (fun hc => ?_) (fun hc => ?_)
      · have hv := hv.trans (if_neg hc)
        have hk := hk.2 hc
        refine lv_iload_n hx hb d_Mo_writeHead_142 rfl (lv_at hl 2 rfl) ?_
        refine lv_iconst (v := 3) hx hb d_Mo_writeHead_143 (by decide) ?_
        refine lv_icmp_ne (tgt := 152) hx hb d_Mo_writeHead_144 (by decide) (fun hc => ?_) (fun hc => ?_)
        · have hv := hv.trans (if_neg hc)
          have hk := hk.2 hc
          refine lv_iload_n hx hb d_Mo_writeHead_152 rfl (lv_at hl 2 rfl) ?_
          refine lv_iconst (v := 4) hx hb d_Mo_writeHead_153 (by decide) ?_
          refine lv_icmp_ne (tgt := 162) hx hb d_Mo_writeHead_154 (by decide) (fun hc => ?_) (fun hc => ?_)
          · have hv := hv.trans (if_neg hc)
            have hk := hk.2 hc
            refine lv_iload_n hx hb d_Mo_writeHead_162 rfl (lv_at hl 2 rfl) ?_
            refine lv_iconst (v := 5) hx hb d_Mo_writeHead_163 (by decide) ?_
            refine lv_icmp_ne (tgt := 172) hx hb d_Mo_writeHead_164 (by decide) (fun hc => ?_) (fun hc => ?_)
            · have hv := hv.trans (if_neg hc)
              have hk := hk.2 hc
              refine lv_iload_n hx hb d_Mo_writeHead_172 rfl (lv_at hl 2 rfl) ?_
              refine lv_bipush (v := 6) hx hb d_Mo_writeHead_173 (by decide) ?_
              refine lv_icmp_ne (tgt := 183) hx hb d_Mo_writeHead_175 (by decide) (fun hc => ?_) (fun hc => ?_)
              · have hv := hv.trans (if_neg hc)
                have hk := hk.2 hc
                refine lv_iload_n hx hb d_Mo_writeHead_183 rfl (lv_at hl 2 rfl) ?_
                refine lv_bipush (v := 7) hx hb d_Mo_writeHead_184 (by decide) ?_
                refine lv_icmp_ne (tgt := 194) hx hb d_Mo_writeHead_186 (by decide) (fun hc => ?_) (fun hc => ?_)
                · have hv := hv.trans (if_neg hc)
                  have hk := hk.2 hc
                  refine lv_iload_n hx hb d_Mo_writeHead_194 rfl (lv_at hl 2 rfl) ?_
                  refine lv_bipush (v := 8) hx hb d_Mo_writeHead_195 (by decide) ?_
                  refine lv_icmp_ne (tgt := 205) hx hb d_Mo_writeHead_197 (by decide) (fun hc => ?_) (fun hc => ?_)
                  · have hv := hv.trans (if_neg hc)
                    have hk := hk.2 hc
                    refine lv_iload_n hx hb d_Mo_writeHead_205 rfl (lv_at hl 2 rfl) ?_
                    refine lv_bipush (v := 9) hx hb d_Mo_writeHead_206 (by decide) ?_
                    refine lv_icmp_ne (tgt := 216) hx hb d_Mo_writeHead_208 (by decide) (fun hc => ?_) (fun hc => ?_)
                    · have hv := hv.trans (if_neg hc)
                      have hk := hk.2 hc
                      refine lv_bipush (v := 33) hx hb d_Mo_writeHead_216 (by decide) ?_
                      exact B218 _ _ _ x1 x2 33 σ hv hk (lv_sub hl [0, 1, 2] rfl) hP hD hS
                    · have hv := hv.trans (if_pos hc)
                      have hk := hk.1 hc
                      refine lv_bipush (v := 124) hx hb d_Mo_writeHead_211 (by decide) ?_
                      refine lv_goto (tgt := 218) hx hb d_Mo_writeHead_213 (by decide) ?_
                      exact B218 _ _ _ x1 x2 124 σ hv hk (lv_sub hl [0, 1, 2] rfl) hP hD hS
                  · have hv := hv.trans (if_pos hc)
                    have hk := hk.1 hc
                    refine lv_bipush (v := 38) hx hb d_Mo_writeHead_200 (by decide) ?_
                    refine lv_goto (tgt := 218) hx hb d_Mo_writeHead_202 (by decide) ?_
                    exact B218 _ _ _ x1 x2 38 σ hv hk (lv_sub hl [0, 1, 2] rfl) hP hD hS
                · have hv := hv.trans (if_pos hc)
                  have hk := hk.1 hc
                  refine lv_bipush (v := 126) hx hb d_Mo_writeHead_189 (by decide) ?_
                  refine lv_goto (tgt := 218) hx hb d_Mo_writeHead_191 (by decide) ?_
                  exact B218 _ _ _ x1 x2 126 σ hv hk (lv_sub hl [0, 1, 2] rfl) hP hD hS
              · have hv := hv.trans (if_pos hc)
                have hk := hk.1 hc
                refine lv_bipush (v := 60) hx hb d_Mo_writeHead_178 (by decide) ?_
                refine lv_goto (tgt := 218) hx hb d_Mo_writeHead_180 (by decide) ?_
                exact B218 _ _ _ x1 x2 60 σ hv hk (lv_sub hl [0, 1, 2] rfl) hP hD hS
            · have hv := hv.trans (if_pos hc)
              have hk := hk.1 hc
              refine lv_bipush (v := 61) hx hb d_Mo_writeHead_167 (by decide) ?_
              refine lv_goto (tgt := 218) hx hb d_Mo_writeHead_169 (by decide) ?_
              exact B218 _ _ _ x1 x2 61 σ hv hk (lv_sub hl [0, 1, 2] rfl) hP hD hS
          · have hv := hv.trans (if_pos hc)
            have hk := hk.1 hc
            refine lv_bipush (v := 42) hx hb d_Mo_writeHead_157 (by decide) ?_
            refine lv_goto (tgt := 218) hx hb d_Mo_writeHead_159 (by decide) ?_
            exact B218 _ _ _ x1 x2 42 σ hv hk (lv_sub hl [0, 1, 2] rfl) hP hD hS
        · have hv := hv.trans (if_pos hc)
          have hk := hk.1 hc
          refine lv_bipush (v := 43) hx hb d_Mo_writeHead_147 (by decide) ?_
          refine lv_goto (tgt := 218) hx hb d_Mo_writeHead_149 (by decide) ?_
          exact B218 _ _ _ x1 x2 43 σ hv hk (lv_sub hl [0, 1, 2] rfl) hP hD hS
      · have hv := hv.trans (if_pos hc)
        have hk := hk.1 hc
        refine lv_bipush (v := 120) hx hb d_Mo_writeHead_130 (by decide) ?_
        refine lv_aload_n hx hb d_Mo_writeHead_132 rfl (lv_at hl 0 rfl) ?_
        refine va_get (v := .ref (h 10)) (C := R_Mo) (T := T_Mo) (N := 51) hx hb hg in_Mo hown hK hP 0 rfl rfl 15 (by decide) (hg _ m_1274) (fun _ h9 => h9) rfl d_Mo_writeHead_133 ?_
        refine lv_iload_n hx hb d_Mo_writeHead_136 rfl (lv_at hl 1 rfl) ?_
        obtain ⟨hk0, hk⟩ := hk
        refine va_iald hx hb hK hP 10 0 rfl rfl hk0 d_Mo_writeHead_137 ?_
        refine lv_iadd hx hb d_Mo_writeHead_138 ?_
        refine lv_goto (tgt := 218) hx hb d_Mo_writeHead_139 (by decide) ?_
        exact B218 _ _ _ x1 x2 (120 + (σ.1 10 x1.toNatClampNeg)) σ hv hk (lv_sub hl [0, 1, 2] rfl) hP hD hS
    · have hv := hv.trans (if_pos hc)
      have hk := hk.1 hc
      refine lv_bipush (v := 97) hx hb d_Mo_writeHead_113 (by decide) ?_
      refine lv_aload_n hx hb d_Mo_writeHead_115 rfl (lv_at hl 0 rfl) ?_
      refine va_get (v := .ref (h 10)) (C := R_Mo) (T := T_Mo) (N := 51) hx hb hg in_Mo hown hK hP 0 rfl rfl 15 (by decide) (hg _ m_1274) (fun _ h9 => h9) rfl d_Mo_writeHead_116 ?_
      refine lv_iload_n hx hb d_Mo_writeHead_119 rfl (lv_at hl 1 rfl) ?_
      obtain ⟨hk0, hk⟩ := hk
      refine va_iald hx hb hK hP 10 0 rfl rfl hk0 d_Mo_writeHead_120 ?_
      refine lv_iadd hx hb d_Mo_writeHead_121 ?_
      refine lv_goto (tgt := 218) hx hb d_Mo_writeHead_122 (by decide) ?_
      exact B218 _ _ _ x1 x2 (97 + (σ.1 10 x1.toNatClampNeg)) σ hv hk (lv_sub hl [0, 1, 2] rfl) hP hD hS
  have B7 : ∀ (H : Heap) (locs : List Loc) (ls : Array Slot) (x1 : Int32) (x2 : Int32) (σ : St), v = f_Mo_writeHead_7 x1 x2 σ → k_Mo_writeHead_7 x1 x2 σ → lv_has ls 3 [(0, .ref (h 0)), (1, .int x1), (2, .int x2)] → va_P D classes (Wm ty h σ px) H → va_D A (Wm ty h σ px) → va_S A s.heap H locs → W p l e (headSpec w_Mo_writeHead rm_Mo_writeHead).room s m args below meth c H locs 0 0 (MQ below (va_Qv (fun u : St => u = v) (fun u t => va_P D classes (Wm ty h u px) t.heap) A) args s 0 0 A) (F0 m 7 ls []) := by
    intro H locs ls x1 x2 σ hv hk hl hP hD hS
    unfold f_Mo_writeHead_7 at hv
    unfold k_Mo_writeHead_7 at hk
    refine lv_iload_n hx hb d_Mo_writeHead_7 rfl (lv_at hl 2 rfl) ?_
    refine lv_iconst (v := 2) hx hb d_Mo_writeHead_8 (by decide) ?_
    refine lv_icmp_ne (tgt := 93) hx hb d_Mo_writeHead_9 (by decide) (fun hc => ?_) (fun hc => ?_)
    · have hv := hv.trans (if_neg hc)
      have hk := hk.2 hc
      refine lv_aload_n hx hb d_Mo_writeHead_93 rfl (lv_at hl 0 rfl) ?_
      refine va_get (v := .ref (h 8)) (C := R_Mo) (T := T_Mo) (N := 51) hx hb hg in_Mo hown hK hP 0 rfl rfl 13 (by decide) (hg _ m_1272) (fun _ h9 => h9) rfl d_Mo_writeHead_94 ?_
      refine lv_iload_n hx hb d_Mo_writeHead_97 rfl (lv_at hl 1 rfl) ?_
      obtain ⟨hk0, hk⟩ := hk
      refine va_iald hx hb hK hP 8 0 rfl rfl hk0 d_Mo_writeHead_98 ?_
      refine lv_if_lt (tgt := 108) hx hb d_Mo_writeHead_99 (by decide) (fun hc => ?_) (fun hc => ?_)
      · have hv := hv.trans (if_pos hc)
        have hk := hk.1 hc
        exact B108 _ _ _ x1 x2 σ hv hk (lv_sub hl [0, 1, 2] rfl) hP hD hS
      · have hv := hv.trans (if_neg hc)
        have hk := hk.2 hc
        refine lv_aload_n hx hb d_Mo_writeHead_102 rfl (lv_at hl 0 rfl) ?_
        refine lv_bipush (v := 40) hx hb d_Mo_writeHead_103 (by decide) ?_
        obtain ⟨hk0, hk⟩ := hk
        refine va_callv (va_runV (As := [.int 40]) (rest := []) ⟨hx, hb, hml, hown, hg⟩ (c_Mo_write l D ty h px sa σ H.size 40 hk0) ⟨callB_of 1 hg (gw_C m_1668) rfl rfl rfl (hg _ m_13) (hg _ m_1665) hd_Mo_write ⟨Nat.le_of_ble_eq_true rfl, Nat.le_of_ble_eq_true rfl⟩, hg _ m_1667, hg _ ms_84⟩ (zz_preVW hM hS hA hN hK hP hD 0 rfl rfl) rfl rfl hl.1 rfl (lv_room (Nat.le_of_ble_eq_true rfl)) d_Mo_writeHead_105 ⟨Nat.le_of_ble_eq_true rfl, Nat.le_of_ble_eq_true rfl⟩) hS (fun q _ h => zz_free hD hS hA q h) (zz_free hD hS hA) (fun u105 t H locs ht hvm hp hP1 hz hk1 hS => ?_)
        rw [ht] at hP1
        rw [← hp] at hv hk
        have hD : va_D A (Wm ty h u105 px) := zz_D hD rfl
        have hP := hP1
        exact B108 _ _ _ x1 x2 u105 hv hk (lv_sub hl [0, 1, 2] rfl) hP hD hS
    · have hv := hv.trans (if_pos hc)
      have hk := hk.1 hc
      refine lv_aload_n hx hb d_Mo_writeHead_12 rfl (lv_at hl 0 rfl) ?_
      refine va_get (v := .ref (h 11)) (C := R_Mo) (T := T_Mo) (N := 51) hx hb hg in_Mo hown hK hP 0 rfl rfl 16 (by decide) (hg _ m_1275) (fun _ h9 => h9) rfl d_Mo_writeHead_13 ?_
      refine lv_iload_n hx hb d_Mo_writeHead_16 rfl (lv_at hl 1 rfl) ?_
      obtain ⟨hk0, hk⟩ := hk
      refine va_iald hx hb hK hP 11 0 rfl rfl hk0 d_Mo_writeHead_17 ?_
      refine lv_if_ge (tgt := 27) hx hb d_Mo_writeHead_18 (by decide) (fun hc => ?_) (fun hc => ?_)
      · have hv := hv.trans (if_pos hc)
        have hk := hk.1 hc
        exact B27 _ _ _ x1 σ hv hk (lv_sub hl [0, 1] rfl) hP hD hS
      · have hv := hv.trans (if_neg hc)
        have hk := hk.2 hc
        refine lv_aload_n hx hb d_Mo_writeHead_21 rfl (lv_at hl 0 rfl) ?_
        refine lv_bipush (v := 45) hx hb d_Mo_writeHead_22 (by decide) ?_
        obtain ⟨hk0, hk⟩ := hk
        refine va_callv (va_runV (As := [.int 45]) (rest := []) ⟨hx, hb, hml, hown, hg⟩ (c_Mo_write l D ty h px sa σ H.size 45 hk0) ⟨callB_of 1 hg (gw_C m_1668) rfl rfl rfl (hg _ m_13) (hg _ m_1665) hd_Mo_write ⟨Nat.le_of_ble_eq_true rfl, Nat.le_of_ble_eq_true rfl⟩, hg _ m_1667, hg _ ms_84⟩ (zz_preVW hM hS hA hN hK hP hD 0 rfl rfl) rfl rfl hl.1 rfl (lv_room (Nat.le_of_ble_eq_true rfl)) d_Mo_writeHead_24 ⟨Nat.le_of_ble_eq_true rfl, Nat.le_of_ble_eq_true rfl⟩) hS (fun q _ h => zz_free hD hS hA q h) (zz_free hD hS hA) (fun u24 t H locs ht hvm hp hP1 hz hk1 hS => ?_)
        rw [ht] at hP1
        rw [← hp] at hv hk
        have hD : va_D A (Wm ty h u24 px) := zz_D hD rfl
        have hP := hP1
        exact B27 _ _ _ x1 u24 hv hk (lv_sub hl [0, 1] rfl) hP hD hS
  unfold f_Mo_writeHead at hv
  unfold k_Mo_writeHead at hk
  refine lv_aload_n hx hb d_Mo_writeHead_0 rfl (lv_at hl 0 rfl) ?_
  refine va_get (v := .ref (h 5)) (C := R_Mo) (T := T_Mo) (N := 51) hx hb hg in_Mo hown hK hP 0 rfl rfl 10 (by decide) (hg _ m_1269) (fun _ h9 => h9) rfl d_Mo_writeHead_1 ?_
  refine lv_iload_n hx hb d_Mo_writeHead_4 rfl (lv_at hl 1 rfl) ?_
  obtain ⟨hk0, hk⟩ := hk
  refine va_iald hx hb hK hP 5 0 rfl rfl hk0 d_Mo_writeHead_5 ?_
  refine lv_istore_n (lv' := [(2, .int (σ.1 5 a1.toNatClampNeg)), (0, .ref (h 0)), (1, .int a1)]) hx hb d_Mo_writeHead_6 rfl hl (by decide) rfl (fun ls hl => ?_)
  exact B7 _ _ _ a1 (σ.1 5 a1.toNatClampNeg) σ hv hk (lv_sub hl [1, 2, 0] rfl) hP hD hS

-- ClauseLedgerModel.writeAll(I)V
abbrev b_Mo_writeAll : ByteArray := prog_14_method_65_code
def y_Mo_writeAll : MethodName := ⟨"ClauseLedgerModel", "writeAll", "(I)V"⟩
theorem hd_Mo_writeAll : y_Mo_writeAll.cls ≠ "java/lang/invoke/MethodHandle" ∧ y_Mo_writeAll.cls ≠ "java/lang/invoke/VarHandle" ∧ (parseMethodDescriptor y_Mo_writeAll.desc).map (fun d => d.parameters.length) = some 1 := by decide +kernel
theorem d_Mo_writeAll_0 : decode b_Mo_writeAll 0 = .ok (.aload_n 0, 1) := by decide +kernel
theorem d_Mo_writeAll_1 : decode b_Mo_writeAll 1 = .ok (.iconst 0, 1) := by decide +kernel
theorem d_Mo_writeAll_2 : decode b_Mo_writeAll 2 = .ok (.putfield 297, 3) := by decide +kernel
theorem d_Mo_writeAll_5 : decode b_Mo_writeAll 5 = .ok (.aload_n 0, 1) := by decide +kernel
theorem d_Mo_writeAll_6 : decode b_Mo_writeAll 6 = .ok (.iconst 0, 1) := by decide +kernel
theorem d_Mo_writeAll_7 : decode b_Mo_writeAll 7 = .ok (.putfield 173, 3) := by decide +kernel
theorem d_Mo_writeAll_10 : decode b_Mo_writeAll 10 = .ok (.iload_n 1, 1) := by decide +kernel
theorem d_Mo_writeAll_11 : decode b_Mo_writeAll 11 = .ok (.istore_n 2, 1) := by decide +kernel
theorem d_Mo_writeAll_12 : decode b_Mo_writeAll 12 = .ok (.iload_n 2, 1) := by decide +kernel
theorem d_Mo_writeAll_13 : decode b_Mo_writeAll 13 = .ok (.ifCond .ge 10, 3) := by decide +kernel
theorem d_Mo_writeAll_16 : decode b_Mo_writeAll 16 = .ok (.aload_n 0, 1) := by decide +kernel
theorem d_Mo_writeAll_17 : decode b_Mo_writeAll 17 = .ok (.getfield 173, 3) := by decide +kernel
theorem d_Mo_writeAll_20 : decode b_Mo_writeAll 20 = .ok (.ifCond .le 176, 3) := by decide +kernel
theorem d_Mo_writeAll_23 : decode b_Mo_writeAll 23 = .ok (.iload_n 2, 1) := by decide +kernel
theorem d_Mo_writeAll_24 : decode b_Mo_writeAll 24 = .ok (.ifCond .lt 49, 3) := by decide +kernel
theorem d_Mo_writeAll_27 : decode b_Mo_writeAll 27 = .ok (.aload_n 0, 1) := by decide +kernel
theorem d_Mo_writeAll_28 : decode b_Mo_writeAll 28 = .ok (.iload_n 2, 1) := by decide +kernel
theorem d_Mo_writeAll_29 : decode b_Mo_writeAll 29 = .ok (.invokevirtual 312, 3) := by decide +kernel
theorem d_Mo_writeAll_32 : decode b_Mo_writeAll 32 = .ok (.aload_n 0, 1) := by decide +kernel
theorem d_Mo_writeAll_33 : decode b_Mo_writeAll 33 = .ok (.getfield 35, 3) := by decide +kernel
theorem d_Mo_writeAll_36 : decode b_Mo_writeAll 36 = .ok (.iload_n 2, 1) := by decide +kernel
theorem d_Mo_writeAll_37 : decode b_Mo_writeAll 37 = .ok (.iaload, 1) := by decide +kernel
theorem d_Mo_writeAll_38 : decode b_Mo_writeAll 38 = .ok (.ifCond .lt 33, 3) := by decide +kernel
theorem d_Mo_writeAll_41 : decode b_Mo_writeAll 41 = .ok (.aload_n 0, 1) := by decide +kernel
theorem d_Mo_writeAll_42 : decode b_Mo_writeAll 42 = .ok (.getfield 84, 3) := by decide +kernel
theorem d_Mo_writeAll_45 : decode b_Mo_writeAll 45 = .ok (.aload_n 0, 1) := by decide +kernel
theorem d_Mo_writeAll_46 : decode b_Mo_writeAll 46 = .ok (.getfield 173, 3) := by decide +kernel
theorem d_Mo_writeAll_49 : decode b_Mo_writeAll 49 = .ok (.iload_n 2, 1) := by decide +kernel
theorem d_Mo_writeAll_50 : decode b_Mo_writeAll 50 = .ok (.iastore, 1) := by decide +kernel
theorem d_Mo_writeAll_51 : decode b_Mo_writeAll 51 = .ok (.aload_n 0, 1) := by decide +kernel
theorem d_Mo_writeAll_52 : decode b_Mo_writeAll 52 = .ok (.getfield 81, 3) := by decide +kernel
theorem d_Mo_writeAll_55 : decode b_Mo_writeAll 55 = .ok (.aload_n 0, 1) := by decide +kernel
theorem d_Mo_writeAll_56 : decode b_Mo_writeAll 56 = .ok (.getfield 173, 3) := by decide +kernel
theorem d_Mo_writeAll_59 : decode b_Mo_writeAll 59 = .ok (.iconst 0, 1) := by decide +kernel
theorem d_Mo_writeAll_60 : decode b_Mo_writeAll 60 = .ok (.iastore, 1) := by decide +kernel
theorem d_Mo_writeAll_61 : decode b_Mo_writeAll 61 = .ok (.aload_n 0, 1) := by decide +kernel
theorem d_Mo_writeAll_62 : decode b_Mo_writeAll 62 = .ok (.dup, 1) := by decide +kernel
theorem d_Mo_writeAll_63 : decode b_Mo_writeAll 63 = .ok (.getfield 173, 3) := by decide +kernel
theorem d_Mo_writeAll_66 : decode b_Mo_writeAll 66 = .ok (.iconst 1, 1) := by decide +kernel
theorem d_Mo_writeAll_67 : decode b_Mo_writeAll 67 = .ok (.iadd, 1) := by decide +kernel
theorem d_Mo_writeAll_68 : decode b_Mo_writeAll 68 = .ok (.putfield 173, 3) := by decide +kernel
theorem d_Mo_writeAll_71 : decode b_Mo_writeAll 71 = .ok (.iconst (-1), 1) := by decide +kernel
theorem d_Mo_writeAll_72 : decode b_Mo_writeAll 72 = .ok (.istore_n 2, 1) := by decide +kernel
theorem d_Mo_writeAll_73 : decode b_Mo_writeAll 73 = .ok (.aload_n 0, 1) := by decide +kernel
theorem d_Mo_writeAll_74 : decode b_Mo_writeAll 74 = .ok (.getfield 173, 3) := by decide +kernel
theorem d_Mo_writeAll_77 : decode b_Mo_writeAll 77 = .ok (.ifCond .ne 6, 3) := by decide +kernel
theorem d_Mo_writeAll_80 : decode b_Mo_writeAll 80 = .ok (.goto (-68), 3) := by decide +kernel
theorem d_Mo_writeAll_83 : decode b_Mo_writeAll 83 = .ok (.aload_n 0, 1) := by decide +kernel
theorem d_Mo_writeAll_84 : decode b_Mo_writeAll 84 = .ok (.getfield 84, 3) := by decide +kernel
theorem d_Mo_writeAll_87 : decode b_Mo_writeAll 87 = .ok (.aload_n 0, 1) := by decide +kernel
theorem d_Mo_writeAll_88 : decode b_Mo_writeAll 88 = .ok (.getfield 173, 3) := by decide +kernel
theorem d_Mo_writeAll_91 : decode b_Mo_writeAll 91 = .ok (.iconst 1, 1) := by decide +kernel
theorem d_Mo_writeAll_92 : decode b_Mo_writeAll 92 = .ok (.isub, 1) := by decide +kernel
theorem d_Mo_writeAll_93 : decode b_Mo_writeAll 93 = .ok (.iaload, 1) := by decide +kernel
theorem d_Mo_writeAll_94 : decode b_Mo_writeAll 94 = .ok (.istore_n 3, 1) := by decide +kernel
theorem d_Mo_writeAll_95 : decode b_Mo_writeAll 95 = .ok (.aload_n 0, 1) := by decide +kernel
theorem d_Mo_writeAll_96 : decode b_Mo_writeAll 96 = .ok (.getfield 81, 3) := by decide +kernel
theorem d_Mo_writeAll_99 : decode b_Mo_writeAll 99 = .ok (.aload_n 0, 1) := by decide +kernel
theorem d_Mo_writeAll_100 : decode b_Mo_writeAll 100 = .ok (.getfield 173, 3) := by decide +kernel
theorem d_Mo_writeAll_103 : decode b_Mo_writeAll 103 = .ok (.iconst 1, 1) := by decide +kernel
theorem d_Mo_writeAll_104 : decode b_Mo_writeAll 104 = .ok (.isub, 1) := by decide +kernel
theorem d_Mo_writeAll_105 : decode b_Mo_writeAll 105 = .ok (.iaload, 1) := by decide +kernel
theorem d_Mo_writeAll_106 : decode b_Mo_writeAll 106 = .ok (.ifCond .ne 12, 3) := by decide +kernel
theorem d_Mo_writeAll_109 : decode b_Mo_writeAll 109 = .ok (.aload_n 0, 1) := by decide +kernel
theorem d_Mo_writeAll_110 : decode b_Mo_writeAll 110 = .ok (.getfield 35, 3) := by decide +kernel
theorem d_Mo_writeAll_113 : decode b_Mo_writeAll 113 = .ok (.iload_n 3, 1) := by decide +kernel
theorem d_Mo_writeAll_114 : decode b_Mo_writeAll 114 = .ok (.iaload, 1) := by decide +kernel
theorem d_Mo_writeAll_115 : decode b_Mo_writeAll 115 = .ok (.goto 28, 3) := by decide +kernel
theorem d_Mo_writeAll_118 : decode b_Mo_writeAll 118 = .ok (.aload_n 0, 1) := by decide +kernel
theorem d_Mo_writeAll_119 : decode b_Mo_writeAll 119 = .ok (.getfield 81, 3) := by decide +kernel
theorem d_Mo_writeAll_122 : decode b_Mo_writeAll 122 = .ok (.aload_n 0, 1) := by decide +kernel
theorem d_Mo_writeAll_123 : decode b_Mo_writeAll 123 = .ok (.getfield 173, 3) := by decide +kernel
theorem d_Mo_writeAll_126 : decode b_Mo_writeAll 126 = .ok (.iconst 1, 1) := by decide +kernel
theorem d_Mo_writeAll_127 : decode b_Mo_writeAll 127 = .ok (.isub, 1) := by decide +kernel
theorem d_Mo_writeAll_128 : decode b_Mo_writeAll 128 = .ok (.iaload, 1) := by decide +kernel
theorem d_Mo_writeAll_129 : decode b_Mo_writeAll 129 = .ok (.iconst 1, 1) := by decide +kernel
theorem d_Mo_writeAll_130 : decode b_Mo_writeAll 130 = .ok (.if_icmp .ne 12, 3) := by decide +kernel
theorem d_Mo_writeAll_133 : decode b_Mo_writeAll 133 = .ok (.aload_n 0, 1) := by decide +kernel
theorem d_Mo_writeAll_134 : decode b_Mo_writeAll 134 = .ok (.getfield 38, 3) := by decide +kernel
theorem d_Mo_writeAll_137 : decode b_Mo_writeAll 137 = .ok (.iload_n 3, 1) := by decide +kernel
theorem d_Mo_writeAll_138 : decode b_Mo_writeAll 138 = .ok (.iaload, 1) := by decide +kernel
theorem d_Mo_writeAll_139 : decode b_Mo_writeAll 139 = .ok (.goto 4, 3) := by decide +kernel
theorem d_Mo_writeAll_142 : decode b_Mo_writeAll 142 = .ok (.iconst (-1), 1) := by decide +kernel
theorem d_Mo_writeAll_143 : decode b_Mo_writeAll 143 = .ok (.istore 4, 2) := by decide +kernel
theorem d_Mo_writeAll_145 : decode b_Mo_writeAll 145 = .ok (.aload_n 0, 1) := by decide +kernel
theorem d_Mo_writeAll_146 : decode b_Mo_writeAll 146 = .ok (.getfield 81, 3) := by decide +kernel
theorem d_Mo_writeAll_149 : decode b_Mo_writeAll 149 = .ok (.aload_n 0, 1) := by decide +kernel
theorem d_Mo_writeAll_150 : decode b_Mo_writeAll 150 = .ok (.getfield 173, 3) := by decide +kernel
theorem d_Mo_writeAll_153 : decode b_Mo_writeAll 153 = .ok (.iconst 1, 1) := by decide +kernel
theorem d_Mo_writeAll_154 : decode b_Mo_writeAll 154 = .ok (.isub, 1) := by decide +kernel
theorem d_Mo_writeAll_155 : decode b_Mo_writeAll 155 = .ok (.dup2, 1) := by decide +kernel
theorem d_Mo_writeAll_156 : decode b_Mo_writeAll 156 = .ok (.iaload, 1) := by decide +kernel
theorem d_Mo_writeAll_157 : decode b_Mo_writeAll 157 = .ok (.iconst 1, 1) := by decide +kernel
theorem d_Mo_writeAll_158 : decode b_Mo_writeAll 158 = .ok (.iadd, 1) := by decide +kernel
theorem d_Mo_writeAll_159 : decode b_Mo_writeAll 159 = .ok (.iastore, 1) := by decide +kernel
theorem d_Mo_writeAll_160 : decode b_Mo_writeAll 160 = .ok (.iload 4, 2) := by decide +kernel
theorem d_Mo_writeAll_162 : decode b_Mo_writeAll 162 = .ok (.ifCond .lt 15, 3) := by decide +kernel
theorem d_Mo_writeAll_165 : decode b_Mo_writeAll 165 = .ok (.aload_n 0, 1) := by decide +kernel
theorem d_Mo_writeAll_166 : decode b_Mo_writeAll 166 = .ok (.bipush 32, 2) := by decide +kernel
theorem d_Mo_writeAll_168 : decode b_Mo_writeAll 168 = .ok (.invokevirtual 306, 3) := by decide +kernel
theorem d_Mo_writeAll_171 : decode b_Mo_writeAll 171 = .ok (.iload 4, 2) := by decide +kernel
theorem d_Mo_writeAll_173 : decode b_Mo_writeAll 173 = .ok (.istore_n 2, 1) := by decide +kernel
theorem d_Mo_writeAll_174 : decode b_Mo_writeAll 174 = .ok (.goto 19, 3) := by decide +kernel
theorem d_Mo_writeAll_177 : decode b_Mo_writeAll 177 = .ok (.aload_n 0, 1) := by decide +kernel
theorem d_Mo_writeAll_178 : decode b_Mo_writeAll 178 = .ok (.bipush 41, 2) := by decide +kernel
theorem d_Mo_writeAll_180 : decode b_Mo_writeAll 180 = .ok (.invokevirtual 306, 3) := by decide +kernel
theorem d_Mo_writeAll_183 : decode b_Mo_writeAll 183 = .ok (.aload_n 0, 1) := by decide +kernel
theorem d_Mo_writeAll_184 : decode b_Mo_writeAll 184 = .ok (.dup, 1) := by decide +kernel
theorem d_Mo_writeAll_185 : decode b_Mo_writeAll 185 = .ok (.getfield 173, 3) := by decide +kernel
theorem d_Mo_writeAll_188 : decode b_Mo_writeAll 188 = .ok (.iconst 1, 1) := by decide +kernel
theorem d_Mo_writeAll_189 : decode b_Mo_writeAll 189 = .ok (.isub, 1) := by decide +kernel
theorem d_Mo_writeAll_190 : decode b_Mo_writeAll 190 = .ok (.putfield 173, 3) := by decide +kernel
theorem d_Mo_writeAll_193 : decode b_Mo_writeAll 193 = .ok (.goto (-181), 3) := by decide +kernel
theorem d_Mo_writeAll_196 : decode b_Mo_writeAll 196 = .ok (.return_, 1) := by decide +kernel
def f_Mo_writeAll_193 (F12 : (Int32 → St → St)) (x2 : Int32) (σ : St) : St := F12 x2 σ
def k_Mo_writeAll_193 (K12 : (Int32 → St → Prop)) (x2 : Int32) (σ : St) : Prop := K12 x2 σ
def f_Mo_writeAll_171 (F12 : (Int32 → St → St)) (x4 : Int32) (σ : St) : St := f_Mo_writeAll_193 F12 x4 σ
def k_Mo_writeAll_171 (K12 : (Int32 → St → Prop)) (x4 : Int32) (σ : St) : Prop := k_Mo_writeAll_193 K12 x4 σ
def f_Mo_writeAll_183 (F12 : (Int32 → St → St)) (x2 : Int32) (σ : St) : St := f_Mo_writeAll_193 F12 x2 (sF σ 0 34 ((σ.1 0 34) - 1))
def k_Mo_writeAll_183 (K12 : (Int32 → St → Prop)) (x2 : Int32) (σ : St) : Prop := k_Mo_writeAll_193 K12 x2 (sF σ 0 34 ((σ.1 0 34) - 1))
def f_Mo_writeAll_160 (F12 : (Int32 → St → St)) (x2 : Int32) (x4 : Int32) (σ : St) : St := if x4 < 0 then (f_Mo_writeAll_183 F12 x2 (f_Mo_write 41 σ)) else (f_Mo_writeAll_171 F12 x4 (f_Mo_write 32 σ))
def k_Mo_writeAll_160 (K12 : (Int32 → St → Prop)) (x2 : Int32) (x4 : Int32) (σ : St) : Prop := (x4 < 0 → ((k_Mo_write 41 σ) ∧ (k_Mo_writeAll_183 K12 x2 (f_Mo_write 41 σ)))) ∧ (¬ x4 < 0 → ((k_Mo_write 32 σ) ∧ (k_Mo_writeAll_171 K12 x4 (f_Mo_write 32 σ))))
def f_Mo_writeAll_143 (F12 : (Int32 → St → St)) (x2 : Int32) (s0 : Int32) (σ : St) : St := f_Mo_writeAll_160 F12 x2 s0 (sA σ 23 ((σ.1 0 34) - 1) ((σ.1 23 ((σ.1 0 34) - 1).toNatClampNeg) + 1))
def k_Mo_writeAll_143 (K12 : (Int32 → St → Prop)) (x2 : Int32) (s0 : Int32) (σ : St) : Prop := vp_in ((σ.1 0 34) - 1) 40 ∧ (vp_in ((σ.1 0 34) - 1) 40 ∧ (k_Mo_writeAll_160 K12 x2 s0 (sA σ 23 ((σ.1 0 34) - 1) ((σ.1 23 ((σ.1 0 34) - 1).toNatClampNeg) + 1))))
def f_Mo_writeAll_95 (F12 : (Int32 → St → St)) (x2 : Int32) (x3 : Int32) (σ : St) : St := if (σ.1 23 ((σ.1 0 34) - 1).toNatClampNeg) = 0 then (f_Mo_writeAll_143 F12 x2 (σ.1 8 x3.toNatClampNeg) σ) else (if (σ.1 23 ((σ.1 0 34) - 1).toNatClampNeg) = 1 then (f_Mo_writeAll_143 F12 x2 (σ.1 9 x3.toNatClampNeg) σ) else (f_Mo_writeAll_143 F12 x2 (-1) σ))
def k_Mo_writeAll_95 (K12 : (Int32 → St → Prop)) (x2 : Int32) (x3 : Int32) (σ : St) : Prop := vp_in ((σ.1 0 34) - 1) 40 ∧ (((σ.1 23 ((σ.1 0 34) - 1).toNatClampNeg) = 0 → (vp_in x3 400 ∧ (k_Mo_writeAll_143 K12 x2 (σ.1 8 x3.toNatClampNeg) σ))) ∧ (¬ (σ.1 23 ((σ.1 0 34) - 1).toNatClampNeg) = 0 → (vp_in ((σ.1 0 34) - 1) 40 ∧ (((σ.1 23 ((σ.1 0 34) - 1).toNatClampNeg) = 1 → (vp_in x3 400 ∧ (k_Mo_writeAll_143 K12 x2 (σ.1 9 x3.toNatClampNeg) σ))) ∧ (¬ (σ.1 23 ((σ.1 0 34) - 1).toNatClampNeg) = 1 → (k_Mo_writeAll_143 K12 x2 (-1) σ))))))
def f_Mo_writeAll_73 (F12 : (Int32 → St → St)) (x2 : Int32) (σ : St) : St := if (σ.1 0 34) = 0 then (F12 x2 σ) else (f_Mo_writeAll_95 F12 x2 (σ.1 24 ((σ.1 0 34) - 1).toNatClampNeg) σ)
def k_Mo_writeAll_73 (K12 : (Int32 → St → Prop)) (x2 : Int32) (σ : St) : Prop := ((σ.1 0 34) = 0 → (K12 x2 σ)) ∧ (¬ (σ.1 0 34) = 0 → (vp_in ((σ.1 0 34) - 1) 40 ∧ (k_Mo_writeAll_95 K12 x2 (σ.1 24 ((σ.1 0 34) - 1).toNatClampNeg) σ)))
def f_Mo_writeAll_71 (F12 : (Int32 → St → St)) (σ : St) : St := f_Mo_writeAll_73 F12 (-1) σ
def k_Mo_writeAll_71 (K12 : (Int32 → St → Prop)) (σ : St) : Prop := k_Mo_writeAll_73 K12 (-1) σ
def f_Mo_writeAll_61 (F12 : (Int32 → St → St)) (σ : St) : St := f_Mo_writeAll_71 F12 (sF σ 0 34 ((σ.1 0 34) + 1))
def k_Mo_writeAll_61 (K12 : (Int32 → St → Prop)) (σ : St) : Prop := k_Mo_writeAll_71 K12 (sF σ 0 34 ((σ.1 0 34) + 1))
def f_Mo_writeAll_51 (F12 : (Int32 → St → St)) (σ : St) : St := f_Mo_writeAll_61 F12 (sA σ 23 (σ.1 0 34) 0)
def k_Mo_writeAll_51 (K12 : (Int32 → St → Prop)) (σ : St) : Prop := vp_in (σ.1 0 34) 40 ∧ (k_Mo_writeAll_61 K12 (sA σ 23 (σ.1 0 34) 0))
def f_Mo_writeAll_32 (F12 : (Int32 → St → St)) (x2 : Int32) (σ : St) : St := if (σ.1 8 x2.toNatClampNeg) < 0 then (f_Mo_writeAll_71 F12 σ) else (f_Mo_writeAll_51 F12 (sA σ 24 (σ.1 0 34) x2))
def k_Mo_writeAll_32 (K12 : (Int32 → St → Prop)) (x2 : Int32) (σ : St) : Prop := vp_in x2 400 ∧ (((σ.1 8 x2.toNatClampNeg) < 0 → (k_Mo_writeAll_71 K12 σ)) ∧ (¬ (σ.1 8 x2.toNatClampNeg) < 0 → (vp_in (σ.1 0 34) 40 ∧ (k_Mo_writeAll_51 K12 (sA σ 24 (σ.1 0 34) x2)))))
def f_Mo_writeAll_23 (F12 : (Int32 → St → St)) (x2 : Int32) (σ : St) : St := if x2 < 0 then (f_Mo_writeAll_73 F12 x2 σ) else (f_Mo_writeAll_32 F12 x2 (f_Mo_writeHead x2 σ))
def k_Mo_writeAll_23 (K12 : (Int32 → St → Prop)) (x2 : Int32) (σ : St) : Prop := (x2 < 0 → (k_Mo_writeAll_73 K12 x2 σ)) ∧ (¬ x2 < 0 → ((k_Mo_writeHead x2 σ) ∧ (k_Mo_writeAll_32 K12 x2 (f_Mo_writeHead x2 σ))))
def f_Mo_writeAll_12 : Nat → Int32 → St → St
  | 0, _, σ => σ
  | n + 1, x2, σ => if 0 ≤ x2 then (f_Mo_writeAll_23 (f_Mo_writeAll_12 n) x2 σ) else (if (σ.1 0 34) ≤ 0 then σ else (f_Mo_writeAll_23 (f_Mo_writeAll_12 n) x2 σ))
def k_Mo_writeAll_12 : Nat → Int32 → St → Prop
  | 0, _, _ => False
  | n + 1, x2, σ => (0 ≤ x2 → (k_Mo_writeAll_23 (k_Mo_writeAll_12 n) x2 σ)) ∧ (¬ 0 ≤ x2 → (((σ.1 0 34) ≤ 0 → True) ∧ (¬ (σ.1 0 34) ≤ 0 → (k_Mo_writeAll_23 (k_Mo_writeAll_12 n) x2 σ))))
def f_Mo_writeAll_10 (x1 : Int32) (σ : St) : St := f_Mo_writeAll_12 100000 x1 σ
def k_Mo_writeAll_10 (x1 : Int32) (σ : St) : Prop := k_Mo_writeAll_12 100000 x1 σ
def f_Mo_writeAll_5 (x1 : Int32) (σ : St) : St := f_Mo_writeAll_10 x1 (sF σ 0 34 0)
def k_Mo_writeAll_5 (x1 : Int32) (σ : St) : Prop := k_Mo_writeAll_10 x1 (sF σ 0 34 0)
def f_Mo_writeAll (a1 : Int32) (σ : St) : St := f_Mo_writeAll_5 a1 (sF σ 0 46 0)
def k_Mo_writeAll (a1 : Int32) (σ : St) : Prop := k_Mo_writeAll_5 a1 (sF σ 0 46 0)
abbrev w_Mo_writeAll : List Cond := Cond.code y_Mo_writeAll b_Mo_writeAll 5 none :: gw
abbrev rm_Mo_writeAll : Room := { frames := 3, cells := 0, slots := 0, locals := 65 }
set_option maxHeartbeats 4000000 in
set_option maxRecDepth 100000 in
theorem c_Mo_writeAll (l : Launch) (D : va_G) (ty : Nat → ClassId) (h : Nat → Nat) (px : va_W) (sa : Nat → Nat) (σ : St) (sz : Nat) (a1 : Int32) (hk : k_Mo_writeAll a1 σ) : Met l y_Mo_writeAll w_Mo_writeAll rm_Mo_writeAll (va_Pc [.ref (h 0), .int a1] (fun U => U.heap.size = sz ∧ va_P D classes (Wm ty h σ px) U.heap ∧ va_K D classes (Ta ty) U ∧ NW U ∧ MK sa (va_A (Wm ty h σ px) sz) U U.heap ∧ va_D (fun _ => True) (Wm ty h σ px))) (va_Qv (fun u : St => u = f_Mo_writeAll a1 σ) (fun u t => va_P D classes (Wm ty h u px) t.heap) (va_A (Wm ty h σ px) sz)) 0 0 (va_A (Wm ty h σ px) sz) := by
  refine Met.ofW (cc := b_Mo_writeAll) (maxL := 5) (ret := none) (by decide) rfl ?_
  intro p e s m args below meth c s₁ B hml hv
  obtain ⟨ha, hsz, hP, hK, hN, hM, hD0⟩ := hv
  have hx := B.exec
  have hb := B.bytes
  have hr := B.returns
  have hg : ∀ w ∈ gw, w.before args s = true := fun w h9 => atoms_spec (ws := w_Mo_writeAll) B.pre w (List.mem_cons_of_mem _ h9)
  have hown : s.vm.findClass "ClauseLedgerModel" = some m.cls := findClass_of_methodNamed B.named
  have hlocks := B.notSynchronized
  subst hsz
  have hD := hD0.self (sz := s.heap.size)
  generalize hAe : va_A (Wm ty h σ px) s.heap.size = A at hD hM ⊢
  have hA : ∀ q : Nat, s.heap.size ≤ q → A q := fun q h9 => by rw [← hAe]; exact Or.inr h9
  have hS : va_S A s.heap s.heap [] := va_S.rf
  have he : entryFrame m args 5 = entryFrame m ([.ref (h 0), .int a1] : List Value).toArray 5 := by rw [ha]
  rw [he, lg_entry_eq]
  have hl := lv_entry ([.ref (h 0), .int a1]) (n := 5) (Nat.le_of_ble_eq_true rfl)
  generalize (lg_sl ([.ref (h 0), .int a1]) ++ List.replicate (5 - (lg_sl ([.ref (h 0), .int a1])).length) Slot.unset).toArray = ls at hl ⊢
  have hl : lv_has ls 5 [(0, .ref (h 0)), (1, .int a1)] := hl
  generalize hv : f_Mo_writeAll a1 σ = v
  replace hv := hv.symm
  have B12 : ∀ (n12 : Nat) (H : Heap) (locs : List Loc) (ls : Array Slot) (x2 : Int32) (σ : St), v = f_Mo_writeAll_12 n12 x2 σ → k_Mo_writeAll_12 n12 x2 σ → lv_has ls 5 [(0, .ref (h 0)), (2, .int x2)] → va_P D classes (Wm ty h σ px) H → va_D A (Wm ty h σ px) → va_S A s.heap H locs → W p l e (headSpec w_Mo_writeAll rm_Mo_writeAll).room s m args below meth c H locs 0 0 (MQ below (va_Qv (fun u : St => u = v) (fun u t => va_P D classes (Wm ty h u px) t.heap) A) args s 0 0 A) (F0 m 12 ls []) := by
    intro n12
    induction n12 with
    | zero => intro H locs ls x2 σ hv hk hl hP hD hS; exact hk.elim
    | succ n12 ih12 =>
      have B193 : ∀ (H : Heap) (locs : List Loc) (ls : Array Slot) (x2 : Int32) (σ : St), v = f_Mo_writeAll_193 (f_Mo_writeAll_12 n12) x2 σ → k_Mo_writeAll_193 (k_Mo_writeAll_12 n12) x2 σ → lv_has ls 5 [(0, .ref (h 0)), (2, .int x2)] → va_P D classes (Wm ty h σ px) H → va_D A (Wm ty h σ px) → va_S A s.heap H locs → W p l e (headSpec w_Mo_writeAll rm_Mo_writeAll).room s m args below meth c H locs 0 0 (MQ below (va_Qv (fun u : St => u = v) (fun u t => va_P D classes (Wm ty h u px) t.heap) A) args s 0 0 A) (F0 m 193 ls []) := by
        intro H locs ls x2 σ hv hk hl hP hD hS
        unfold f_Mo_writeAll_193 at hv
        unfold k_Mo_writeAll_193 at hk
        refine lv_goto (tgt := 12) hx hb d_Mo_writeAll_193 (by decide) ?_
        exact ih12 _ _ _ x2 σ hv hk (lv_sub hl [0, 1] rfl) hP hD hS
      have B171 : ∀ (H : Heap) (locs : List Loc) (ls : Array Slot) (x4 : Int32) (σ : St), v = f_Mo_writeAll_171 (f_Mo_writeAll_12 n12) x4 σ → k_Mo_writeAll_171 (k_Mo_writeAll_12 n12) x4 σ → lv_has ls 5 [(0, .ref (h 0)), (4, .int x4)] → va_P D classes (Wm ty h σ px) H → va_D A (Wm ty h σ px) → va_S A s.heap H locs → W p l e (headSpec w_Mo_writeAll rm_Mo_writeAll).room s m args below meth c H locs 0 0 (MQ below (va_Qv (fun u : St => u = v) (fun u t => va_P D classes (Wm ty h u px) t.heap) A) args s 0 0 A) (F0 m 171 ls []) := by
        intro H locs ls x4 σ hv hk hl hP hD hS
        unfold f_Mo_writeAll_171 at hv
        unfold k_Mo_writeAll_171 at hk
        refine lv_iload hx hb d_Mo_writeAll_171 (lv_at hl 1 rfl) ?_
        refine lv_istore_n (lv' := [(2, .int x4), (0, .ref (h 0)), (4, .int x4)]) hx hb d_Mo_writeAll_173 rfl hl (by decide) rfl (fun ls hl => ?_)
        refine lv_goto (tgt := 193) hx hb d_Mo_writeAll_174 (by decide) ?_
        exact B193 _ _ _ x4 σ hv hk (lv_sub hl [1, 0] rfl) hP hD hS
      have B183 : ∀ (H : Heap) (locs : List Loc) (ls : Array Slot) (x2 : Int32) (σ : St), v = f_Mo_writeAll_183 (f_Mo_writeAll_12 n12) x2 σ → k_Mo_writeAll_183 (k_Mo_writeAll_12 n12) x2 σ → lv_has ls 5 [(0, .ref (h 0)), (2, .int x2)] → va_P D classes (Wm ty h σ px) H → va_D A (Wm ty h σ px) → va_S A s.heap H locs → W p l e (headSpec w_Mo_writeAll rm_Mo_writeAll).room s m args below meth c H locs 0 0 (MQ below (va_Qv (fun u : St => u = v) (fun u t => va_P D classes (Wm ty h u px) t.heap) A) args s 0 0 A) (F0 m 183 ls []) := by
        intro H locs ls x2 σ hv hk hl hP hD hS
        unfold f_Mo_writeAll_183 at hv
        unfold k_Mo_writeAll_183 at hk
        refine lv_aload_n hx hb d_Mo_writeAll_183 rfl (lv_at hl 0 rfl) ?_
        refine lv_dup hx hb d_Mo_writeAll_184 rfl ?_
        refine va_get (v := .int (σ.1 0 34)) (C := R_Mo) (T := T_Mo) (N := 51) hx hb hg in_Mo hown hK hP 0 rfl rfl 34 (by decide) (hg _ m_1293) (fun _ h9 => h9) rfl d_Mo_writeAll_185 ?_
        refine lv_iconst (v := 1) hx hb d_Mo_writeAll_188 (by decide) ?_
        refine lv_isub hx hb d_Mo_writeAll_189 ?_
        refine va_put (v := .int ((σ.1 0 34) - 1)) (ty := .int) (C := R_Mo) (T := T_Mo) (N := 51) hx hb hg in_Mo ty_Mo ok_Mo nm_Mo hown hK hP hD hS 0 rfl rfl 34 (by decide) (hg _ m_1293) (fun _ h9 => h9) rfl (by decide +kernel) rfl rfl (Nat.le_of_ble_eq_true rfl) d_Mo_writeAll_190 (fun H locs hP hD hS => ?_)
        have hP : va_P D classes (Wm ty h (sF σ 0 34 ((σ.1 0 34) - 1)) px) H := hP
        have hD : va_D A (Wm ty h (sF σ 0 34 ((σ.1 0 34) - 1)) px) := hD
        exact B193 _ _ _ x2 (sF σ 0 34 ((σ.1 0 34) - 1)) hv hk (lv_sub hl [0, 1] rfl) hP hD hS
      have B160 : ∀ (H : Heap) (locs : List Loc) (ls : Array Slot) (x2 : Int32) (x4 : Int32) (σ : St), v = f_Mo_writeAll_160 (f_Mo_writeAll_12 n12) x2 x4 σ → k_Mo_writeAll_160 (k_Mo_writeAll_12 n12) x2 x4 σ → lv_has ls 5 [(0, .ref (h 0)), (2, .int x2), (4, .int x4)] → va_P D classes (Wm ty h σ px) H → va_D A (Wm ty h σ px) → va_S A s.heap H locs → W p l e (headSpec w_Mo_writeAll rm_Mo_writeAll).room s m args below meth c H locs 0 0 (MQ below (va_Qv (fun u : St => u = v) (fun u t => va_P D classes (Wm ty h u px) t.heap) A) args s 0 0 A) (F0 m 160 ls []) := by
        intro H locs ls x2 x4 σ hv hk hl hP hD hS
        unfold f_Mo_writeAll_160 at hv
        unfold k_Mo_writeAll_160 at hk
        refine lv_iload hx hb d_Mo_writeAll_160 (lv_at hl 2 rfl) ?_
        refine lv_if_lt (tgt := 177) hx hb d_Mo_writeAll_162 (by decide) (fun hc => ?_) (fun hc => ?_)
        · have hv := hv.trans (if_pos hc)
          have hk := hk.1 hc
          refine lv_aload_n hx hb d_Mo_writeAll_177 rfl (lv_at hl 0 rfl) ?_
          refine lv_bipush (v := 41) hx hb d_Mo_writeAll_178 (by decide) ?_
          obtain ⟨hk0, hk⟩ := hk
          refine va_callv (va_runV (As := [.int 41]) (rest := []) ⟨hx, hb, hml, hown, hg⟩ (c_Mo_write l D ty h px sa σ H.size 41 hk0) ⟨callB_of 1 hg (gw_C m_1668) rfl rfl rfl (hg _ m_13) (hg _ m_1665) hd_Mo_write ⟨Nat.le_of_ble_eq_true rfl, Nat.le_of_ble_eq_true rfl⟩, hg _ m_1667, hg _ ms_84⟩ (zz_preVW hM hS hA hN hK hP hD 0 rfl rfl) rfl rfl hl.1 rfl (lv_room (Nat.le_of_ble_eq_true rfl)) d_Mo_writeAll_180 ⟨Nat.le_of_ble_eq_true rfl, Nat.le_of_ble_eq_true rfl⟩) hS (fun q _ h => zz_free hD hS hA q h) (zz_free hD hS hA) (fun u180 t H locs ht hvm hp hP1 hz hk1 hS => ?_)
          rw [ht] at hP1
          rw [← hp] at hv hk
          have hD : va_D A (Wm ty h u180 px) := zz_D hD rfl
          have hP := hP1
          exact B183 _ _ _ x2 u180 hv hk (lv_sub hl [0, 1] rfl) hP hD hS
        · have hv := hv.trans (if_neg hc)
          have hk := hk.2 hc
          refine lv_aload_n hx hb d_Mo_writeAll_165 rfl (lv_at hl 0 rfl) ?_
          refine lv_bipush (v := 32) hx hb d_Mo_writeAll_166 (by decide) ?_
          obtain ⟨hk0, hk⟩ := hk
          refine va_callv (va_runV (As := [.int 32]) (rest := []) ⟨hx, hb, hml, hown, hg⟩ (c_Mo_write l D ty h px sa σ H.size 32 hk0) ⟨callB_of 1 hg (gw_C m_1668) rfl rfl rfl (hg _ m_13) (hg _ m_1665) hd_Mo_write ⟨Nat.le_of_ble_eq_true rfl, Nat.le_of_ble_eq_true rfl⟩, hg _ m_1667, hg _ ms_84⟩ (zz_preVW hM hS hA hN hK hP hD 0 rfl rfl) rfl rfl hl.1 rfl (lv_room (Nat.le_of_ble_eq_true rfl)) d_Mo_writeAll_168 ⟨Nat.le_of_ble_eq_true rfl, Nat.le_of_ble_eq_true rfl⟩) hS (fun q _ h => zz_free hD hS hA q h) (zz_free hD hS hA) (fun u168 t H locs ht hvm hp hP1 hz hk1 hS => ?_)
          rw [ht] at hP1
          rw [← hp] at hv hk
          have hD : va_D A (Wm ty h u168 px) := zz_D hD rfl
          have hP := hP1
          exact B171 _ _ _ x4 u168 hv hk (lv_sub hl [0, 2] rfl) hP hD hS
      have B143 : ∀ (H : Heap) (locs : List Loc) (ls : Array Slot) (x2 : Int32) (s0 : Int32) (σ : St), v = f_Mo_writeAll_143 (f_Mo_writeAll_12 n12) x2 s0 σ → k_Mo_writeAll_143 (k_Mo_writeAll_12 n12) x2 s0 σ → lv_has ls 5 [(0, .ref (h 0)), (2, .int x2)] → va_P D classes (Wm ty h σ px) H → va_D A (Wm ty h σ px) → va_S A s.heap H locs → W p l e (headSpec w_Mo_writeAll rm_Mo_writeAll).room s m args below meth c H locs 0 0 (MQ below (va_Qv (fun u : St => u = v) (fun u t => va_P D classes (Wm ty h u px) t.heap) A) args s 0 0 A) (F0 m 143 ls [.int s0]) := by
        intro H locs ls x2 s0 σ hv hk hl hP hD hS
        unfold f_Mo_writeAll_143 at hv
        unfold k_Mo_writeAll_143 at hk
        refine lv_istore (lv' := [(4, .int s0), (0, .ref (h 0)), (2, .int x2)]) hx hb d_Mo_writeAll_143 hl (by decide) rfl (fun ls hl => ?_)
        refine lv_aload_n hx hb d_Mo_writeAll_145 rfl (lv_at hl 1 rfl) ?_
        refine va_get (v := .ref (h 23)) (C := R_Mo) (T := T_Mo) (N := 51) hx hb hg in_Mo hown hK hP 0 rfl rfl 36 (by decide) (hg _ m_1295) (fun _ h9 => h9) rfl d_Mo_writeAll_146 ?_
        refine lv_aload_n hx hb d_Mo_writeAll_149 rfl (lv_at hl 1 rfl) ?_
        refine va_get (v := .int (σ.1 0 34)) (C := R_Mo) (T := T_Mo) (N := 51) hx hb hg in_Mo hown hK hP 0 rfl rfl 34 (by decide) (hg _ m_1293) (fun _ h9 => h9) rfl d_Mo_writeAll_150 ?_
        refine lv_iconst (v := 1) hx hb d_Mo_writeAll_153 (by decide) ?_
        refine lv_isub hx hb d_Mo_writeAll_154 ?_
        refine lv_dup2_11 hx hb d_Mo_writeAll_155 rfl rfl ?_
        obtain ⟨hk0, hk⟩ := hk
        refine va_iald hx hb hK hP 23 0 rfl rfl hk0 d_Mo_writeAll_156 ?_
        refine lv_iconst (v := 1) hx hb d_Mo_writeAll_157 (by decide) ?_
        refine lv_iadd hx hb d_Mo_writeAll_158 ?_
        obtain ⟨hk0, hk⟩ := hk
        refine va_iast hx hb hK hP hD hS 23 0 rfl rfl hk0 d_Mo_writeAll_159 (fun H locs hP hD hS => ?_)
        have hP : va_P D classes (Wm ty h (sA σ 23 ((σ.1 0 34) - 1) ((σ.1 23 ((σ.1 0 34) - 1).toNatClampNeg) + 1)) px) H := hP
        have hD : va_D A (Wm ty h (sA σ 23 ((σ.1 0 34) - 1) ((σ.1 23 ((σ.1 0 34) - 1).toNatClampNeg) + 1)) px) := hD
        exact B160 _ _ _ x2 s0 (sA σ 23 ((σ.1 0 34) - 1) ((σ.1 23 ((σ.1 0 34) - 1).toNatClampNeg) + 1)) hv hk (lv_sub hl [1, 2, 0] rfl) hP hD hS
      have B95 : ∀ (H : Heap) (locs : List Loc) (ls : Array Slot) (x2 : Int32) (x3 : Int32) (σ : St), v = f_Mo_writeAll_95 (f_Mo_writeAll_12 n12) x2 x3 σ → k_Mo_writeAll_95 (k_Mo_writeAll_12 n12) x2 x3 σ → lv_has ls 5 [(0, .ref (h 0)), (2, .int x2), (3, .int x3)] → va_P D classes (Wm ty h σ px) H → va_D A (Wm ty h σ px) → va_S A s.heap H locs → W p l e (headSpec w_Mo_writeAll rm_Mo_writeAll).room s m args below meth c H locs 0 0 (MQ below (va_Qv (fun u : St => u = v) (fun u t => va_P D classes (Wm ty h u px) t.heap) A) args s 0 0 A) (F0 m 95 ls []) := by
        intro H locs ls x2 x3 σ hv hk hl hP hD hS
        unfold f_Mo_writeAll_95 at hv
        unfold k_Mo_writeAll_95 at hk
        refine lv_aload_n hx hb d_Mo_writeAll_95 rfl (lv_at hl 0 rfl) ?_
        refine va_get (v := .ref (h 23)) (C := R_Mo) (T := T_Mo) (N := 51) hx hb hg in_Mo hown hK hP 0 rfl rfl 36 (by decide) (hg _ m_1295) (fun _ h9 => h9) rfl d_Mo_writeAll_96 ?_
        refine lv_aload_n hx hb d_Mo_writeAll_99 rfl (lv_at hl 0 rfl) ?_
        refine va_get (v := .int (σ.1 0 34)) (C := R_Mo) (T := T_Mo) (N := 51) hx hb hg in_Mo hown hK hP 0 rfl rfl 34 (by decide) (hg _ m_1293) (fun _ h9 => h9) rfl d_Mo_writeAll_100 ?_
        refine lv_iconst (v := 1) hx hb d_Mo_writeAll_103 (by decide) ?_
        refine lv_isub hx hb d_Mo_writeAll_104 ?_
        obtain ⟨hk0, hk⟩ := hk
        refine va_iald hx hb hK hP 23 0 rfl rfl hk0 d_Mo_writeAll_105 ?_
        refine lv_if_ne (tgt := 118) hx hb d_Mo_writeAll_106 (by decide) (fun hc => ?_) (fun hc => ?_)
        · have hv := hv.trans (if_neg hc)
          have hk := hk.2 hc
          refine lv_aload_n hx hb d_Mo_writeAll_118 rfl (lv_at hl 0 rfl) ?_
          refine va_get (v := .ref (h 23)) (C := R_Mo) (T := T_Mo) (N := 51) hx hb hg in_Mo hown hK hP 0 rfl rfl 36 (by decide) (hg _ m_1295) (fun _ h9 => h9) rfl d_Mo_writeAll_119 ?_
          refine lv_aload_n hx hb d_Mo_writeAll_122 rfl (lv_at hl 0 rfl) ?_
          refine va_get (v := .int (σ.1 0 34)) (C := R_Mo) (T := T_Mo) (N := 51) hx hb hg in_Mo hown hK hP 0 rfl rfl 34 (by decide) (hg _ m_1293) (fun _ h9 => h9) rfl d_Mo_writeAll_123 ?_
          refine lv_iconst (v := 1) hx hb d_Mo_writeAll_126 (by decide) ?_
          refine lv_isub hx hb d_Mo_writeAll_127 ?_
          obtain ⟨hk0, hk⟩ := hk
          refine va_iald hx hb hK hP 23 0 rfl rfl hk0 d_Mo_writeAll_128 ?_
          refine lv_iconst (v := 1) hx hb d_Mo_writeAll_129 (by decide) ?_
          refine lv_icmp_ne (tgt := 142) hx hb d_Mo_writeAll_130 (by decide) (fun hc => ?_) (fun hc => ?_)
          · have hv := hv.trans (if_neg hc)
            have hk := hk.2 hc
            refine lv_iconst (v := -1) hx hb d_Mo_writeAll_142 (by decide) ?_
            exact B143 _ _ _ x2 (-1) σ hv hk (lv_sub hl [0, 1] rfl) hP hD hS
          · have hv := hv.trans (if_pos hc)
            have hk := hk.1 hc
            refine lv_aload_n hx hb d_Mo_writeAll_133 rfl (lv_at hl 0 rfl) ?_
            refine va_get (v := .ref (h 9)) (C := R_Mo) (T := T_Mo) (N := 51) hx hb hg in_Mo hown hK hP 0 rfl rfl 14 (by decide) (hg _ m_1273) (fun _ h9 => h9) rfl d_Mo_writeAll_134 ?_
            refine lv_iload_n hx hb d_Mo_writeAll_137 rfl (lv_at hl 2 rfl) ?_
            obtain ⟨hk0, hk⟩ := hk
            refine va_iald hx hb hK hP 9 0 rfl rfl hk0 d_Mo_writeAll_138 ?_
            refine lv_goto (tgt := 143) hx hb d_Mo_writeAll_139 (by decide) ?_
            exact B143 _ _ _ x2 (σ.1 9 x3.toNatClampNeg) σ hv hk (lv_sub hl [0, 1] rfl) hP hD hS
        · have hv := hv.trans (if_pos hc)
          have hk := hk.1 hc
          refine lv_aload_n hx hb d_Mo_writeAll_109 rfl (lv_at hl 0 rfl) ?_
          refine va_get (v := .ref (h 8)) (C := R_Mo) (T := T_Mo) (N := 51) hx hb hg in_Mo hown hK hP 0 rfl rfl 13 (by decide) (hg _ m_1272) (fun _ h9 => h9) rfl d_Mo_writeAll_110 ?_
          refine lv_iload_n hx hb d_Mo_writeAll_113 rfl (lv_at hl 2 rfl) ?_
          obtain ⟨hk0, hk⟩ := hk
          refine va_iald hx hb hK hP 8 0 rfl rfl hk0 d_Mo_writeAll_114 ?_
          refine lv_goto (tgt := 143) hx hb d_Mo_writeAll_115 (by decide) ?_
          exact B143 _ _ _ x2 (σ.1 8 x3.toNatClampNeg) σ hv hk (lv_sub hl [0, 1] rfl) hP hD hS
      have B73 : ∀ (H : Heap) (locs : List Loc) (ls : Array Slot) (x2 : Int32) (σ : St), v = f_Mo_writeAll_73 (f_Mo_writeAll_12 n12) x2 σ → k_Mo_writeAll_73 (k_Mo_writeAll_12 n12) x2 σ → lv_has ls 5 [(0, .ref (h 0)), (2, .int x2)] → va_P D classes (Wm ty h σ px) H → va_D A (Wm ty h σ px) → va_S A s.heap H locs → W p l e (headSpec w_Mo_writeAll rm_Mo_writeAll).room s m args below meth c H locs 0 0 (MQ below (va_Qv (fun u : St => u = v) (fun u t => va_P D classes (Wm ty h u px) t.heap) A) args s 0 0 A) (F0 m 73 ls []) := by
        intro H locs ls x2 σ hv hk hl hP hD hS
        unfold f_Mo_writeAll_73 at hv
        unfold k_Mo_writeAll_73 at hk
        refine lv_aload_n hx hb d_Mo_writeAll_73 rfl (lv_at hl 0 rfl) ?_
        refine va_get (v := .int (σ.1 0 34)) (C := R_Mo) (T := T_Mo) (N := 51) hx hb hg in_Mo hown hK hP 0 rfl rfl 34 (by decide) (hg _ m_1293) (fun _ h9 => h9) rfl d_Mo_writeAll_74 ?_
        refine lv_if_ne (tgt := 83) hx hb d_Mo_writeAll_77 (by decide) (fun hc => ?_) (fun hc => ?_)
        · have hv := hv.trans (if_neg hc)
          have hk := hk.2 hc
          refine lv_aload_n hx hb d_Mo_writeAll_83 rfl (lv_at hl 0 rfl) ?_
          refine va_get (v := .ref (h 24)) (C := R_Mo) (T := T_Mo) (N := 51) hx hb hg in_Mo hown hK hP 0 rfl rfl 37 (by decide) (hg _ m_1296) (fun _ h9 => h9) rfl d_Mo_writeAll_84 ?_
          refine lv_aload_n hx hb d_Mo_writeAll_87 rfl (lv_at hl 0 rfl) ?_
          refine va_get (v := .int (σ.1 0 34)) (C := R_Mo) (T := T_Mo) (N := 51) hx hb hg in_Mo hown hK hP 0 rfl rfl 34 (by decide) (hg _ m_1293) (fun _ h9 => h9) rfl d_Mo_writeAll_88 ?_
          refine lv_iconst (v := 1) hx hb d_Mo_writeAll_91 (by decide) ?_
          refine lv_isub hx hb d_Mo_writeAll_92 ?_
          obtain ⟨hk0, hk⟩ := hk
          refine va_iald hx hb hK hP 24 0 rfl rfl hk0 d_Mo_writeAll_93 ?_
          refine lv_istore_n (lv' := [(3, .int (σ.1 24 ((σ.1 0 34) - 1).toNatClampNeg)), (0, .ref (h 0)), (2, .int x2)]) hx hb d_Mo_writeAll_94 rfl hl (by decide) rfl (fun ls hl => ?_)
          exact B95 _ _ _ x2 (σ.1 24 ((σ.1 0 34) - 1).toNatClampNeg) σ hv hk (lv_sub hl [1, 2, 0] rfl) hP hD hS
        · have hv := hv.trans (if_pos hc)
          have hk := hk.1 hc
          refine lv_goto (tgt := 12) hx hb d_Mo_writeAll_80 (by decide) ?_
          exact ih12 _ _ _ x2 σ hv hk (lv_sub hl [0, 1] rfl) hP hD hS
      have B71 : ∀ (H : Heap) (locs : List Loc) (ls : Array Slot) (σ : St), v = f_Mo_writeAll_71 (f_Mo_writeAll_12 n12) σ → k_Mo_writeAll_71 (k_Mo_writeAll_12 n12) σ → lv_has ls 5 [(0, .ref (h 0))] → va_P D classes (Wm ty h σ px) H → va_D A (Wm ty h σ px) → va_S A s.heap H locs → W p l e (headSpec w_Mo_writeAll rm_Mo_writeAll).room s m args below meth c H locs 0 0 (MQ below (va_Qv (fun u : St => u = v) (fun u t => va_P D classes (Wm ty h u px) t.heap) A) args s 0 0 A) (F0 m 71 ls []) := by
        intro H locs ls σ hv hk hl hP hD hS
        unfold f_Mo_writeAll_71 at hv
        unfold k_Mo_writeAll_71 at hk
        refine lv_iconst (v := -1) hx hb d_Mo_writeAll_71 (by decide) ?_
        refine lv_istore_n (lv' := [(2, .int (-1)), (0, .ref (h 0))]) hx hb d_Mo_writeAll_72 rfl hl (by decide) rfl (fun ls hl => ?_)
        exact B73 _ _ _ (-1) σ hv hk (lv_sub hl [1, 0] rfl) hP hD hS
      have B61 : ∀ (H : Heap) (locs : List Loc) (ls : Array Slot) (σ : St), v = f_Mo_writeAll_61 (f_Mo_writeAll_12 n12) σ → k_Mo_writeAll_61 (k_Mo_writeAll_12 n12) σ → lv_has ls 5 [(0, .ref (h 0))] → va_P D classes (Wm ty h σ px) H → va_D A (Wm ty h σ px) → va_S A s.heap H locs → W p l e (headSpec w_Mo_writeAll rm_Mo_writeAll).room s m args below meth c H locs 0 0 (MQ below (va_Qv (fun u : St => u = v) (fun u t => va_P D classes (Wm ty h u px) t.heap) A) args s 0 0 A) (F0 m 61 ls []) := by
        intro H locs ls σ hv hk hl hP hD hS
        unfold f_Mo_writeAll_61 at hv
        unfold k_Mo_writeAll_61 at hk
        refine lv_aload_n hx hb d_Mo_writeAll_61 rfl (lv_at hl 0 rfl) ?_
        refine lv_dup hx hb d_Mo_writeAll_62 rfl ?_
        refine va_get (v := .int (σ.1 0 34)) (C := R_Mo) (T := T_Mo) (N := 51) hx hb hg in_Mo hown hK hP 0 rfl rfl 34 (by decide) (hg _ m_1293) (fun _ h9 => h9) rfl d_Mo_writeAll_63 ?_
        refine lv_iconst (v := 1) hx hb d_Mo_writeAll_66 (by decide) ?_
        refine lv_iadd hx hb d_Mo_writeAll_67 ?_
        refine va_put (v := .int ((σ.1 0 34) + 1)) (ty := .int) (C := R_Mo) (T := T_Mo) (N := 51) hx hb hg in_Mo ty_Mo ok_Mo nm_Mo hown hK hP hD hS 0 rfl rfl 34 (by decide) (hg _ m_1293) (fun _ h9 => h9) rfl (by decide +kernel) rfl rfl (Nat.le_of_ble_eq_true rfl) d_Mo_writeAll_68 (fun H locs hP hD hS => ?_)
        have hP : va_P D classes (Wm ty h (sF σ 0 34 ((σ.1 0 34) + 1)) px) H := hP
        have hD : va_D A (Wm ty h (sF σ 0 34 ((σ.1 0 34) + 1)) px) := hD
        exact B71 _ _ _  (sF σ 0 34 ((σ.1 0 34) + 1)) hv hk (lv_sub hl [0] rfl) hP hD hS
      have B51 : ∀ (H : Heap) (locs : List Loc) (ls : Array Slot) (σ : St), v = f_Mo_writeAll_51 (f_Mo_writeAll_12 n12) σ → k_Mo_writeAll_51 (k_Mo_writeAll_12 n12) σ → lv_has ls 5 [(0, .ref (h 0))] → va_P D classes (Wm ty h σ px) H → va_D A (Wm ty h σ px) → va_S A s.heap H locs → W p l e (headSpec w_Mo_writeAll rm_Mo_writeAll).room s m args below meth c H locs 0 0 (MQ below (va_Qv (fun u : St => u = v) (fun u t => va_P D classes (Wm ty h u px) t.heap) A) args s 0 0 A) (F0 m 51 ls []) := by
        intro H locs ls σ hv hk hl hP hD hS
        unfold f_Mo_writeAll_51 at hv
        unfold k_Mo_writeAll_51 at hk
        refine lv_aload_n hx hb d_Mo_writeAll_51 rfl (lv_at hl 0 rfl) ?_
        refine va_get (v := .ref (h 23)) (C := R_Mo) (T := T_Mo) (N := 51) hx hb hg in_Mo hown hK hP 0 rfl rfl 36 (by decide) (hg _ m_1295) (fun _ h9 => h9) rfl d_Mo_writeAll_52 ?_
        refine lv_aload_n hx hb d_Mo_writeAll_55 rfl (lv_at hl 0 rfl) ?_
        refine va_get (v := .int (σ.1 0 34)) (C := R_Mo) (T := T_Mo) (N := 51) hx hb hg in_Mo hown hK hP 0 rfl rfl 34 (by decide) (hg _ m_1293) (fun _ h9 => h9) rfl d_Mo_writeAll_56 ?_
        refine lv_iconst (v := 0) hx hb d_Mo_writeAll_59 (by decide) ?_
        obtain ⟨hk0, hk⟩ := hk
        refine va_iast hx hb hK hP hD hS 23 0 rfl rfl hk0 d_Mo_writeAll_60 (fun H locs hP hD hS => ?_)
        have hP : va_P D classes (Wm ty h (sA σ 23 (σ.1 0 34) 0) px) H := hP
        have hD : va_D A (Wm ty h (sA σ 23 (σ.1 0 34) 0) px) := hD
        exact B61 _ _ _  (sA σ 23 (σ.1 0 34) 0) hv hk (lv_sub hl [0] rfl) hP hD hS
      have B32 : ∀ (H : Heap) (locs : List Loc) (ls : Array Slot) (x2 : Int32) (σ : St), v = f_Mo_writeAll_32 (f_Mo_writeAll_12 n12) x2 σ → k_Mo_writeAll_32 (k_Mo_writeAll_12 n12) x2 σ → lv_has ls 5 [(0, .ref (h 0)), (2, .int x2)] → va_P D classes (Wm ty h σ px) H → va_D A (Wm ty h σ px) → va_S A s.heap H locs → W p l e (headSpec w_Mo_writeAll rm_Mo_writeAll).room s m args below meth c H locs 0 0 (MQ below (va_Qv (fun u : St => u = v) (fun u t => va_P D classes (Wm ty h u px) t.heap) A) args s 0 0 A) (F0 m 32 ls []) := by
        intro H locs ls x2 σ hv hk hl hP hD hS
        unfold f_Mo_writeAll_32 at hv
        unfold k_Mo_writeAll_32 at hk
        refine lv_aload_n hx hb d_Mo_writeAll_32 rfl (lv_at hl 0 rfl) ?_
        refine va_get (v := .ref (h 8)) (C := R_Mo) (T := T_Mo) (N := 51) hx hb hg in_Mo hown hK hP 0 rfl rfl 13 (by decide) (hg _ m_1272) (fun _ h9 => h9) rfl d_Mo_writeAll_33 ?_
        refine lv_iload_n hx hb d_Mo_writeAll_36 rfl (lv_at hl 1 rfl) ?_
        obtain ⟨hk0, hk⟩ := hk
        refine va_iald hx hb hK hP 8 0 rfl rfl hk0 d_Mo_writeAll_37 ?_
        refine lv_if_lt (tgt := 71) hx hb d_Mo_writeAll_38 (by decide) (fun hc => ?_) (fun hc => ?_)
        · have hv := hv.trans (if_pos hc)
          have hk := hk.1 hc
          exact B71 _ _ _  σ hv hk (lv_sub hl [0] rfl) hP hD hS
        · have hv := hv.trans (if_neg hc)
          have hk := hk.2 hc
          refine lv_aload_n hx hb d_Mo_writeAll_41 rfl (lv_at hl 0 rfl) ?_
          refine va_get (v := .ref (h 24)) (C := R_Mo) (T := T_Mo) (N := 51) hx hb hg in_Mo hown hK hP 0 rfl rfl 37 (by decide) (hg _ m_1296) (fun _ h9 => h9) rfl d_Mo_writeAll_42 ?_
          refine lv_aload_n hx hb d_Mo_writeAll_45 rfl (lv_at hl 0 rfl) ?_
          refine va_get (v := .int (σ.1 0 34)) (C := R_Mo) (T := T_Mo) (N := 51) hx hb hg in_Mo hown hK hP 0 rfl rfl 34 (by decide) (hg _ m_1293) (fun _ h9 => h9) rfl d_Mo_writeAll_46 ?_
          refine lv_iload_n hx hb d_Mo_writeAll_49 rfl (lv_at hl 1 rfl) ?_
          obtain ⟨hk0, hk⟩ := hk
          refine va_iast hx hb hK hP hD hS 24 0 rfl rfl hk0 d_Mo_writeAll_50 (fun H locs hP hD hS => ?_)
          have hP : va_P D classes (Wm ty h (sA σ 24 (σ.1 0 34) x2) px) H := hP
          have hD : va_D A (Wm ty h (sA σ 24 (σ.1 0 34) x2) px) := hD
          exact B51 _ _ _  (sA σ 24 (σ.1 0 34) x2) hv hk (lv_sub hl [0] rfl) hP hD hS
      have B23 : ∀ (H : Heap) (locs : List Loc) (ls : Array Slot) (x2 : Int32) (σ : St), v = f_Mo_writeAll_23 (f_Mo_writeAll_12 n12) x2 σ → k_Mo_writeAll_23 (k_Mo_writeAll_12 n12) x2 σ → lv_has ls 5 [(0, .ref (h 0)), (2, .int x2)] → va_P D classes (Wm ty h σ px) H → va_D A (Wm ty h σ px) → va_S A s.heap H locs → W p l e (headSpec w_Mo_writeAll rm_Mo_writeAll).room s m args below meth c H locs 0 0 (MQ below (va_Qv (fun u : St => u = v) (fun u t => va_P D classes (Wm ty h u px) t.heap) A) args s 0 0 A) (F0 m 23 ls []) := by
        intro H locs ls x2 σ hv hk hl hP hD hS
        unfold f_Mo_writeAll_23 at hv
        unfold k_Mo_writeAll_23 at hk
        refine lv_iload_n hx hb d_Mo_writeAll_23 rfl (lv_at hl 1 rfl) ?_
        refine lv_if_lt (tgt := 73) hx hb d_Mo_writeAll_24 (by decide) (fun hc => ?_) (fun hc => ?_)
        · have hv := hv.trans (if_pos hc)
          have hk := hk.1 hc
          exact B73 _ _ _ x2 σ hv hk (lv_sub hl [0, 1] rfl) hP hD hS
        · have hv := hv.trans (if_neg hc)
          have hk := hk.2 hc
          refine lv_aload_n hx hb d_Mo_writeAll_27 rfl (lv_at hl 0 rfl) ?_
          refine lv_iload_n hx hb d_Mo_writeAll_28 rfl (lv_at hl 1 rfl) ?_
          obtain ⟨hk0, hk⟩ := hk
          refine va_callv (va_runV (As := [.int x2]) (rest := []) ⟨hx, hb, hml, hown, hg⟩ (c_Mo_writeHead l D ty h px sa σ H.size x2 hk0) ⟨callB_of 1 hg (gw_C m_1664) rfl rfl rfl (hg _ m_13) (hg _ m_1661) hd_Mo_writeHead ⟨Nat.le_of_ble_eq_true rfl, Nat.le_of_ble_eq_true rfl⟩, hg _ m_1663, hg _ ms_83⟩ (zz_preVW hM hS hA hN hK hP hD 0 rfl rfl) rfl rfl hl.1 rfl (lv_room (Nat.le_of_ble_eq_true rfl)) d_Mo_writeAll_29 ⟨Nat.le_of_ble_eq_true rfl, Nat.le_of_ble_eq_true rfl⟩) hS (fun q _ h => zz_free hD hS hA q h) (zz_free hD hS hA) (fun u29 t H locs ht hvm hp hP1 hz hk1 hS => ?_)
          rw [ht] at hP1
          rw [← hp] at hv hk
          have hD : va_D A (Wm ty h u29 px) := zz_D hD rfl
          have hP := hP1
          exact B32 _ _ _ x2 u29 hv hk (lv_sub hl [0, 1] rfl) hP hD hS
      intro H locs ls x2 σ hv hk hl hP hD hS
      rw [f_Mo_writeAll_12] at hv
      rw [k_Mo_writeAll_12] at hk
      refine lv_iload_n hx hb d_Mo_writeAll_12 rfl (lv_at hl 1 rfl) ?_
      refine lv_if_ge (tgt := 23) hx hb d_Mo_writeAll_13 (by decide) (fun hc => ?_) (fun hc => ?_)
      · have hv := hv.trans (if_pos hc)
        have hk := hk.1 hc
        exact B23 _ _ _ x2 σ hv hk (lv_sub hl [0, 1] rfl) hP hD hS
      · have hv := hv.trans (if_neg hc)
        have hk := hk.2 hc
        refine lv_aload_n hx hb d_Mo_writeAll_16 rfl (lv_at hl 0 rfl) ?_
        refine va_get (v := .int (σ.1 0 34)) (C := R_Mo) (T := T_Mo) (N := 51) hx hb hg in_Mo hown hK hP 0 rfl rfl 34 (by decide) (hg _ m_1293) (fun _ h9 => h9) rfl d_Mo_writeAll_17 ?_
        refine lv_if_le (tgt := 196) hx hb d_Mo_writeAll_20 (by decide) (fun hc => ?_) (fun hc => ?_)
        · have hv := hv.trans (if_pos hc)
          have hk := hk.1 hc
          exact W.vret hx hb hr (fun t ht hW => ⟨⟨_, rfl, hv.symm, by dsimp only; rw [ht]; exact hP⟩, hS.F ht⟩) hS.2.2 d_Mo_writeAll_196
        · have hv := hv.trans (if_neg hc)
          have hk := hk.2 hc
          exact B23 _ _ _ x2 σ hv hk (lv_sub hl [0, 1] rfl) hP hD hS
  have B10 : ∀ (H : Heap) (locs : List Loc) (ls : Array Slot) (x1 : Int32) (σ : St), v = f_Mo_writeAll_10 x1 σ → k_Mo_writeAll_10 x1 σ → lv_has ls 5 [(0, .ref (h 0)), (1, .int x1)] → va_P D classes (Wm ty h σ px) H → va_D A (Wm ty h σ px) → va_S A s.heap H locs → W p l e (headSpec w_Mo_writeAll rm_Mo_writeAll).room s m args below meth c H locs 0 0 (MQ below (va_Qv (fun u : St => u = v) (fun u t => va_P D classes (Wm ty h u px) t.heap) A) args s 0 0 A) (F0 m 10 ls []) := by
    intro H locs ls x1 σ hv hk hl hP hD hS
    unfold f_Mo_writeAll_10 at hv
    unfold k_Mo_writeAll_10 at hk
    refine lv_iload_n hx hb d_Mo_writeAll_10 rfl (lv_at hl 1 rfl) ?_
    refine lv_istore_n (lv' := [(2, .int x1), (0, .ref (h 0)), (1, .int x1)]) hx hb d_Mo_writeAll_11 rfl hl (by decide) rfl (fun ls hl => ?_)
    exact B12 100000 _ _ _ x1 σ hv hk (lv_sub hl [1, 0] rfl) hP hD hS
  have B5 : ∀ (H : Heap) (locs : List Loc) (ls : Array Slot) (x1 : Int32) (σ : St), v = f_Mo_writeAll_5 x1 σ → k_Mo_writeAll_5 x1 σ → lv_has ls 5 [(0, .ref (h 0)), (1, .int x1)] → va_P D classes (Wm ty h σ px) H → va_D A (Wm ty h σ px) → va_S A s.heap H locs → W p l e (headSpec w_Mo_writeAll rm_Mo_writeAll).room s m args below meth c H locs 0 0 (MQ below (va_Qv (fun u : St => u = v) (fun u t => va_P D classes (Wm ty h u px) t.heap) A) args s 0 0 A) (F0 m 5 ls []) := by
    intro H locs ls x1 σ hv hk hl hP hD hS
    unfold f_Mo_writeAll_5 at hv
    unfold k_Mo_writeAll_5 at hk
    refine lv_aload_n hx hb d_Mo_writeAll_5 rfl (lv_at hl 0 rfl) ?_
    refine lv_iconst (v := 0) hx hb d_Mo_writeAll_6 (by decide) ?_
    refine va_put (v := .int 0) (ty := .int) (C := R_Mo) (T := T_Mo) (N := 51) hx hb hg in_Mo ty_Mo ok_Mo nm_Mo hown hK hP hD hS 0 rfl rfl 34 (by decide) (hg _ m_1293) (fun _ h9 => h9) rfl (by decide +kernel) rfl rfl (Nat.le_of_ble_eq_true rfl) d_Mo_writeAll_7 (fun H locs hP hD hS => ?_)
    have hP : va_P D classes (Wm ty h (sF σ 0 34 0) px) H := hP
    have hD : va_D A (Wm ty h (sF σ 0 34 0) px) := hD
    exact B10 _ _ _ x1 (sF σ 0 34 0) hv hk (lv_sub hl [0, 1] rfl) hP hD hS
  unfold f_Mo_writeAll at hv
  unfold k_Mo_writeAll at hk
  refine lv_aload_n hx hb d_Mo_writeAll_0 rfl (lv_at hl 0 rfl) ?_
  refine lv_iconst (v := 0) hx hb d_Mo_writeAll_1 (by decide) ?_
  refine va_put (v := .int 0) (ty := .int) (C := R_Mo) (T := T_Mo) (N := 51) hx hb hg in_Mo ty_Mo ok_Mo nm_Mo hown hK hP hD hS 0 rfl rfl 46 (by decide) (hg _ m_1305) (fun _ h9 => h9) rfl (by decide +kernel) rfl rfl (Nat.le_of_ble_eq_true rfl) d_Mo_writeAll_2 (fun H locs hP hD hS => ?_)
  have hP : va_P D classes (Wm ty h (sF σ 0 46 0) px) H := hP
  have hD : va_D A (Wm ty h (sF σ 0 46 0) px) := hD
  exact B5 _ _ _ a1 (sF σ 0 46 0) hv hk (lv_sub hl [0, 1] rfl) hP hD hS

