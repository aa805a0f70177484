-- ClauseLedgerModel.excess(II)V
abbrev b_Mo_excess : ByteArray := prog_14_method_51_code
def y_Mo_excess : MethodName := ⟨"ClauseLedgerModel", "excess", "(II)V"⟩
theorem hd_Mo_excess : y_Mo_excess.cls ≠ "java/lang/invoke/MethodHandle" ∧ y_Mo_excess.cls ≠ "java/lang/invoke/VarHandle" ∧ (parseMethodDescriptor y_Mo_excess.desc).map (fun d => d.parameters.length) = some 2 := by decide +kernel
theorem d_Mo_excess_0 : decode b_Mo_excess 0 = .ok (.aload_n 0, 1) := by decide +kernel
theorem d_Mo_excess_1 : decode b_Mo_excess 1 = .ok (.getfield 26, 3) := by decide +kernel
theorem d_Mo_excess_4 : decode b_Mo_excess 4 = .ok (.iload_n 1, 1) := by decide +kernel
theorem d_Mo_excess_5 : decode b_Mo_excess 5 = .ok (.iaload, 1) := by decide +kernel
theorem d_Mo_excess_6 : decode b_Mo_excess 6 = .ok (.bipush 7, 2) := by decide +kernel
theorem d_Mo_excess_8 : decode b_Mo_excess 8 = .ok (.if_icmp .ne 12, 3) := by decide +kernel
theorem d_Mo_excess_11 : decode b_Mo_excess 11 = .ok (.aload_n 0, 1) := by decide +kernel
theorem d_Mo_excess_12 : decode b_Mo_excess 12 = .ok (.getfield 35, 3) := by decide +kernel
theorem d_Mo_excess_15 : decode b_Mo_excess 15 = .ok (.iload_n 1, 1) := by decide +kernel
theorem d_Mo_excess_16 : decode b_Mo_excess 16 = .ok (.iaload, 1) := by decide +kernel
theorem d_Mo_excess_17 : decode b_Mo_excess 17 = .ok (.goto 4, 3) := by decide +kernel
theorem d_Mo_excess_20 : decode b_Mo_excess 20 = .ok (.iload_n 1, 1) := by decide +kernel
theorem d_Mo_excess_21 : decode b_Mo_excess 21 = .ok (.istore_n 3, 1) := by decide +kernel
theorem d_Mo_excess_22 : decode b_Mo_excess 22 = .ok (.aload_n 0, 1) := by decide +kernel
theorem d_Mo_excess_23 : decode b_Mo_excess 23 = .ok (.getfield 26, 3) := by decide +kernel
theorem d_Mo_excess_26 : decode b_Mo_excess 26 = .ok (.iload_n 1, 1) := by decide +kernel
theorem d_Mo_excess_27 : decode b_Mo_excess 27 = .ok (.iaload, 1) := by decide +kernel
theorem d_Mo_excess_28 : decode b_Mo_excess 28 = .ok (.bipush 7, 2) := by decide +kernel
theorem d_Mo_excess_30 : decode b_Mo_excess 30 = .ok (.if_icmp .ne 18, 3) := by decide +kernel
theorem d_Mo_excess_33 : decode b_Mo_excess 33 = .ok (.aload_n 0, 1) := by decide +kernel
theorem d_Mo_excess_34 : decode b_Mo_excess 34 = .ok (.getfield 26, 3) := by decide +kernel
theorem d_Mo_excess_37 : decode b_Mo_excess 37 = .ok (.iload_n 3, 1) := by decide +kernel
theorem d_Mo_excess_38 : decode b_Mo_excess 38 = .ok (.iaload, 1) := by decide +kernel
theorem d_Mo_excess_39 : decode b_Mo_excess 39 = .ok (.bipush 6, 2) := by decide +kernel
theorem d_Mo_excess_41 : decode b_Mo_excess 41 = .ok (.if_icmp .ne 7, 3) := by decide +kernel
theorem d_Mo_excess_44 : decode b_Mo_excess 44 = .ok (.iconst 1, 1) := by decide +kernel
theorem d_Mo_excess_45 : decode b_Mo_excess 45 = .ok (.goto 4, 3) := by decide +kernel
theorem d_Mo_excess_48 : decode b_Mo_excess 48 = .ok (.iconst 0, 1) := by decide +kernel
theorem d_Mo_excess_49 : decode b_Mo_excess 49 = .ok (.istore 4, 2) := by decide +kernel
theorem d_Mo_excess_51 : decode b_Mo_excess 51 = .ok (.aload_n 0, 1) := by decide +kernel
theorem d_Mo_excess_52 : decode b_Mo_excess 52 = .ok (.iload 4, 2) := by decide +kernel
theorem d_Mo_excess_54 : decode b_Mo_excess 54 = .ok (.ifCond .eq 12, 3) := by decide +kernel
theorem d_Mo_excess_57 : decode b_Mo_excess 57 = .ok (.aload_n 0, 1) := by decide +kernel
theorem d_Mo_excess_58 : decode b_Mo_excess 58 = .ok (.getfield 38, 3) := by decide +kernel
theorem d_Mo_excess_61 : decode b_Mo_excess 61 = .ok (.iload_n 3, 1) := by decide +kernel
theorem d_Mo_excess_62 : decode b_Mo_excess 62 = .ok (.iaload, 1) := by decide +kernel
theorem d_Mo_excess_63 : decode b_Mo_excess 63 = .ok (.goto 9, 3) := by decide +kernel
theorem d_Mo_excess_66 : decode b_Mo_excess 66 = .ok (.aload_n 0, 1) := by decide +kernel
theorem d_Mo_excess_67 : decode b_Mo_excess 67 = .ok (.getfield 35, 3) := by decide +kernel
theorem d_Mo_excess_70 : decode b_Mo_excess 70 = .ok (.iload_n 3, 1) := by decide +kernel
theorem d_Mo_excess_71 : decode b_Mo_excess 71 = .ok (.iaload, 1) := by decide +kernel
theorem d_Mo_excess_72 : decode b_Mo_excess 72 = .ok (.iload_n 2, 1) := by decide +kernel
theorem d_Mo_excess_73 : decode b_Mo_excess 73 = .ok (.invokevirtual 272, 3) := by decide +kernel
theorem d_Mo_excess_76 : decode b_Mo_excess 76 = .ok (.aload_n 0, 1) := by decide +kernel
theorem d_Mo_excess_77 : decode b_Mo_excess 77 = .ok (.getfield 251, 3) := by decide +kernel
theorem d_Mo_excess_80 : decode b_Mo_excess 80 = .ok (.lstore 5, 2) := by decide +kernel
theorem d_Mo_excess_82 : decode b_Mo_excess 82 = .ok (.aload_n 0, 1) := by decide +kernel
theorem d_Mo_excess_83 : decode b_Mo_excess 83 = .ok (.getfield 255, 3) := by decide +kernel
theorem d_Mo_excess_86 : decode b_Mo_excess 86 = .ok (.lstore 7, 2) := by decide +kernel
theorem d_Mo_excess_88 : decode b_Mo_excess 88 = .ok (.aload_n 0, 1) := by decide +kernel
theorem d_Mo_excess_89 : decode b_Mo_excess 89 = .ok (.getfield 258, 3) := by decide +kernel
theorem d_Mo_excess_92 : decode b_Mo_excess 92 = .ok (.ifCond .eq 4, 3) := by decide +kernel
theorem d_Mo_excess_95 : decode b_Mo_excess 95 = .ok (.return_, 1) := by decide +kernel
theorem d_Mo_excess_96 : decode b_Mo_excess 96 = .ok (.aload_n 0, 1) := by decide +kernel
theorem d_Mo_excess_97 : decode b_Mo_excess 97 = .ok (.iload 4, 2) := by decide +kernel
theorem d_Mo_excess_99 : decode b_Mo_excess 99 = .ok (.ifCond .eq 12, 3) := by decide +kernel
theorem d_Mo_excess_102 : decode b_Mo_excess 102 = .ok (.aload_n 0, 1) := by decide +kernel
theorem d_Mo_excess_103 : decode b_Mo_excess 103 = .ok (.getfield 35, 3) := by decide +kernel
theorem d_Mo_excess_106 : decode b_Mo_excess 106 = .ok (.iload_n 3, 1) := by decide +kernel
theorem d_Mo_excess_107 : decode b_Mo_excess 107 = .ok (.iaload, 1) := by decide +kernel
theorem d_Mo_excess_108 : decode b_Mo_excess 108 = .ok (.goto 9, 3) := by decide +kernel
theorem d_Mo_excess_111 : decode b_Mo_excess 111 = .ok (.aload_n 0, 1) := by decide +kernel
theorem d_Mo_excess_112 : decode b_Mo_excess 112 = .ok (.getfield 38, 3) := by decide +kernel
theorem d_Mo_excess_115 : decode b_Mo_excess 115 = .ok (.iload_n 3, 1) := by decide +kernel
theorem d_Mo_excess_116 : decode b_Mo_excess 116 = .ok (.iaload, 1) := by decide +kernel
theorem d_Mo_excess_117 : decode b_Mo_excess 117 = .ok (.iload_n 2, 1) := by decide +kernel
theorem d_Mo_excess_118 : decode b_Mo_excess 118 = .ok (.invokevirtual 272, 3) := by decide +kernel
theorem d_Mo_excess_121 : decode b_Mo_excess 121 = .ok (.aload_n 0, 1) := by decide +kernel
theorem d_Mo_excess_122 : decode b_Mo_excess 122 = .ok (.getfield 258, 3) := by decide +kernel
theorem d_Mo_excess_125 : decode b_Mo_excess 125 = .ok (.ifCond .ne 16, 3) := by decide +kernel
theorem d_Mo_excess_128 : decode b_Mo_excess 128 = .ok (.aload_n 0, 1) := by decide +kernel
theorem d_Mo_excess_129 : decode b_Mo_excess 129 = .ok (.aload_n 0, 1) := by decide +kernel
theorem d_Mo_excess_130 : decode b_Mo_excess 130 = .ok (.getfield 251, 3) := by decide +kernel
theorem d_Mo_excess_133 : decode b_Mo_excess 133 = .ok (.lneg, 1) := by decide +kernel
theorem d_Mo_excess_134 : decode b_Mo_excess 134 = .ok (.aload_n 0, 1) := by decide +kernel
theorem d_Mo_excess_135 : decode b_Mo_excess 135 = .ok (.getfield 255, 3) := by decide +kernel
theorem d_Mo_excess_138 : decode b_Mo_excess 138 = .ok (.invokevirtual 268, 3) := by decide +kernel
theorem d_Mo_excess_141 : decode b_Mo_excess 141 = .ok (.aload_n 0, 1) := by decide +kernel
theorem d_Mo_excess_142 : decode b_Mo_excess 142 = .ok (.getfield 258, 3) := by decide +kernel
theorem d_Mo_excess_145 : decode b_Mo_excess 145 = .ok (.ifCond .ne 29, 3) := by decide +kernel
theorem d_Mo_excess_148 : decode b_Mo_excess 148 = .ok (.aload_n 0, 1) := by decide +kernel
theorem d_Mo_excess_149 : decode b_Mo_excess 149 = .ok (.lload 5, 2) := by decide +kernel
theorem d_Mo_excess_151 : decode b_Mo_excess 151 = .ok (.aload_n 0, 1) := by decide +kernel
theorem d_Mo_excess_152 : decode b_Mo_excess 152 = .ok (.getfield 255, 3) := by decide +kernel
theorem d_Mo_excess_155 : decode b_Mo_excess 155 = .ok (.lmul, 1) := by decide +kernel
theorem d_Mo_excess_156 : decode b_Mo_excess 156 = .ok (.aload_n 0, 1) := by decide +kernel
theorem d_Mo_excess_157 : decode b_Mo_excess 157 = .ok (.getfield 251, 3) := by decide +kernel
theorem d_Mo_excess_160 : decode b_Mo_excess 160 = .ok (.lload 7, 2) := by decide +kernel
theorem d_Mo_excess_162 : decode b_Mo_excess 162 = .ok (.lmul, 1) := by decide +kernel
theorem d_Mo_excess_163 : decode b_Mo_excess 163 = .ok (.ladd, 1) := by decide +kernel
theorem d_Mo_excess_164 : decode b_Mo_excess 164 = .ok (.lload 7, 2) := by decide +kernel
theorem d_Mo_excess_166 : decode b_Mo_excess 166 = .ok (.aload_n 0, 1) := by decide +kernel
theorem d_Mo_excess_167 : decode b_Mo_excess 167 = .ok (.getfield 255, 3) := by decide +kernel
theorem d_Mo_excess_170 : decode b_Mo_excess 170 = .ok (.lmul, 1) := by decide +kernel
theorem d_Mo_excess_171 : decode b_Mo_excess 171 = .ok (.invokevirtual 268, 3) := by decide +kernel
theorem d_Mo_excess_174 : decode b_Mo_excess 174 = .ok (.return_, 1) := by decide +kernel
def f_Mo_excess_174 (σ : St) : St := σ
def k_Mo_excess_174 (σ : St) : Prop := True
def f_Mo_excess_141 (x5 : Int64) (x7 : Int64) (σ : St) : St := if (σ.1 0 45) = 0 then (f_Mo_excess_174 (f_Mo_become ((x5 * (σ.2 0 44)) + ((σ.2 0 43) * x7)) (x7 * (σ.2 0 44)) σ)) else (f_Mo_excess_174 σ)
def k_Mo_excess_141 (x5 : Int64) (x7 : Int64) (σ : St) : Prop := ((σ.1 0 45) = 0 → ((k_Mo_become ((x5 * (σ.2 0 44)) + ((σ.2 0 43) * x7)) (x7 * (σ.2 0 44)) σ) ∧ (k_Mo_excess_174 (f_Mo_become ((x5 * (σ.2 0 44)) + ((σ.2 0 43) * x7)) (x7 * (σ.2 0 44)) σ)))) ∧ (¬ (σ.1 0 45) = 0 → (k_Mo_excess_174 σ))
def f_Mo_excess_121 (x5 : Int64) (x7 : Int64) (σ : St) : St := if (σ.1 0 45) = 0 then (f_Mo_excess_141 x5 x7 (f_Mo_become (-(σ.2 0 43)) (σ.2 0 44) σ)) else (f_Mo_excess_141 x5 x7 σ)
def k_Mo_excess_121 (x5 : Int64) (x7 : Int64) (σ : St) : Prop := ((σ.1 0 45) = 0 → ((k_Mo_become (-(σ.2 0 43)) (σ.2 0 44) σ) ∧ (k_Mo_excess_141 x5 x7 (f_Mo_become (-(σ.2 0 43)) (σ.2 0 44) σ)))) ∧ (¬ (σ.1 0 45) = 0 → (k_Mo_excess_141 x5 x7 σ))
def f_Mo_excess_117 (x2 : Int32) (x5 : Int64) (x7 : Int64) (s0 : Int32) (σ : St) : St := f_Mo_excess_121 x5 x7 (f_Mo_coefficient s0 x2 σ)
def k_Mo_excess_117 (x2 : Int32) (x5 : Int64) (x7 : Int64) (s0 : Int32) (σ : St) : Prop := (k_Mo_coefficient s0 x2 σ) ∧ (k_Mo_excess_121 x5 x7 (f_Mo_coefficient s0 x2 σ))
def f_Mo_excess_88 (x2 : Int32) (x3 : Int32) (x4 : Int32) (x5 : Int64) (x7 : Int64) (σ : St) : St := if (σ.1 0 45) = 0 then (if x4 = 0 then (f_Mo_excess_117 x2 x5 x7 (σ.1 9 x3.toNatClampNeg) σ) else (f_Mo_excess_117 x2 x5 x7 (σ.1 8 x3.toNatClampNeg) σ)) else σ
def k_Mo_excess_88 (x2 : Int32) (x3 : Int32) (x4 : Int32) (x5 : Int64) (x7 : Int64) (σ : St) : Prop := ((σ.1 0 45) = 0 → ((x4 = 0 → (vp_in x3 400 ∧ (k_Mo_excess_117 x2 x5 x7 (σ.1 9 x3.toNatClampNeg) σ))) ∧ (¬ x4 = 0 → (vp_in x3 400 ∧ (k_Mo_excess_117 x2 x5 x7 (σ.1 8 x3.toNatClampNeg) σ))))) ∧ (¬ (σ.1 0 45) = 0 → True)
def f_Mo_excess_76 (x2 : Int32) (x3 : Int32) (x4 : Int32) (σ : St) : St := f_Mo_excess_88 x2 x3 x4 (σ.2 0 43) (σ.2 0 44) σ
def k_Mo_excess_76 (x2 : Int32) (x3 : Int32) (x4 : Int32) (σ : St) : Prop := k_Mo_excess_88 x2 x3 x4 (σ.2 0 43) (σ.2 0 44) σ
def f_Mo_excess_72 (x2 : Int32) (x3 : Int32) (x4 : Int32) (s0 : Int32) (σ : St) : St := f_Mo_excess_76 x2 x3 x4 (f_Mo_coefficient s0 x2 σ)
def k_Mo_excess_72 (x2 : Int32) (x3 : Int32) (x4 : Int32) (s0 : Int32) (σ : St) : Prop := (k_Mo_coefficient s0 x2 σ) ∧ (k_Mo_excess_76 x2 x3 x4 (f_Mo_coefficient s0 x2 σ))
def f_Mo_excess_49 (x2 : Int32) (x3 : Int32) (s0 : Int32) (σ : St) : St := if s0 = 0 then (f_Mo_excess_72 x2 x3 s0 (σ.1 8 x3.toNatClampNeg) σ) else (f_Mo_excess_72 x2 x3 s0 (σ.1 9 x3.toNatClampNeg) σ)
def k_Mo_excess_49 (x2 : Int32) (x3 : Int32) (s0 : Int32) (σ : St) : Prop := (s0 = 0 → (vp_in x3 400 ∧ (k_Mo_excess_72 x2 x3 s0 (σ.1 8 x3.toNatClampNeg) σ))) ∧ (¬ s0 = 0 → (vp_in x3 400 ∧ (k_Mo_excess_72 x2 x3 s0 (σ.1 9 x3.toNatClampNeg) σ)))
def f_Mo_excess_48 (x2 : Int32) (x3 : Int32) (σ : St) : St := f_Mo_excess_49 x2 x3 0 σ
def k_Mo_excess_48 (x2 : Int32) (x3 : Int32) (σ : St) : Prop := k_Mo_excess_49 x2 x3 0 σ
def f_Mo_excess_21 (x1 : Int32) (x2 : Int32) (s0 : Int32) (σ : St) : St := if (σ.1 5 x1.toNatClampNeg) = 7 then (if (σ.1 5 s0.toNatClampNeg) = 6 then (f_Mo_excess_49 x2 s0 1 σ) else (f_Mo_excess_48 x2 s0 σ)) else (f_Mo_excess_48 x2 s0 σ)
def k_Mo_excess_21 (x1 : Int32) (x2 : Int32) (s0 : Int32) (σ : St) : Prop := vp_in x1 400 ∧ (((σ.1 5 x1.toNatClampNeg) = 7 → (vp_in s0 400 ∧ (((σ.1 5 s0.toNatClampNeg) = 6 → (k_Mo_excess_49 x2 s0 1 σ)) ∧ (¬ (σ.1 5 s0.toNatClampNeg) = 6 → (k_Mo_excess_48 x2 s0 σ))))) ∧ (¬ (σ.1 5 x1.toNatClampNeg) = 7 → (k_Mo_excess_48 x2 s0 σ)))
def f_Mo_excess (a1 : Int32) (a2 : Int32) (σ : St) : St := if (σ.1 5 a1.toNatClampNeg) = 7 then (f_Mo_excess_21 a1 a2 (σ.1 8 a1.toNatClampNeg) σ) else (f_Mo_excess_21 a1 a2 a1 σ)
def k_Mo_excess (a1 : Int32) (a2 : Int32) (σ : St) : Prop := vp_in a1 400 ∧ (((σ.1 5 a1.toNatClampNeg) = 7 → (vp_in a1 400 ∧ (k_Mo_excess_21 a1 a2 (σ.1 8 a1.toNatClampNeg) σ))) ∧ (¬ (σ.1 5 a1.toNatClampNeg) = 7 → (k_Mo_excess_21 a1 a2 a1 σ)))
abbrev w_Mo_excess : List Cond := Cond.code y_Mo_excess b_Mo_excess 9 none :: gw
abbrev rm_Mo_excess : Room := { frames := 3, cells := 0, slots := 0, locals := 80 }
set_option maxHeartbeats 4000000 in
set_option maxRecDepth 100000 in
theorem c_Mo_excess (l : Launch) (D : va_G) (ty : Nat → ClassId) (h : Nat → Nat) (px : va_W) (sa : Nat → Nat) (σ : St) (sz : Nat) (a1 : Int32) (a2 : Int32) (hk : k_Mo_excess a1 a2 σ) : Met l y_Mo_excess w_Mo_excess rm_Mo_excess (va_Pc [.ref (h 0), .int a1, .int a2] (fun U => U.heap.size = sz ∧ va_P D classes (Wm ty h σ px) U.heap ∧ va_K D classes (Ta ty) U ∧ NW U ∧ MK sa (va_A (Wm ty h σ px) sz) U U.heap ∧ va_D (fun _ => True) (Wm ty h σ px))) (va_Qv (fun u : St => u = f_Mo_excess a1 a2 σ) (fun u t => va_P D classes (Wm ty h u px) t.heap) (va_A (Wm ty h σ px) sz)) 0 0 (va_A (Wm ty h σ px) sz) := by
  refine Met.ofW (cc := b_Mo_excess) (maxL := 9) (ret := none) (by decide) rfl ?_
  intro p e s m args below meth c s₁ B hml hv
  obtain ⟨ha, hsz, hP, hK, hN, hM, hD0⟩ := hv
  have hx := B.exec
  have hb := B.bytes
  have hr := B.returns
  have hg : ∀ w ∈ gw, w.before args s = true := fun w h9 => atoms_spec (ws := w_Mo_excess) B.pre w (List.mem_cons_of_mem _ h9)
  have hown : s.vm.findClass "ClauseLedgerModel" = some m.cls := findClass_of_methodNamed B.named
  have hlocks := B.notSynchronized
  subst hsz
  have hD := hD0.self (sz := s.heap.size)
  generalize hAe : va_A (Wm ty h σ px) s.heap.size = A at hD hM ⊢
  have hA : ∀ q : Nat, s.heap.size ≤ q → A q := fun q h9 => by rw [← hAe]; exact Or.inr h9
  have hS : va_S A s.heap s.heap [] := va_S.rf
  have he : entryFrame m args 9 = entryFrame m ([.ref (h 0), .int a1, .int a2] : List Value).toArray 9 := by rw [ha]
  rw [he, lg_entry_eq]
  have hl := lv_entry ([.ref (h 0), .int a1, .int a2]) (n := 9) (Nat.le_of_ble_eq_true rfl)
  generalize (lg_sl ([.ref (h 0), .int a1, .int a2]) ++ List.replicate (9 - (lg_sl ([.ref (h 0), .int a1, .int a2])).length) Slot.unset).toArray = ls at hl ⊢
  have hl : lv_has ls 9 [(0, .ref (h 0)), (1, .int a1), (2, .int a2)] := hl
  generalize hv : f_Mo_excess a1 a2 σ = v
  replace hv := hv.symm
  have B174 : ∀ (H : Heap) (locs : List Loc) (ls : Array Slot) (σ : St), v = f_Mo_excess_174 σ → k_Mo_excess_174 σ → lv_has ls 9 [] → va_P D classes (Wm ty h σ px) H → va_D A (Wm ty h σ px) → va_S A s.heap H locs → W p l e (headSpec w_Mo_excess rm_Mo_excess).room s m args below meth c H locs 0 0 (MQ below (va_Qv (fun u : St => u = v) (fun u t => va_P D classes (Wm ty h u px) t.heap) A) args s 0 0 A) (F0 m 174 ls []) := by
    intro H locs ls σ hv hk hl hP hD hS
    unfold f_Mo_excess_174 at hv
    unfold k_Mo_excess_174 at hk
    exact W.vret hx hb hr (fun t ht hW => ⟨⟨_, rfl, hv.symm, by dsimp only; rw [ht]; exact hP⟩, hS.F ht⟩) hS.2.2 d_Mo_excess_174
  have B141 : ∀ (H : Heap) (locs : List Loc) (ls : Array Slot) (x5 : Int64) (x7 : Int64) (σ : St), v = f_Mo_excess_141 x5 x7 σ → k_Mo_excess_141 x5 x7 σ → lv_has ls 9 [(0, .ref (h 0)), (5, .long x5), (7, .long x7)] → va_P D classes (Wm ty h σ px) H → va_D A (Wm ty h σ px) → va_S A s.heap H locs → W p l e (headSpec w_Mo_excess rm_Mo_excess).room s m args below meth c H locs 0 0 (MQ below (va_Qv (fun u : St => u = v) (fun u t => va_P D classes (Wm ty h u px) t.heap) A) args s 0 0 A) (F0 m 141 ls []) := by
    intro H locs ls x5 x7 σ hv hk hl hP hD hS
    unfold f_Mo_excess_141 at hv
    unfold k_Mo_excess_141 at hk
    refine lv_aload_n hx hb d_Mo_excess_141 rfl (lv_at hl 0 rfl) ?_
    refine va_get (v := .int (σ.1 0 45)) (C := R_Mo) (T := T_Mo) (N := 51) hx hb hg in_Mo hown hK hP 0 rfl rfl 45 (by decide) (hg _ m_1304) (fun _ h9 => h9) rfl d_Mo_excess_142 ?_
    refine lv_if_ne (tgt := 174) hx hb d_Mo_excess_145 (by decide) (fun hc => ?_) (fun hc => ?_)
    · have hv := hv.trans (if_neg hc)
      have hk := hk.2 hc
      exact B174 _ _ _  σ hv hk (lv_sub hl [] rfl) hP hD hS
    · have hv := hv.trans (if_pos hc)
      have hk := hk.1 hc
      refine lv_aload_n hx hb d_Mo_excess_148 rfl (lv_at hl 0 rfl) ?_
      refine lv_lload hx hb d_Mo_excess_149 (lv_at hl 1 rfl) ?_
      refine lv_aload_n hx hb d_Mo_excess_151 rfl (lv_at hl 0 rfl) ?_
      refine va_get (v := .long (σ.2 0 44)) (C := R_Mo) (T := T_Mo) (N := 51) hx hb hg in_Mo hown hK hP 0 rfl rfl 44 (by decide) (hg _ m_1303) (fun _ h9 => h9) rfl d_Mo_excess_152 ?_
      refine lv_lmul hx hb d_Mo_excess_155 ?_
      refine lv_aload_n hx hb d_Mo_excess_156 rfl (lv_at hl 0 rfl) ?_
      refine va_get (v := .long (σ.2 0 43)) (C := R_Mo) (T := T_Mo) (N := 51) hx hb hg in_Mo hown hK hP 0 rfl rfl 43 (by decide) (hg _ m_1302) (fun _ h9 => h9) rfl d_Mo_excess_157 ?_
      refine lv_lload hx hb d_Mo_excess_160 (lv_at hl 2 rfl) ?_
      refine lv_lmul hx hb d_Mo_excess_162 ?_
      refine lv_ladd hx hb d_Mo_excess_163 ?_
      refine lv_lload hx hb d_Mo_excess_164 (lv_at hl 2 rfl) ?_
      refine lv_aload_n hx hb d_Mo_excess_166 rfl (lv_at hl 0 rfl) ?_
      refine va_get (v := .long (σ.2 0 44)) (C := R_Mo) (T := T_Mo) (N := 51) hx hb hg in_Mo hown hK hP 0 rfl rfl 44 (by decide) (hg _ m_1303) (fun _ h9 => h9) rfl d_Mo_excess_167 ?_
      refine lv_lmul hx hb d_Mo_excess_170 ?_
      obtain ⟨hk0, hk⟩ := hk
      refine va_callv (va_runV (As := [.long ((x5 * (σ.2 0 44)) + ((σ.2 0 43) * x7)), .long (x7 * (σ.2 0 44))]) (rest := []) ⟨hx, hb, hml, hown, hg⟩ (c_Mo_become l D ty h px sa σ H.size ((x5 * (σ.2 0 44)) + ((σ.2 0 43) * x7)) (x7 * (σ.2 0 44)) hk0) ⟨callB_of 2 hg (gw_C m_1619) rfl rfl rfl (hg _ m_13) (hg _ m_1616) hd_Mo_become ⟨Nat.le_of_ble_eq_true rfl, Nat.le_of_ble_eq_true rfl⟩, hg _ m_1618, hg _ ms_80⟩ (zz_preVW hM hS hA hN hK hP hD 0 rfl rfl) rfl rfl hl.1 rfl (lv_room (Nat.le_of_ble_eq_true rfl)) d_Mo_excess_171 ⟨Nat.le_of_ble_eq_true rfl, Nat.le_of_ble_eq_true rfl⟩) hS (fun q _ h => zz_free hD hS hA q h) (zz_free hD hS hA) (fun u171 t H locs ht hvm hp hP1 hz hk1 hS => ?_)
      rw [ht] at hP1
      rw [← hp] at hv hk
      have hD : va_D A (Wm ty h u171 px) := zz_D hD rfl
      have hP := hP1
      exact B174 _ _ _  u171 hv hk (lv_sub hl [] rfl) hP hD hS
  have B121 : ∀ (H : Heap) (locs : List Loc) (ls : Array Slot) (x5 : Int64) (x7 : Int64) (σ : St), v = f_Mo_excess_121 x5 x7 σ → k_Mo_excess_121 x5 x7 σ → lv_has ls 9 [(0, .ref (h 0)), (5, .long x5), (7, .long x7)] → va_P D classes (Wm ty h σ px) H → va_D A (Wm ty h σ px) → va_S A s.heap H locs → W p l e (headSpec w_Mo_excess rm_Mo_excess).room s m args below meth c H locs 0 0 (MQ below (va_Qv (fun u : St => u = v) (fun u t => va_P D classes (Wm ty h u px) t.heap) A) args s 0 0 A) (F0 m 121 ls []) := by
    intro H locs ls x5 x7 σ hv hk hl hP hD hS
    unfold f_Mo_excess_121 at hv
    unfold k_Mo_excess_121 at hk
    refine lv_aload_n hx hb d_Mo_excess_121 rfl (lv_at hl 0 rfl) ?_
    refine va_get (v := .int (σ.1 0 45)) (C := R_Mo) (T := T_Mo) (N := 51) hx hb hg in_Mo hown hK hP 0 rfl rfl 45 (by decide) (hg _ m_1304) (fun _ h9 => h9) rfl d_Mo_excess_122 ?_
    refine lv_if_ne (tgt := 141) hx hb d_Mo_excess_125 (by decide) (fun hc => ?_) (fun hc => ?_)
    · have hv := hv.trans (if_neg hc)
      have hk := hk.2 hc
      exact B141 _ _ _ x5 x7 σ hv hk (lv_sub hl [0, 1, 2] rfl) hP hD hS
    · have hv := hv.trans (if_pos hc)
      have hk := hk.1 hc
      refine lv_aload_n hx hb d_Mo_excess_128 rfl (lv_at hl 0 rfl) ?_
      refine lv_aload_n hx hb d_Mo_excess_129 rfl (lv_at hl 0 rfl) ?_
      refine va_get (v := .long (σ.2 0 43)) (C := R_Mo) (T := T_Mo) (N := 51) hx hb hg in_Mo hown hK hP 0 rfl rfl 43 (by decide) (hg _ m_1302) (fun _ h9 => h9) rfl d_Mo_excess_130 ?_
      refine lv_lneg hx hb d_Mo_excess_133 ?_
      refine lv_aload_n hx hb d_Mo_excess_134 rfl (lv_at hl 0 rfl) ?_
      refine va_get (v := .long (σ.2 0 44)) (C := R_Mo) (T := T_Mo) (N := 51) hx hb hg in_Mo hown hK hP 0 rfl rfl 44 (by decide) (hg _ m_1303) (fun _ h9 => h9) rfl d_Mo_excess_135 ?_
      obtain ⟨hk0, hk⟩ := hk
      refine va_callv (va_runV (As := [.long (-(σ.2 0 43)), .long (σ.2 0 44)]) (rest := []) ⟨hx, hb, hml, hown, hg⟩ (c_Mo_become l D ty h px sa σ H.size (-(σ.2 0 43)) (σ.2 0 44) hk0) ⟨callB_of 2 hg (gw_C m_1619) rfl rfl rfl (hg _ m_13) (hg _ m_1616) hd_Mo_become ⟨Nat.le_of_ble_eq_true rfl, Nat.le_of_ble_eq_true rfl⟩, hg _ m_1618, hg _ ms_80⟩ (zz_preVW hM hS hA hN hK hP hD 0 rfl rfl) rfl rfl hl.1 rfl (lv_room (Nat.le_of_ble_eq_true rfl)) d_Mo_excess_138 ⟨Nat.le_of_ble_eq_true rfl, Nat.le_of_ble_eq_true rfl⟩) hS (fun q _ h => zz_free hD hS hA q h) (zz_free hD hS hA) (fun u138 t H locs ht hvm hp hP1 hz hk1 hS => ?_)
      rw [ht] at hP1
      rw [← hp] at hv hk
      have hD : va_D A (Wm ty h u138 px) := zz_D hD rfl
      have hP := hP1
      exact B141 _ _ _ x5 x7 u138 hv hk (lv_sub hl [0, 1, 2] rfl) hP hD hS
  have B117 : ∀ (H : Heap) (locs : List Loc) (ls : Array Slot) (x2 : Int32) (x5 : Int64) (x7 : Int64) (s0 : Int32) (σ : St), v = f_Mo_excess_117 x2 x5 x7 s0 σ → k_Mo_excess_117 x2 x5 x7 s0 σ → lv_has ls 9 [(0, .ref (h 0)), (2, .int x2), (5, .long x5), (7, .long x7)] → va_P D classes (Wm ty h σ px) H → va_D A (Wm ty h σ px) → va_S A s.heap H locs → W p l e (headSpec w_Mo_excess rm_Mo_excess).room s m args below meth c H locs 0 0 (MQ below (va_Qv (fun u : St => u = v) (fun u t => va_P D classes (Wm ty h u px) t.heap) A) args s 0 0 A) (F0 m 117 ls [.int s0, .ref (h 0)]) := by
    intro H locs ls x2 x5 x7 s0 σ hv hk hl hP hD hS
    unfold f_Mo_excess_117 at hv
    unfold k_Mo_excess_117 at hk
    refine lv_iload_n hx hb d_Mo_excess_117 rfl (lv_at hl 1 rfl) ?_
    obtain ⟨hk0, hk⟩ := hk
    refine va_callv (va_runV (As := [.int s0, .int x2]) (rest := []) ⟨hx, hb, hml, hown, hg⟩ (c_Mo_coefficient l D ty h px sa σ H.size s0 x2 hk0) ⟨callB_of 2 hg (gw_C m_1611) rfl rfl rfl (hg _ m_13) (hg _ m_1608) hd_Mo_coefficient ⟨Nat.le_of_ble_eq_true rfl, Nat.le_of_ble_eq_true rfl⟩, hg _ m_1610, hg _ ms_78⟩ (zz_preVW hM hS hA hN hK hP hD 0 rfl rfl) rfl rfl hl.1 rfl (lv_room (Nat.le_of_ble_eq_true rfl)) d_Mo_excess_118 ⟨Nat.le_of_ble_eq_true rfl, Nat.le_of_ble_eq_true rfl⟩) hS (fun q _ h => zz_free hD hS hA q h) (zz_free hD hS hA) (fun u118 t H locs ht hvm hp hP1 hz hk1 hS => ?_)
    rw [ht] at hP1
    rw [← hp] at hv hk
    have hD : va_D A (Wm ty h u118 px) := zz_D hD rfl
    have hP := hP1
    exact B121 _ _ _ x5 x7 u118 hv hk (lv_sub hl [0, 2, 3] rfl) hP hD hS
  have B88 : ∀ (H : Heap) (locs : List Loc) (ls : Array Slot) (x2 : Int32) (x3 : Int32) (x4 : Int32) (x5 : Int64) (x7 : Int64) (σ : St), v = f_Mo_excess_88 x2 x3 x4 x5 x7 σ → k_Mo_excess_88 x2 x3 x4 x5 x7 σ → lv_has ls 9 [(0, .ref (h 0)), (2, .int x2), (3, .int x3), (4, .int x4), (5, .long x5), (7, .long x7)] → va_P D classes (Wm ty h σ px) H → va_D A (Wm ty h σ px) → va_S A s.heap H locs → W p l e (headSpec w_Mo_excess rm_Mo_excess).room s m args below meth c H locs 0 0 (MQ below (va_Qv (fun u : St => u = v) (fun u t => va_P D classes (Wm ty h u px) t.heap) A) args s 0 0 A) (F0 m 88 ls []) := by
    intro H locs ls x2 x3 x4 x5 x7 σ hv hk hl hP hD hS
    unfold f_Mo_excess_88 at hv
    unfold k_Mo_excess_88 at hk
    refine lv_aload_n hx hb d_Mo_excess_88 rfl (lv_at hl 0 rfl) ?_
    refine va_get (v := .int (σ.1 0 45)) (C := R_Mo) (T := T_Mo) (N := 51) hx hb hg in_Mo hown hK hP 0 rfl rfl 45 (by decide) (hg _ m_1304) (fun _ h9 => h9) rfl d_Mo_excess_89 ?_
    refine lv_if_eq (tgt := 96) hx hb d_Mo_excess_92 (by decide) (fun hc => ?_) (fun hc => ?_)
    · have hv := hv.trans (if_pos hc)
      have hk := hk.1 hc
      refine lv_aload_n hx hb d_Mo_excess_96 rfl (lv_at hl 0 rfl) ?_
      refine lv_iload hx hb d_Mo_excess_97 (lv_at hl 3 rfl) ?_
      refine lv_if_eq (tgt := 111) hx hb d_Mo_excess_99 (by decide) (fun hc => ?_) (fun hc => ?_)
      · have hv := hv.trans (if_pos hc)
        have hk := hk.1 hc
        refine lv_aload_n hx hb d_Mo_excess_111 rfl (lv_at hl 0 rfl) ?_
        refine va_get (v := .ref (h 9)) (C := R_Mo) (T := T_Mo) (N := 51) hx hb hg in_Mo hown hK hP 0 rfl rfl 14 (by decide) (hg _ m_1273) (fun _ h9 => h9) rfl d_Mo_excess_112 ?_
        refine lv_iload_n hx hb d_Mo_excess_115 rfl (lv_at hl 2 rfl) ?_
        obtain ⟨hk0, hk⟩ := hk
        refine va_iald hx hb hK hP 9 0 rfl rfl hk0 d_Mo_excess_116 ?_
        exact B117 _ _ _ x2 x5 x7 (σ.1 9 x3.toNatClampNeg) σ hv hk (lv_sub hl [0, 1, 4, 5] rfl) hP hD hS
      · have hv := hv.trans (if_neg hc)
        have hk := hk.2 hc
        refine lv_aload_n hx hb d_Mo_excess_102 rfl (lv_at hl 0 rfl) ?_
        refine va_get (v := .ref (h 8)) (C := R_Mo) (T := T_Mo) (N := 51) hx hb hg in_Mo hown hK hP 0 rfl rfl 13 (by decide) (hg _ m_1272) (fun _ h9 => h9) rfl d_Mo_excess_103 ?_
        refine lv_iload_n hx hb d_Mo_excess_106 rfl (lv_at hl 2 rfl) ?_
        obtain ⟨hk0, hk⟩ := hk
        refine va_iald hx hb hK hP 8 0 rfl rfl hk0 d_Mo_excess_107 ?_
        refine lv_goto (tgt := 117) hx hb d_Mo_excess_108 (by decide) ?_
        exact B117 _ _ _ x2 x5 x7 (σ.1 8 x3.toNatClampNeg) σ hv hk (lv_sub hl [0, 1, 4, 5] rfl) hP hD hS
    · have hv := hv.trans (if_neg hc)
      have hk := hk.2 hc
      exact W.vret hx hb hr (fun t ht hW => ⟨⟨_, rfl, hv.symm, by dsimp only; rw [ht]; exact hP⟩, hS.F ht⟩) hS.2.2 d_Mo_excess_95
  have B76 : ∀ (H : Heap) (locs : List Loc) (ls : Array Slot) (x2 : Int32) (x3 : Int32) (x4 : Int32) (σ : St), v = f_Mo_excess_76 x2 x3 x4 σ → k_Mo_excess_76 x2 x3 x4 σ → lv_has ls 9 [(0, .ref (h 0)), (2, .int x2), (3, .int x3), (4, .int x4)] → va_P D classes (Wm ty h σ px) H → va_D A (Wm ty h σ px) → va_S A s.heap H locs → W p l e (headSpec w_Mo_excess rm_Mo_excess).room s m args below meth c H locs 0 0 (MQ below (va_Qv (fun u : St => u = v) (fun u t => va_P D classes (Wm ty h u px) t.heap) A) args s 0 0 A) (F0 m 76 ls []) := by
    intro H locs ls x2 x3 x4 σ hv hk hl hP hD hS
    unfold f_Mo_excess_76 at hv
    unfold k_Mo_excess_76 at hk
    refine lv_aload_n hx hb d_Mo_excess_76 rfl (lv_at hl 0 rfl) ?_
    refine va_get (v := .long (σ.2 0 43)) (C := R_Mo) (T := T_Mo) (N := 51) hx hb hg in_Mo hown hK hP 0 rfl rfl 43 (by decide) (hg _ m_1302) (fun _ h9 => h9) rfl d_Mo_excess_77 ?_
    refine lv_lstore (lv' := [(5, .long (σ.2 0 43)), (0, .ref (h 0)), (2, .int x2), (3, .int x3), (4, .int x4)]) hx hb d_Mo_excess_80 hl (by decide) rfl (fun ls hl => ?_)
    refine lv_aload_n hx hb d_Mo_excess_82 rfl (lv_at hl 1 rfl) ?_
    refine va_get (v := .long (σ.2 0 44)) (C := R_Mo) (T := T_Mo) (N := 51) hx hb hg in_Mo hown hK hP 0 rfl rfl 44 (by decide) (hg _ m_1303) (fun _ h9 => h9) rfl d_Mo_excess_83 ?_
    refine lv_lstore (lv' := [(7, .long (σ.2 0 44)), (5, .long (σ.2 0 43)), (0, .ref (h 0)), (2, .int x2), (3, .int x3), (4, .int x4)]) hx hb d_Mo_excess_86 hl (by decide) rfl (fun ls hl => ?_)
    exact B88 _ _ _ x2 x3 x4 (σ.2 0 43) (σ.2 0 44) σ hv hk (lv_sub hl [2, 3, 4, 5, 1, 0] rfl) hP hD hS
  have B72 : ∀ (H : Heap) (locs : List Loc) (ls : Array Slot) (x2 : Int32) (x3 : Int32) (x4 : Int32) (s0 : Int32) (σ : St), v = f_Mo_excess_72 x2 x3 x4 s0 σ → k_Mo_excess_72 x2 x3 x4 s0 σ → lv_has ls 9 [(0, .ref (h 0)), (2, .int x2), (3, .int x3), (4, .int x4)] → va_P D classes (Wm ty h σ px) H → va_D A (Wm ty h σ px) → va_S A s.heap H locs → W p l e (headSpec w_Mo_excess rm_Mo_excess).room s m args below meth c H locs 0 0 (MQ below (va_Qv (fun u : St => u = v) (fun u t => va_P D classes (Wm ty h u px) t.heap) A) args s 0 0 A) (F0 m 72 ls [.int s0, .ref (h 0)]) := by
    intro H locs ls x2 x3 x4 s0 σ hv hk hl hP hD hS
    unfold f_Mo_excess_72 at hv
    unfold k_Mo_excess_72 at hk
    refine lv_iload_n hx hb d_Mo_excess_72 rfl (lv_at hl 1 rfl) ?_
    obtain ⟨hk0, hk⟩ := hk
    refine va_callv (va_runV (As := [.int s0, .int x2]) (rest := []) ⟨hx, hb, hml, hown, hg⟩ (c_Mo_coefficient l D ty h px sa σ H.size s0 x2 hk0) ⟨callB_of 2 hg (gw_C m_1611) rfl rfl rfl (hg _ m_13) (hg _ m_1608) hd_Mo_coefficient ⟨Nat.le_of_ble_eq_true rfl, Nat.le_of_ble_eq_true rfl⟩, hg _ m_1610, hg _ ms_78⟩ (zz_preVW hM hS hA hN hK hP hD 0 rfl rfl) rfl rfl hl.1 rfl (lv_room (Nat.le_of_ble_eq_true rfl)) d_Mo_excess_73 ⟨Nat.le_of_ble_eq_true rfl, Nat.le_of_ble_eq_true rfl⟩) hS (fun q _ h => zz_free hD hS hA q h) (zz_free hD hS hA) (fun u73 t H locs ht hvm hp hP1 hz hk1 hS => ?_)
    rw [ht] at hP1
    rw [← hp] at hv hk
    have hD : va_D A (Wm ty h u73 px) := zz_D hD rfl
    have hP := hP1
    exact B76 _ _ _ x2 x3 x4 u73 hv hk (lv_sub hl [0, 1, 2, 3] rfl) hP hD hS
  have B49 : ∀ (H : Heap) (locs : List Loc) (ls : Array Slot) (x2 : Int32) (x3 : Int32) (s0 : Int32) (σ : St), v = f_Mo_excess_49 x2 x3 s0 σ → k_Mo_excess_49 x2 x3 s0 σ → lv_has ls 9 [(0, .ref (h 0)), (2, .int x2), (3, .int x3)] → va_P D classes (Wm ty h σ px) H → va_D A (Wm ty h σ px) → va_S A s.heap H locs → W p l e (headSpec w_Mo_excess rm_Mo_excess).room s m args below meth c H locs 0 0 (MQ below (va_Qv (fun u : St => u = v) (fun u t => va_P D classes (Wm ty h u px) t.heap) A) args s 0 0 A) (F0 m 49 ls [.int s0]) := by
    intro H locs ls x2 x3 s0 σ hv hk hl hP hD hS
    unfold f_Mo_excess_49 at hv
    unfold k_Mo_excess_49 at hk
    refine lv_istore (lv' := [(4, .int s0), (0, .ref (h 0)), (2, .int x2), (3, .int x3)]) hx hb d_Mo_excess_49 hl (by decide) rfl (fun ls hl => ?_)
    refine lv_aload_n hx hb d_Mo_excess_51 rfl (lv_at hl 1 rfl) ?_
    refine lv_iload hx hb d_Mo_excess_52 (lv_at hl 0 rfl) ?_
    refine lv_if_eq (tgt := 66) hx hb d_Mo_excess_54 (by decide) (fun hc => ?_) (fun hc => ?_)
    · have hv := hv.trans (if_pos hc)
      have hk := hk.1 hc
      refine lv_aload_n hx hb d_Mo_excess_66 rfl (lv_at hl 1 rfl) ?_
      refine va_get (v := .ref (h 8)) (C := R_Mo) (T := T_Mo) (N := 51) hx hb hg in_Mo hown hK hP 0 rfl rfl 13 (by decide) (hg _ m_1272) (fun _ h9 => h9) rfl d_Mo_excess_67 ?_
      refine lv_iload_n hx hb d_Mo_excess_70 rfl (lv_at hl 3 rfl) ?_
      obtain ⟨hk0, hk⟩ := hk
      refine va_iald hx hb hK hP 8 0 rfl rfl hk0 d_Mo_excess_71 ?_
      exact B72 _ _ _ x2 x3 s0 (σ.1 8 x3.toNatClampNeg) σ hv hk (lv_sub hl [1, 2, 3, 0] rfl) hP hD hS
    · have hv := hv.trans (if_neg hc)
      have hk := hk.2 hc
      refine lv_aload_n hx hb d_Mo_excess_57 rfl (lv_at hl 1 rfl) ?_
      refine va_get (v := .ref (h 9)) (C := R_Mo) (T := T_Mo) (N := 51) hx hb hg in_Mo hown hK hP 0 rfl rfl 14 (by decide) (hg _ m_1273) (fun _ h9 => h9) rfl d_Mo_excess_58 ?_
      refine lv_iload_n hx hb d_Mo_excess_61 rfl (lv_at hl 3 rfl) ?_
      obtain ⟨hk0, hk⟩ := hk
      refine va_iald hx hb hK hP 9 0 rfl rfl hk0 d_Mo_excess_62 ?_
      refine lv_goto (tgt := 72) hx hb d_Mo_excess_63 (by decide) ?_
      exact B72 _ _ _ x2 x3 s0 (σ.1 9 x3.toNatClampNeg) σ hv hk (lv_sub hl [1, 2, 3, 0] rfl) hP hD hS
  have B48 : ∀ (H : Heap) (locs : List Loc) (ls : Array Slot) (x2 : Int32) (x3 : Int32) (σ : St), v = f_Mo_excess_48 x2 x3 σ → k_Mo_excess_48 x2 x3 σ → lv_has ls 9 [(0, .ref (h 0)), (2, .int x2), (3, .int x3)] → va_P D classes (Wm ty h σ px) H → va_D A (Wm ty h σ px) → va_S A s.heap H locs → W p l e (headSpec w_Mo_excess rm_Mo_excess).room s m args below meth c H locs 0 0 (MQ below (va_Qv (fun u : St => u = v) (fun u t => va_P D classes (Wm ty h u px) t.heap) A) args s 0 0 A) (F0 m 48 ls []) := by
    intro H locs ls x2 x3 σ hv hk hl hP hD hS
    unfold f_Mo_excess_48 at hv
    unfold k_Mo_excess_48 at hk
    refine lv_iconst (v := 0) hx hb d_Mo_excess_48 (by decide) ?_
    exact B49 _ _ _ x2 x3 0 σ hv hk (lv_sub hl [0, 1, 2] rfl) hP hD hS
  have B21 : ∀ (H : Heap) (locs : List Loc) (ls : Array Slot) (x1 : Int32) (x2 : Int32) (s0 : Int32) (σ : St), v = f_Mo_excess_21 x1 x2 s0 σ → k_Mo_excess_21 x1 x2 s0 σ → lv_has ls 9 [(0, .ref (h 0)), (1, .int x1), (2, .int x2)] → va_P D classes (Wm ty h σ px) H → va_D A (Wm ty h σ px) → va_S A s.heap H locs → W p l e (headSpec w_Mo_excess rm_Mo_excess).room s m args below meth c H locs 0 0 (MQ below (va_Qv (fun u : St => u = v) (fun u t => va_P D classes (Wm ty h u px) t.heap) A) args s 0 0 A) (F0 m 21 ls [.int s0]) := by
    intro H locs ls x1 x2 s0 σ hv hk hl hP hD hS
    unfold f_Mo_excess_21 at hv
    unfold k_Mo_excess_21 at hk
    refine lv_istore_n (lv' := [(3, .int s0), (0, .ref (h 0)), (1, .int x1), (2, .int x2)]) hx hb d_Mo_excess_21 rfl hl (by decide) rfl (fun ls hl => ?_)
    refine lv_aload_n hx hb d_Mo_excess_22 rfl (lv_at hl 1 rfl) ?_
    refine va_get (v := .ref (h 5)) (C := R_Mo) (T := T_Mo) (N := 51) hx hb hg in_Mo hown hK hP 0 rfl rfl 10 (by decide) (hg _ m_1269) (fun _ h9 => h9) rfl d_Mo_excess_23 ?_
    refine lv_iload_n hx hb d_Mo_excess_26 rfl (lv_at hl 2 rfl) ?_
    obtain ⟨hk0, hk⟩ := hk
    refine va_iald hx hb hK hP 5 0 rfl rfl hk0 d_Mo_excess_27 ?_
    refine lv_bipush (v := 7) hx hb d_Mo_excess_28 (by decide) ?_
    refine lv_icmp_ne (tgt := 48) hx hb d_Mo_excess_30 (by decide) (fun hc => ?_) (fun hc => ?_)
    · have hv := hv.trans (if_neg hc)
      have hk := hk.2 hc
      exact B48 _ _ _ x2 s0 σ hv hk (lv_sub hl [1, 3, 0] rfl) hP hD hS
    · have hv := hv.trans (if_pos hc)
      have hk := hk.1 hc
      refine lv_aload_n hx hb d_Mo_excess_33 rfl (lv_at hl 1 rfl) ?_
      refine va_get (v := .ref (h 5)) (C := R_Mo) (T := T_Mo) (N := 51) hx hb hg in_Mo hown hK hP 0 rfl rfl 10 (by decide) (hg _ m_1269) (fun _ h9 => h9) rfl d_Mo_excess_34 ?_
      refine lv_iload_n hx hb d_Mo_excess_37 rfl (lv_at hl 0 rfl) ?_
      obtain ⟨hk0, hk⟩ := hk
      refine va_iald hx hb hK hP 5 0 rfl rfl hk0 d_Mo_excess_38 ?_
      refine lv_bipush (v := 6) hx hb d_Mo_excess_39 (by decide) ?_
      refine lv_icmp_ne (tgt := 48) hx hb d_Mo_excess_41 (by decide) (fun hc => ?_) (fun hc => ?_)
      · have hv := hv.trans (if_neg hc)
        have hk := hk.2 hc
        exact B48 _ _ _ x2 s0 σ hv hk (lv_sub hl [1, 3, 0] rfl) hP hD hS
      · have hv := hv.trans (if_pos hc)
        have hk := hk.1 hc
        refine lv_iconst (v := 1) hx hb d_Mo_excess_44 (by decide) ?_
        refine lv_goto (tgt := 49) hx hb d_Mo_excess_45 (by decide) ?_
        exact B49 _ _ _ x2 s0 1 σ hv hk (lv_sub hl [1, 3, 0] rfl) hP hD hS
  unfold f_Mo_excess at hv
  unfold k_Mo_excess at hk
  refine lv_aload_n hx hb d_Mo_excess_0 rfl (lv_at hl 0 rfl) ?_
  refine va_get (v := .ref (h 5)) (C := R_Mo) (T := T_Mo) (N := 51) hx hb hg in_Mo hown hK hP 0 rfl rfl 10 (by decide) (hg _ m_1269) (fun _ h9 => h9) rfl d_Mo_excess_1 ?_
  refine lv_iload_n hx hb d_Mo_excess_4 rfl (lv_at hl 1 rfl) ?_
  obtain ⟨hk0, hk⟩ := hk
  refine va_iald hx hb hK hP 5 0 rfl rfl hk0 d_Mo_excess_5 ?_
  refine lv_bipush (v := 7) hx hb d_Mo_excess_6 (by decide) ?_
  refine lv_icmp_ne (tgt := 20) hx hb d_Mo_excess_8 (by decide) (fun hc => ?_) (fun hc => ?_)
  · have hv := hv.trans (if_neg hc)
    have hk := hk.2 hc
    refine lv_iload_n hx hb d_Mo_excess_20 rfl (lv_at hl 1 rfl) ?_
    exact B21 _ _ _ a1 a2 a1 σ hv hk (lv_sub hl [0, 1, 2] rfl) hP hD hS
  · have hv := hv.trans (if_pos hc)
    have hk := hk.1 hc
    refine lv_aload_n hx hb d_Mo_excess_11 rfl (lv_at hl 0 rfl) ?_
    refine va_get (v := .ref (h 8)) (C := R_Mo) (T := T_Mo) (N := 51) hx hb hg in_Mo hown hK hP 0 rfl rfl 13 (by decide) (hg _ m_1272) (fun _ h9 => h9) rfl d_Mo_excess_12 ?_
    refine lv_iload_n hx hb d_Mo_excess_15 rfl (lv_at hl 1 rfl) ?_
    obtain ⟨hk0, hk⟩ := hk
    refine va_iald hx hb hK hP 8 0 rfl rfl hk0 d_Mo_excess_16 ?_
    refine lv_goto (tgt := 21) hx hb d_Mo_excess_17 (by decide) ?_
    exact B21 _ _ _ a1 a2 (σ.1 8 a1.toNatClampNeg) σ hv hk (lv_sub hl [0, 1, 2] rfl) hP hD hS

-- ClauseLedgerModel.addExcess(III)V
abbrev b_Mo_addExcess : ByteArray := prog_14_method_52_code
def y_Mo_addExcess : MethodName := ⟨"ClauseLedgerModel", "addExcess", "(III)V"⟩
theorem hd_Mo_addExcess : y_Mo_addExcess.cls ≠ "java/lang/invoke/MethodHandle" ∧ y_Mo_addExcess.cls ≠ "java/lang/invoke/VarHandle" ∧ (parseMethodDescriptor y_Mo_addExcess.desc).map (fun d => d.parameters.length) = some 3 := by decide +kernel
theorem d_Mo_addExcess_0 : decode b_Mo_addExcess 0 = .ok (.iload_n 1, 1) := by decide +kernel
theorem d_Mo_addExcess_1 : decode b_Mo_addExcess 1 = .ok (.ifCond .lt 10, 3) := by decide +kernel
theorem d_Mo_addExcess_4 : decode b_Mo_addExcess 4 = .ok (.aload_n 0, 1) := by decide +kernel
theorem d_Mo_addExcess_5 : decode b_Mo_addExcess 5 = .ok (.getfield 258, 3) := by decide +kernel
theorem d_Mo_addExcess_8 : decode b_Mo_addExcess 8 = .ok (.ifCond .eq 4, 3) := by decide +kernel
theorem d_Mo_addExcess_11 : decode b_Mo_addExcess 11 = .ok (.return_, 1) := by decide +kernel
theorem d_Mo_addExcess_12 : decode b_Mo_addExcess 12 = .ok (.aload_n 0, 1) := by decide +kernel
theorem d_Mo_addExcess_13 : decode b_Mo_addExcess 13 = .ok (.iload_n 1, 1) := by decide +kernel
theorem d_Mo_addExcess_14 : decode b_Mo_addExcess 14 = .ok (.iload_n 3, 1) := by decide +kernel
theorem d_Mo_addExcess_15 : decode b_Mo_addExcess 15 = .ok (.invokevirtual 275, 3) := by decide +kernel
theorem d_Mo_addExcess_18 : decode b_Mo_addExcess 18 = .ok (.aload_n 0, 1) := by decide +kernel
theorem d_Mo_addExcess_19 : decode b_Mo_addExcess 19 = .ok (.getfield 258, 3) := by decide +kernel
theorem d_Mo_addExcess_22 : decode b_Mo_addExcess 22 = .ok (.ifCond .ne 18, 3) := by decide +kernel
theorem d_Mo_addExcess_25 : decode b_Mo_addExcess 25 = .ok (.aload_n 0, 1) := by decide +kernel
theorem d_Mo_addExcess_26 : decode b_Mo_addExcess 26 = .ok (.aload_n 0, 1) := by decide +kernel
theorem d_Mo_addExcess_27 : decode b_Mo_addExcess 27 = .ok (.getfield 251, 3) := by decide +kernel
theorem d_Mo_addExcess_30 : decode b_Mo_addExcess 30 = .ok (.iload_n 2, 1) := by decide +kernel
theorem d_Mo_addExcess_31 : decode b_Mo_addExcess 31 = .ok (.i2l, 1) := by decide +kernel
theorem d_Mo_addExcess_32 : decode b_Mo_addExcess 32 = .ok (.lmul, 1) := by decide +kernel
theorem d_Mo_addExcess_33 : decode b_Mo_addExcess 33 = .ok (.aload_n 0, 1) := by decide +kernel
theorem d_Mo_addExcess_34 : decode b_Mo_addExcess 34 = .ok (.getfield 255, 3) := by decide +kernel
theorem d_Mo_addExcess_37 : decode b_Mo_addExcess 37 = .ok (.invokevirtual 268, 3) := by decide +kernel
theorem d_Mo_addExcess_40 : decode b_Mo_addExcess 40 = .ok (.aload_n 0, 1) := by decide +kernel
theorem d_Mo_addExcess_41 : decode b_Mo_addExcess 41 = .ok (.getfield 258, 3) := by decide +kernel
theorem d_Mo_addExcess_44 : decode b_Mo_addExcess 44 = .ok (.ifCond .ne 35, 3) := by decide +kernel
theorem d_Mo_addExcess_47 : decode b_Mo_addExcess 47 = .ok (.aload_n 0, 1) := by decide +kernel
theorem d_Mo_addExcess_48 : decode b_Mo_addExcess 48 = .ok (.aload_n 0, 1) := by decide +kernel
theorem d_Mo_addExcess_49 : decode b_Mo_addExcess 49 = .ok (.getfield 278, 3) := by decide +kernel
theorem d_Mo_addExcess_52 : decode b_Mo_addExcess 52 = .ok (.aload_n 0, 1) := by decide +kernel
theorem d_Mo_addExcess_53 : decode b_Mo_addExcess 53 = .ok (.getfield 255, 3) := by decide +kernel
theorem d_Mo_addExcess_56 : decode b_Mo_addExcess 56 = .ok (.lmul, 1) := by decide +kernel
theorem d_Mo_addExcess_57 : decode b_Mo_addExcess 57 = .ok (.aload_n 0, 1) := by decide +kernel
theorem d_Mo_addExcess_58 : decode b_Mo_addExcess 58 = .ok (.getfield 251, 3) := by decide +kernel
theorem d_Mo_addExcess_61 : decode b_Mo_addExcess 61 = .ok (.aload_n 0, 1) := by decide +kernel
theorem d_Mo_addExcess_62 : decode b_Mo_addExcess 62 = .ok (.getfield 281, 3) := by decide +kernel
theorem d_Mo_addExcess_65 : decode b_Mo_addExcess 65 = .ok (.lmul, 1) := by decide +kernel
theorem d_Mo_addExcess_66 : decode b_Mo_addExcess 66 = .ok (.ladd, 1) := by decide +kernel
theorem d_Mo_addExcess_67 : decode b_Mo_addExcess 67 = .ok (.aload_n 0, 1) := by decide +kernel
theorem d_Mo_addExcess_68 : decode b_Mo_addExcess 68 = .ok (.getfield 281, 3) := by decide +kernel
theorem d_Mo_addExcess_71 : decode b_Mo_addExcess 71 = .ok (.aload_n 0, 1) := by decide +kernel
theorem d_Mo_addExcess_72 : decode b_Mo_addExcess 72 = .ok (.getfield 255, 3) := by decide +kernel
theorem d_Mo_addExcess_75 : decode b_Mo_addExcess 75 = .ok (.lmul, 1) := by decide +kernel
theorem d_Mo_addExcess_76 : decode b_Mo_addExcess 76 = .ok (.invokevirtual 268, 3) := by decide +kernel
theorem d_Mo_addExcess_79 : decode b_Mo_addExcess 79 = .ok (.aload_n 0, 1) := by decide +kernel
theorem d_Mo_addExcess_80 : decode b_Mo_addExcess 80 = .ok (.aload_n 0, 1) := by decide +kernel
theorem d_Mo_addExcess_81 : decode b_Mo_addExcess 81 = .ok (.getfield 251, 3) := by decide +kernel
theorem d_Mo_addExcess_84 : decode b_Mo_addExcess 84 = .ok (.putfield 278, 3) := by decide +kernel
theorem d_Mo_addExcess_87 : decode b_Mo_addExcess 87 = .ok (.aload_n 0, 1) := by decide +kernel
theorem d_Mo_addExcess_88 : decode b_Mo_addExcess 88 = .ok (.aload_n 0, 1) := by decide +kernel
theorem d_Mo_addExcess_89 : decode b_Mo_addExcess 89 = .ok (.getfield 255, 3) := by decide +kernel
theorem d_Mo_addExcess_92 : decode b_Mo_addExcess 92 = .ok (.putfield 281, 3) := by decide +kernel
theorem d_Mo_addExcess_95 : decode b_Mo_addExcess 95 = .ok (.return_, 1) := by decide +kernel
def f_Mo_addExcess_11 (σ : St) : St := σ
def k_Mo_addExcess_11 (σ : St) : Prop := True
def f_Mo_addExcess_95 (σ : St) : St := σ
def k_Mo_addExcess_95 (σ : St) : Prop := True
def f_Mo_addExcess_87 (σ : St) : St := f_Mo_addExcess_95 (sG σ 0 50 (σ.2 0 44))
def k_Mo_addExcess_87 (σ : St) : Prop := k_Mo_addExcess_95 (sG σ 0 50 (σ.2 0 44))
def f_Mo_addExcess_79 (σ : St) : St := f_Mo_addExcess_87 (sG σ 0 49 (σ.2 0 43))
def k_Mo_addExcess_79 (σ : St) : Prop := k_Mo_addExcess_87 (sG σ 0 49 (σ.2 0 43))
def f_Mo_addExcess_40 (σ : St) : St := if (σ.1 0 45) = 0 then (f_Mo_addExcess_79 (f_Mo_become (((σ.2 0 49) * (σ.2 0 44)) + ((σ.2 0 43) * (σ.2 0 50))) ((σ.2 0 50) * (σ.2 0 44)) σ)) else (f_Mo_addExcess_79 σ)
def k_Mo_addExcess_40 (σ : St) : Prop := ((σ.1 0 45) = 0 → ((k_Mo_become (((σ.2 0 49) * (σ.2 0 44)) + ((σ.2 0 43) * (σ.2 0 50))) ((σ.2 0 50) * (σ.2 0 44)) σ) ∧ (k_Mo_addExcess_79 (f_Mo_become (((σ.2 0 49) * (σ.2 0 44)) + ((σ.2 0 43) * (σ.2 0 50))) ((σ.2 0 50) * (σ.2 0 44)) σ)))) ∧ (¬ (σ.1 0 45) = 0 → (k_Mo_addExcess_79 σ))
def f_Mo_addExcess_18 (x2 : Int32) (σ : St) : St := if (σ.1 0 45) = 0 then (f_Mo_addExcess_40 (f_Mo_become ((σ.2 0 43) * x2.toInt64) (σ.2 0 44) σ)) else (f_Mo_addExcess_40 σ)
def k_Mo_addExcess_18 (x2 : Int32) (σ : St) : Prop := ((σ.1 0 45) = 0 → ((k_Mo_become ((σ.2 0 43) * x2.toInt64) (σ.2 0 44) σ) ∧ (k_Mo_addExcess_40 (f_Mo_become ((σ.2 0 43) * x2.toInt64) (σ.2 0 44) σ)))) ∧ (¬ (σ.1 0 45) = 0 → (k_Mo_addExcess_40 σ))
def f_Mo_addExcess (a1 : Int32) (a2 : Int32) (a3 : Int32) (σ : St) : St := if a1 < 0 then (f_Mo_addExcess_11 σ) else (if (σ.1 0 45) = 0 then (f_Mo_addExcess_18 a2 (f_Mo_excess a1 a3 σ)) else (f_Mo_addExcess_11 σ))
def k_Mo_addExcess (a1 : Int32) (a2 : Int32) (a3 : Int32) (σ : St) : Prop := (a1 < 0 → (k_Mo_addExcess_11 σ)) ∧ (¬ a1 < 0 → (((σ.1 0 45) = 0 → ((k_Mo_excess a1 a3 σ) ∧ (k_Mo_addExcess_18 a2 (f_Mo_excess a1 a3 σ)))) ∧ (¬ (σ.1 0 45) = 0 → (k_Mo_addExcess_11 σ))))
abbrev w_Mo_addExcess : List Cond := Cond.code y_Mo_addExcess b_Mo_addExcess 4 none :: gw
abbrev rm_Mo_addExcess : Room := { frames := 4, cells := 0, slots := 0, locals := 108 }
set_option maxHeartbeats 4000000 in
set_option maxRecDepth 100000 in
theorem c_Mo_addExcess (l : Launch) (D : va_G) (ty : Nat → ClassId) (h : Nat → Nat) (px : va_W) (sa : Nat → Nat) (σ : St) (sz : Nat) (a1 : Int32) (a2 : Int32) (a3 : Int32) (hk : k_Mo_addExcess a1 a2 a3 σ) : Met l y_Mo_addExcess w_Mo_addExcess rm_Mo_addExcess (va_Pc [.ref (h 0), .int a1, .int a2, .int a3] (fun U => U.heap.size = sz ∧ va_P D classes (Wm ty h σ px) U.heap ∧ va_K D classes (Ta ty) U ∧ NW U ∧ MK sa (va_A (Wm ty h σ px) sz) U U.heap ∧ va_D (fun _ => True) (Wm ty h σ px))) (va_Qv (fun u : St => u = f_Mo_addExcess a1 a2 a3 σ) (fun u t => va_P D classes (Wm ty h u px) t.heap) (va_A (Wm ty h σ px) sz)) 0 0 (va_A (Wm ty h σ px) sz) := by
  refine Met.ofW (cc := b_Mo_addExcess) (maxL := 4) (ret := none) (by decide) rfl ?_
  intro p e s m args below meth c s₁ B hml hv
  obtain ⟨ha, hsz, hP, hK, hN, hM, hD0⟩ := hv
  have hx := B.exec
  have hb := B.bytes
  have hr := B.returns
  have hg : ∀ w ∈ gw, w.before args s = true := fun w h9 => atoms_spec (ws := w_Mo_addExcess) B.pre w (List.mem_cons_of_mem _ h9)
  have hown : s.vm.findClass "ClauseLedgerModel" = some m.cls := findClass_of_methodNamed B.named
  have hlocks := B.notSynchronized
  subst hsz
  have hD := hD0.self (sz := s.heap.size)
  generalize hAe : va_A (Wm ty h σ px) s.heap.size = A at hD hM ⊢
  have hA : ∀ q : Nat, s.heap.size ≤ q → A q := fun q h9 => by rw [← hAe]; exact Or.inr h9
  have hS : va_S A s.heap s.heap [] := va_S.rf
  have he : entryFrame m args 4 = entryFrame m ([.ref (h 0), .int a1, .int a2, .int a3] : List Value).toArray 4 := by rw [ha]
  rw [he, lg_entry_eq]
  have hl := lv_entry ([.ref (h 0), .int a1, .int a2, .int a3]) (n := 4) (Nat.le_of_ble_eq_true rfl)
  generalize (lg_sl ([.ref (h 0), .int a1, .int a2, .int a3]) ++ List.replicate (4 - (lg_sl ([.ref (h 0), .int a1, .int a2, .int a3])).length) Slot.unset).toArray = ls at hl ⊢
  have hl : lv_has ls 4 [(0, .ref (h 0)), (1, .int a1), (2, .int a2), (3, .int a3)] := hl
  generalize hv : f_Mo_addExcess a1 a2 a3 σ = v
  replace hv := hv.symm
  have B11 : ∀ (H : Heap) (locs : List Loc) (ls : Array Slot) (σ : St), v = f_Mo_addExcess_11 σ → k_Mo_addExcess_11 σ → lv_has ls 4 [] → va_P D classes (Wm ty h σ px) H → va_D A (Wm ty h σ px) → va_S A s.heap H locs → W p l e (headSpec w_Mo_addExcess rm_Mo_addExcess).room s m args below meth c H locs 0 0 (MQ below (va_Qv (fun u : St => u = v) (fun u t => va_P D classes (Wm ty h u px) t.heap) A) args s 0 0 A) (F0 m 11 ls []) := by
    intro H locs ls σ hv hk hl hP hD hS
    unfold f_Mo_addExcess_11 at hv
    unfold k_Mo_addExcess_11 at hk
    exact W.vret hx hb hr (fun t ht hW => ⟨⟨_, rfl, hv.symm, by dsimp only; rw [ht]; exact hP⟩, hS.F ht⟩) hS.2.2 d_Mo_addExcess_11
  have B95 : ∀ (H : Heap) (locs : List Loc) (ls : Array Slot) (σ : St), v = f_Mo_addExcess_95 σ → k_Mo_addExcess_95 σ → lv_has ls 4 [] → va_P D classes (Wm ty h σ px) H → va_D A (Wm ty h σ px) → va_S A s.heap H locs → W p l e (headSpec w_Mo_addExcess rm_Mo_addExcess).room s m args below meth c H locs 0 0 (MQ below (va_Qv (fun u : St => u = v) (fun u t => va_P D classes (Wm ty h u px) t.heap) A) args s 0 0 A) (F0 m 95 ls []) := by
    intro H locs ls σ hv hk hl hP hD hS
    unfold f_Mo_addExcess_95 at hv
    unfold k_Mo_addExcess_95 at hk
    exact W.vret hx hb hr (fun t ht hW => ⟨⟨_, rfl, hv.symm, by dsimp only; rw [ht]; exact hP⟩, hS.F ht⟩) hS.2.2 d_Mo_addExcess_95
  have B87 : ∀ (H : Heap) (locs : List Loc) (ls : Array Slot) (σ : St), v = f_Mo_addExcess_87 σ → k_Mo_addExcess_87 σ → lv_has ls 4 [(0, .ref (h 0))] → va_P D classes (Wm ty h σ px) H → va_D A (Wm ty h σ px) → va_S A s.heap H locs → W p l e (headSpec w_Mo_addExcess rm_Mo_addExcess).room s m args below meth c H locs 0 0 (MQ below (va_Qv (fun u : St => u = v) (fun u t => va_P D classes (Wm ty h u px) t.heap) A) args s 0 0 A) (F0 m 87 ls []) := by
    intro H locs ls σ hv hk hl hP hD hS
    unfold f_Mo_addExcess_87 at hv
    unfold k_Mo_addExcess_87 at hk
    refine lv_aload_n hx hb d_Mo_addExcess_87 rfl (lv_at hl 0 rfl) ?_
    refine lv_aload_n hx hb d_Mo_addExcess_88 rfl (lv_at hl 0 rfl) ?_
    refine va_get (v := .long (σ.2 0 44)) (C := R_Mo) (T := T_Mo) (N := 51) hx hb hg in_Mo hown hK hP 0 rfl rfl 44 (by decide) (hg _ m_1303) (fun _ h9 => h9) rfl d_Mo_addExcess_89 ?_
    refine va_put (v := .long (σ.2 0 44)) (ty := .long) (C := R_Mo) (T := T_Mo) (N := 51) hx hb hg in_Mo ty_Mo ok_Mo nm_Mo hown hK hP hD hS 0 rfl rfl 50 (by decide) (hg _ m_1309) (fun _ h9 => h9) rfl (by decide +kernel) rfl rfl (Nat.le_of_ble_eq_true rfl) d_Mo_addExcess_92 (fun H locs hP hD hS => ?_)
    have hP : va_P D classes (Wm ty h (sG σ 0 50 (σ.2 0 44)) px) H := hP
    have hD : va_D A (Wm ty h (sG σ 0 50 (σ.2 0 44)) px) := hD
    exact B95 _ _ _  (sG σ 0 50 (σ.2 0 44)) hv hk (lv_sub hl [] rfl) hP hD hS
  have B79 : ∀ (H : Heap) (locs : List Loc) (ls : Array Slot) (σ : St), v = f_Mo_addExcess_79 σ → k_Mo_addExcess_79 σ → lv_has ls 4 [(0, .ref (h 0))] → va_P D classes (Wm ty h σ px) H → va_D A (Wm ty h σ px) → va_S A s.heap H locs → W p l e (headSpec w_Mo_addExcess rm_Mo_addExcess).room s m args below meth c H locs 0 0 (MQ below (va_Qv (fun u : St => u = v) (fun u t => va_P D classes (Wm ty h u px) t.heap) A) args s 0 0 A) (F0 m 79 ls []) := by
    intro H locs ls σ hv hk hl hP hD hS
    unfold f_Mo_addExcess_79 at hv
    unfold k_Mo_addExcess_79 at hk
    refine lv_aload_n hx hb d_Mo_addExcess_79 rfl (lv_at hl 0 rfl) ?_
    refine lv_aload_n hx hb d_Mo_addExcess_80 rfl (lv_at hl 0 rfl) ?_
    refine va_get (v := .long (σ.2 0 43)) (C := R_Mo) (T := T_Mo) (N := 51) hx hb hg in_Mo hown hK hP 0 rfl rfl 43 (by decide) (hg _ m_1302) (fun _ h9 => h9) rfl d_Mo_addExcess_81 ?_
    refine va_put (v := .long (σ.2 0 43)) (ty := .long) (C := R_Mo) (T := T_Mo) (N := 51) hx hb hg in_Mo ty_Mo ok_Mo nm_Mo hown hK hP hD hS 0 rfl rfl 49 (by decide) (hg _ m_1308) (fun _ h9 => h9) rfl (by decide +kernel) rfl rfl (Nat.le_of_ble_eq_true rfl) d_Mo_addExcess_84 (fun H locs hP hD hS => ?_)
    have hP : va_P D classes (Wm ty h (sG σ 0 49 (σ.2 0 43)) px) H := hP
    have hD : va_D A (Wm ty h (sG σ 0 49 (σ.2 0 43)) px) := hD
    exact B87 _ _ _  (sG σ 0 49 (σ.2 0 43)) hv hk (lv_sub hl [0] rfl) hP hD hS
  have B40 : ∀ (H : Heap) (locs : List Loc) (ls : Array Slot) (σ : St), v = f_Mo_addExcess_40 σ → k_Mo_addExcess_40 σ → lv_has ls 4 [(0, .ref (h 0))] → va_P D classes (Wm ty h σ px) H → va_D A (Wm ty h σ px) → va_S A s.heap H locs → W p l e (headSpec w_Mo_addExcess rm_Mo_addExcess).room s m args below meth c H locs 0 0 (MQ below (va_Qv (fun u : St => u = v) (fun u t => va_P D classes (Wm ty h u px) t.heap) A) args s 0 0 A) (F0 m 40 ls []) := by
    intro H locs ls σ hv hk hl hP hD hS
    unfold f_Mo_addExcess_40 at hv
    unfold k_Mo_addExcess_40 at hk
    refine lv_aload_n hx hb d_Mo_addExcess_40 rfl (lv_at hl 0 rfl) ?_
    refine va_get (v := .int (σ.1 0 45)) (C := R_Mo) (T := T_Mo) (N := 51) hx hb hg in_Mo hown hK hP 0 rfl rfl 45 (by decide) (hg _ m_1304) (fun _ h9 => h9) rfl d_Mo_addExcess_41 ?_
    refine lv_if_ne (tgt := 79) hx hb d_Mo_addExcess_44 (by decide) (fun hc => ?_) (fun hc => ?_)
    · have hv := hv.trans (if_neg hc)
      have hk := hk.2 hc
      exact B79 _ _ _  σ hv hk (lv_sub hl [0] rfl) hP hD hS
    · have hv := hv.trans (if_pos hc)
      have hk := hk.1 hc
      refine lv_aload_n hx hb d_Mo_addExcess_47 rfl (lv_at hl 0 rfl) ?_
      refine lv_aload_n hx hb d_Mo_addExcess_48 rfl (lv_at hl 0 rfl) ?_
      refine va_get (v := .long (σ.2 0 49)) (C := R_Mo) (T := T_Mo) (N := 51) hx hb hg in_Mo hown hK hP 0 rfl rfl 49 (by decide) (hg _ m_1308) (fun _ h9 => h9) rfl d_Mo_addExcess_49 ?_
      refine lv_aload_n hx hb d_Mo_addExcess_52 rfl (lv_at hl 0 rfl) ?_
      refine va_get (v := .long (σ.2 0 44)) (C := R_Mo) (T := T_Mo) (N := 51) hx hb hg in_Mo hown hK hP 0 rfl rfl 44 (by decide) (hg _ m_1303) (fun _ h9 => h9) rfl d_Mo_addExcess_53 ?_
      refine lv_lmul hx hb d_Mo_addExcess_56 ?_
      refine lv_aload_n hx hb d_Mo_addExcess_57 rfl (lv_at hl 0 rfl) ?_
      refine va_get (v := .long (σ.2 0 43)) (C := R_Mo) (T := T_Mo) (N := 51) hx hb hg in_Mo hown hK hP 0 rfl rfl 43 (by decide) (hg _ m_1302) (fun _ h9 => h9) rfl d_Mo_addExcess_58 ?_
      refine lv_aload_n hx hb d_Mo_addExcess_61 rfl (lv_at hl 0 rfl) ?_
      refine va_get (v := .long (σ.2 0 50)) (C := R_Mo) (T := T_Mo) (N := 51) hx hb hg in_Mo hown hK hP 0 rfl rfl 50 (by decide) (hg _ m_1309) (fun _ h9 => h9) rfl d_Mo_addExcess_62 ?_
      refine lv_lmul hx hb d_Mo_addExcess_65 ?_
      refine lv_ladd hx hb d_Mo_addExcess_66 ?_
      refine lv_aload_n hx hb d_Mo_addExcess_67 rfl (lv_at hl 0 rfl) ?_
      refine va_get (v := .long (σ.2 0 50)) (C := R_Mo) (T := T_Mo) (N := 51) hx hb hg in_Mo hown hK hP 0 rfl rfl 50 (by decide) (hg _ m_1309) (fun _ h9 => h9) rfl d_Mo_addExcess_68 ?_
      refine lv_aload_n hx hb d_Mo_addExcess_71 rfl (lv_at hl 0 rfl) ?_
      refine va_get (v := .long (σ.2 0 44)) (C := R_Mo) (T := T_Mo) (N := 51) hx hb hg in_Mo hown hK hP 0 rfl rfl 44 (by decide) (hg _ m_1303) (fun _ h9 => h9) rfl d_Mo_addExcess_72 ?_
      refine lv_lmul hx hb d_Mo_addExcess_75 ?_
      obtain ⟨hk0, hk⟩ := hk
      refine va_callv (va_runV (As := [.long (((σ.2 0 49) * (σ.2 0 44)) + ((σ.2 0 43) * (σ.2 0 50))), .long ((σ.2 0 50) * (σ.2 0 44))]) (rest := []) ⟨hx, hb, hml, hown, hg⟩ (c_Mo_become l D ty h px sa σ H.size (((σ.2 0 49) * (σ.2 0 44)) + ((σ.2 0 43) * (σ.2 0 50))) ((σ.2 0 50) * (σ.2 0 44)) hk0) ⟨callB_of 2 hg (gw_C m_1619) rfl rfl rfl (hg _ m_13) (hg _ m_1616) hd_Mo_become ⟨Nat.le_of_ble_eq_true rfl, Nat.le_of_ble_eq_true rfl⟩, hg _ m_1618, hg _ ms_80⟩ (zz_preVW hM hS hA hN hK hP hD 0 rfl rfl) rfl rfl hl.1 rfl (lv_room (Nat.le_of_ble_eq_true rfl)) d_Mo_addExcess_76 ⟨Nat.le_of_ble_eq_true rfl, Nat.le_of_ble_eq_true rfl⟩) hS (fun q _ h => zz_free hD hS hA q h) (zz_free hD hS hA) (fun u76 t H locs ht hvm hp hP1 hz hk1 hS => ?_)
      rw [ht] at hP1
      rw [← hp] at hv hk
      have hD : va_D A (Wm ty h u76 px) := zz_D hD rfl
      have hP := hP1
      exact B79 _ _ _  u76 hv hk (lv_sub hl [0] rfl) hP hD hS
  have B18 : ∀ (H : Heap) (locs : List Loc) (ls : Array Slot) (x2 : Int32) (σ : St), v = f_Mo_addExcess_18 x2 σ → k_Mo_addExcess_18 x2 σ → lv_has ls 4 [(0, .ref (h 0)), (2, .int x2)] → va_P D classes (Wm ty h σ px) H → va_D A (Wm ty h σ px) → va_S A s.heap H locs → W p l e (headSpec w_Mo_addExcess rm_Mo_addExcess).room s m args below meth c H locs 0 0 (MQ below (va_Qv (fun u : St => u = v) (fun u t => va_P D classes (Wm ty h u px) t.heap) A) args s 0 0 A) (F0 m 18 ls []) := by
    intro H locs ls x2 σ hv hk hl hP hD hS
    unfold f_Mo_addExcess_18 at hv
    unfold k_Mo_addExcess_18 at hk
    refine lv_aload_n hx hb d_Mo_addExcess_18 rfl (lv_at hl 0 rfl) ?_
    refine va_get (v := .int (σ.1 0 45)) (C := R_Mo) (T := T_Mo) (N := 51) hx hb hg in_Mo hown hK hP 0 rfl rfl 45 (by decide) (hg _ m_1304) (fun _ h9 => h9) rfl d_Mo_addExcess_19 ?_
    refine lv_if_ne (tgt := 40) hx hb d_Mo_addExcess_22 (by decide) (fun hc => ?_) (fun hc => ?_)
    · have hv := hv.trans (if_neg hc)
      have hk := hk.2 hc
      exact B40 _ _ _  σ hv hk (lv_sub hl [0] rfl) hP hD hS
    · have hv := hv.trans (if_pos hc)
      have hk := hk.1 hc
      refine lv_aload_n hx hb d_Mo_addExcess_25 rfl (lv_at hl 0 rfl) ?_
      refine lv_aload_n hx hb d_Mo_addExcess_26 rfl (lv_at hl 0 rfl) ?_
      refine va_get (v := .long (σ.2 0 43)) (C := R_Mo) (T := T_Mo) (N := 51) hx hb hg in_Mo hown hK hP 0 rfl rfl 43 (by decide) (hg _ m_1302) (fun _ h9 => h9) rfl d_Mo_addExcess_27 ?_
      refine lv_iload_n hx hb d_Mo_addExcess_30 rfl (lv_at hl 1 rfl) ?_
      refine lv_i2l hx hb d_Mo_addExcess_31 rfl ?_
      refine lv_lmul hx hb d_Mo_addExcess_32 ?_
      refine lv_aload_n hx hb d_Mo_addExcess_33 rfl (lv_at hl 0 rfl) ?_
      refine va_get (v := .long (σ.2 0 44)) (C := R_Mo) (T := T_Mo) (N := 51) hx hb hg in_Mo hown hK hP 0 rfl rfl 44 (by decide) (hg _ m_1303) (fun _ h9 => h9) rfl d_Mo_addExcess_34 ?_
      obtain ⟨hk0, hk⟩ := hk
      refine va_callv (va_runV (As := [.long ((σ.2 0 43) * x2.toInt64), .long (σ.2 0 44)]) (rest := []) ⟨hx, hb, hml, hown, hg⟩ (c_Mo_become l D ty h px sa σ H.size ((σ.2 0 43) * x2.toInt64) (σ.2 0 44) hk0) ⟨callB_of 2 hg (gw_C m_1619) rfl rfl rfl (hg _ m_13) (hg _ m_1616) hd_Mo_become ⟨Nat.le_of_ble_eq_true rfl, Nat.le_of_ble_eq_true rfl⟩, hg _ m_1618, hg _ ms_80⟩ (zz_preVW hM hS hA hN hK hP hD 0 rfl rfl) rfl rfl hl.1 rfl (lv_room (Nat.le_of_ble_eq_true rfl)) d_Mo_addExcess_37 ⟨Nat.le_of_ble_eq_true rfl, Nat.le_of_ble_eq_true rfl⟩) hS (fun q _ h => zz_free hD hS hA q h) (zz_free hD hS hA) (fun u37 t H locs ht hvm hp hP1 hz hk1 hS => ?_)
      rw [ht] at hP1
      rw [← hp] at hv hk
      have hD : va_D A (Wm ty h u37 px) := zz_D hD rfl
      have hP := hP1
      exact B40 _ _ _  u37 hv hk (lv_sub hl [0] rfl) hP hD hS
  unfold f_Mo_addExcess at hv
  unfold k_Mo_addExcess at hk
  refine lv_iload_n hx hb d_Mo_addExcess_0 rfl (lv_at hl 1 rfl) ?_
  refine lv_if_lt (tgt := 11) hx hb d_Mo_addExcess_1 (by decide) (fun hc => ?_) (fun hc => ?_)
  · have hv := hv.trans (if_pos hc)
    have hk := hk.1 hc
    exact B11 _ _ _  σ hv hk (lv_sub hl [] rfl) hP hD hS
  · have hv := hv.trans (if_neg hc)
    have hk := hk.2 hc
    refine lv_aload_n hx hb d_Mo_addExcess_4 rfl (lv_at hl 0 rfl) ?_
    refine va_get (v := .int (σ.1 0 45)) (C := R_Mo) (T := T_Mo) (N := 51) hx hb hg in_Mo hown hK hP 0 rfl rfl 45 (by decide) (hg _ m_1304) (fun _ h9 => h9) rfl d_Mo_addExcess_5 ?_
    refine lv_if_eq (tgt := 12) hx hb d_Mo_addExcess_8 (by decide) (fun hc => ?_) (fun hc => ?_)
    · have hv := hv.trans (if_pos hc)
      have hk := hk.1 hc
      refine lv_aload_n hx hb d_Mo_addExcess_12 rfl (lv_at hl 0 rfl) ?_
      refine lv_iload_n hx hb d_Mo_addExcess_13 rfl (lv_at hl 1 rfl) ?_
      refine lv_iload_n hx hb d_Mo_addExcess_14 rfl (lv_at hl 3 rfl) ?_
      obtain ⟨hk0, hk⟩ := hk
      refine va_callv (va_runV (As := [.int a1, .int a3]) (rest := []) ⟨hx, hb, hml, hown, hg⟩ (c_Mo_excess l D ty h px sa σ s.heap.size a1 a3 hk0) ⟨callB_of 2 hg (gw_C m_1607) rfl rfl rfl (hg _ m_13) (hg _ m_1604) hd_Mo_excess ⟨Nat.le_of_ble_eq_true rfl, Nat.le_of_ble_eq_true rfl⟩, hg _ m_1606, hg _ ms_77⟩ (zz_preVW hM hS hA hN hK hP hD 0 rfl rfl) rfl rfl hl.1 rfl (lv_room (Nat.le_of_ble_eq_true rfl)) d_Mo_addExcess_15 ⟨Nat.le_of_ble_eq_true rfl, Nat.le_of_ble_eq_true rfl⟩) hS (fun q _ h => zz_free hD hS hA q h) (zz_free hD hS hA) (fun u15 t H locs ht hvm hp hP1 hz hk1 hS => ?_)
      rw [ht] at hP1
      rw [← hp] at hv hk
      have hD : va_D A (Wm ty h u15 px) := zz_D hD rfl
      have hP := hP1
      exact B18 _ _ _ a2 u15 hv hk (lv_sub hl [0, 2] rfl) hP hD hS
    · have hv := hv.trans (if_neg hc)
      have hk := hk.2 hc
      exact B11 _ _ _  σ hv hk (lv_sub hl [] rfl) hP hD hS

-- ClauseLedgerModel.formed(II)Z
abbrev b_Mo_formed : ByteArray := prog_14_method_53_code
def y_Mo_formed : MethodName := ⟨"ClauseLedgerModel", "formed", "(II)Z"⟩
theorem hd_Mo_formed : y_Mo_formed.cls ≠ "java/lang/invoke/MethodHandle" ∧ y_Mo_formed.cls ≠ "java/lang/invoke/VarHandle" ∧ (parseMethodDescriptor y_Mo_formed.desc).map (fun d => d.parameters.length) = some 2 := by decide +kernel
theorem d_Mo_formed_0 : decode b_Mo_formed 0 = .ok (.iload_n 1, 1) := by decide +kernel
theorem d_Mo_formed_1 : decode b_Mo_formed 1 = .ok (.ifCond .ge 5, 3) := by decide +kernel
theorem d_Mo_formed_4 : decode b_Mo_formed 4 = .ok (.iconst 1, 1) := by decide +kernel
theorem d_Mo_formed_5 : decode b_Mo_formed 5 = .ok (.ireturn, 1) := by decide +kernel
theorem d_Mo_formed_6 : decode b_Mo_formed 6 = .ok (.aload_n 0, 1) := by decide +kernel
theorem d_Mo_formed_7 : decode b_Mo_formed 7 = .ok (.getfield 26, 3) := by decide +kernel
theorem d_Mo_formed_10 : decode b_Mo_formed 10 = .ok (.iload_n 1, 1) := by decide +kernel
theorem d_Mo_formed_11 : decode b_Mo_formed 11 = .ok (.iaload, 1) := by decide +kernel
theorem d_Mo_formed_12 : decode b_Mo_formed 12 = .ok (.bipush 7, 2) := by decide +kernel
theorem d_Mo_formed_14 : decode b_Mo_formed 14 = .ok (.if_icmp .ne 12, 3) := by decide +kernel
theorem d_Mo_formed_17 : decode b_Mo_formed 17 = .ok (.aload_n 0, 1) := by decide +kernel
theorem d_Mo_formed_18 : decode b_Mo_formed 18 = .ok (.getfield 35, 3) := by decide +kernel
theorem d_Mo_formed_21 : decode b_Mo_formed 21 = .ok (.iload_n 1, 1) := by decide +kernel
theorem d_Mo_formed_22 : decode b_Mo_formed 22 = .ok (.iaload, 1) := by decide +kernel
theorem d_Mo_formed_23 : decode b_Mo_formed 23 = .ok (.goto 4, 3) := by decide +kernel
theorem d_Mo_formed_26 : decode b_Mo_formed 26 = .ok (.iload_n 1, 1) := by decide +kernel
theorem d_Mo_formed_27 : decode b_Mo_formed 27 = .ok (.istore_n 3, 1) := by decide +kernel
theorem d_Mo_formed_28 : decode b_Mo_formed 28 = .ok (.aload_n 0, 1) := by decide +kernel
theorem d_Mo_formed_29 : decode b_Mo_formed 29 = .ok (.getfield 26, 3) := by decide +kernel
theorem d_Mo_formed_32 : decode b_Mo_formed 32 = .ok (.iload_n 1, 1) := by decide +kernel
theorem d_Mo_formed_33 : decode b_Mo_formed 33 = .ok (.iaload, 1) := by decide +kernel
theorem d_Mo_formed_34 : decode b_Mo_formed 34 = .ok (.bipush 7, 2) := by decide +kernel
theorem d_Mo_formed_36 : decode b_Mo_formed 36 = .ok (.if_icmp .ne 32, 3) := by decide +kernel
theorem d_Mo_formed_39 : decode b_Mo_formed 39 = .ok (.aload_n 0, 1) := by decide +kernel
theorem d_Mo_formed_40 : decode b_Mo_formed 40 = .ok (.getfield 26, 3) := by decide +kernel
theorem d_Mo_formed_43 : decode b_Mo_formed 43 = .ok (.iload_n 3, 1) := by decide +kernel
theorem d_Mo_formed_44 : decode b_Mo_formed 44 = .ok (.iaload, 1) := by decide +kernel
theorem d_Mo_formed_45 : decode b_Mo_formed 45 = .ok (.iconst 5, 1) := by decide +kernel
theorem d_Mo_formed_46 : decode b_Mo_formed 46 = .ok (.if_icmp .ne 22, 3) := by decide +kernel
theorem d_Mo_formed_49 : decode b_Mo_formed 49 = .ok (.aload_n 0, 1) := by decide +kernel
theorem d_Mo_formed_50 : decode b_Mo_formed 50 = .ok (.getfield 29, 3) := by decide +kernel
theorem d_Mo_formed_53 : decode b_Mo_formed 53 = .ok (.aload_n 0, 1) := by decide +kernel
theorem d_Mo_formed_54 : decode b_Mo_formed 54 = .ok (.getfield 35, 3) := by decide +kernel
theorem d_Mo_formed_57 : decode b_Mo_formed 57 = .ok (.iload_n 3, 1) := by decide +kernel
theorem d_Mo_formed_58 : decode b_Mo_formed 58 = .ok (.iaload, 1) := by decide +kernel
theorem d_Mo_formed_59 : decode b_Mo_formed 59 = .ok (.iaload, 1) := by decide +kernel
theorem d_Mo_formed_60 : decode b_Mo_formed 60 = .ok (.iconst 1, 1) := by decide +kernel
theorem d_Mo_formed_61 : decode b_Mo_formed 61 = .ok (.if_icmp .ne 7, 3) := by decide +kernel
theorem d_Mo_formed_64 : decode b_Mo_formed 64 = .ok (.iconst 1, 1) := by decide +kernel
theorem d_Mo_formed_65 : decode b_Mo_formed 65 = .ok (.goto 4, 3) := by decide +kernel
theorem d_Mo_formed_68 : decode b_Mo_formed 68 = .ok (.iconst 0, 1) := by decide +kernel
theorem d_Mo_formed_69 : decode b_Mo_formed 69 = .ok (.istore 4, 2) := by decide +kernel
theorem d_Mo_formed_71 : decode b_Mo_formed 71 = .ok (.iload 4, 2) := by decide +kernel
theorem d_Mo_formed_73 : decode b_Mo_formed 73 = .ok (.ifCond .ne 18, 3) := by decide +kernel
theorem d_Mo_formed_76 : decode b_Mo_formed 76 = .ok (.aload_n 0, 1) := by decide +kernel
theorem d_Mo_formed_77 : decode b_Mo_formed 77 = .ok (.getfield 26, 3) := by decide +kernel
theorem d_Mo_formed_80 : decode b_Mo_formed 80 = .ok (.iload_n 3, 1) := by decide +kernel
theorem d_Mo_formed_81 : decode b_Mo_formed 81 = .ok (.iaload, 1) := by decide +kernel
theorem d_Mo_formed_82 : decode b_Mo_formed 82 = .ok (.bipush 6, 2) := by decide +kernel
theorem d_Mo_formed_84 : decode b_Mo_formed 84 = .ok (.if_icmp .ne 23, 3) := by decide +kernel
theorem d_Mo_formed_87 : decode b_Mo_formed 87 = .ok (.iload_n 2, 1) := by decide +kernel
theorem d_Mo_formed_88 : decode b_Mo_formed 88 = .ok (.ifCond .lt 19, 3) := by decide +kernel
theorem d_Mo_formed_91 : decode b_Mo_formed 91 = .ok (.iload_n 2, 1) := by decide +kernel
theorem d_Mo_formed_92 : decode b_Mo_formed 92 = .ok (.bipush (-99), 2) := by decide +kernel
theorem d_Mo_formed_94 : decode b_Mo_formed 94 = .ok (.if_icmp .lt 13, 3) := by decide +kernel
theorem d_Mo_formed_97 : decode b_Mo_formed 97 = .ok (.iload_n 2, 1) := by decide +kernel
theorem d_Mo_formed_98 : decode b_Mo_formed 98 = .ok (.bipush 99, 2) := by decide +kernel
theorem d_Mo_formed_100 : decode b_Mo_formed 100 = .ok (.if_icmp .gt 7, 3) := by decide +kernel
theorem d_Mo_formed_103 : decode b_Mo_formed 103 = .ok (.iconst 1, 1) := by decide +kernel
theorem d_Mo_formed_104 : decode b_Mo_formed 104 = .ok (.goto 4, 3) := by decide +kernel
theorem d_Mo_formed_107 : decode b_Mo_formed 107 = .ok (.iconst 0, 1) := by decide +kernel
theorem d_Mo_formed_108 : decode b_Mo_formed 108 = .ok (.ireturn, 1) := by decide +kernel
def f_Mo_formed_108 (s0 : Int32) (σ : St) : Int32 := s0
def k_Mo_formed_108 (s0 : Int32) (σ : St) : Prop := (narrow .boolean (.int s0) = .int s0) ∧ True
def f_Mo_formed_107 (σ : St) : Int32 := f_Mo_formed_108 0 σ
def k_Mo_formed_107 (σ : St) : Prop := k_Mo_formed_108 0 σ
def f_Mo_formed_91 (x2 : Int32) (σ : St) : Int32 := if x2 < (-99) then (f_Mo_formed_107 σ) else (if 99 < x2 then (f_Mo_formed_107 σ) else (f_Mo_formed_108 1 σ))
def k_Mo_formed_91 (x2 : Int32) (σ : St) : Prop := (x2 < (-99) → (k_Mo_formed_107 σ)) ∧ (¬ x2 < (-99) → ((99 < x2 → (k_Mo_formed_107 σ)) ∧ (¬ 99 < x2 → (k_Mo_formed_108 1 σ))))
def f_Mo_formed_69 (x2 : Int32) (x3 : Int32) (s0 : Int32) (σ : St) : Int32 := if s0 = 0 then (if (σ.1 5 x3.toNatClampNeg) = 6 then (if x2 < 0 then (f_Mo_formed_107 σ) else (f_Mo_formed_91 x2 σ)) else (f_Mo_formed_107 σ)) else (f_Mo_formed_91 x2 σ)
def k_Mo_formed_69 (x2 : Int32) (x3 : Int32) (s0 : Int32) (σ : St) : Prop := (s0 = 0 → (vp_in x3 400 ∧ (((σ.1 5 x3.toNatClampNeg) = 6 → ((x2 < 0 → (k_Mo_formed_107 σ)) ∧ (¬ x2 < 0 → (k_Mo_formed_91 x2 σ)))) ∧ (¬ (σ.1 5 x3.toNatClampNeg) = 6 → (k_Mo_formed_107 σ))))) ∧ (¬ s0 = 0 → (k_Mo_formed_91 x2 σ))
def f_Mo_formed_68 (x2 : Int32) (x3 : Int32) (σ : St) : Int32 := f_Mo_formed_69 x2 x3 0 σ
def k_Mo_formed_68 (x2 : Int32) (x3 : Int32) (σ : St) : Prop := k_Mo_formed_69 x2 x3 0 σ
def f_Mo_formed_27 (x1 : Int32) (x2 : Int32) (s0 : Int32) (σ : St) : Int32 := if (σ.1 5 x1.toNatClampNeg) = 7 then (if (σ.1 5 s0.toNatClampNeg) = 5 then (if (σ.1 6 (σ.1 8 s0.toNatClampNeg).toNatClampNeg) = 1 then (f_Mo_formed_69 x2 s0 1 σ) else (f_Mo_formed_68 x2 s0 σ)) else (f_Mo_formed_68 x2 s0 σ)) else (f_Mo_formed_68 x2 s0 σ)
def k_Mo_formed_27 (x1 : Int32) (x2 : Int32) (s0 : Int32) (σ : St) : Prop := vp_in x1 400 ∧ (((σ.1 5 x1.toNatClampNeg) = 7 → (vp_in s0 400 ∧ (((σ.1 5 s0.toNatClampNeg) = 5 → (vp_in s0 400 ∧ (vp_in (σ.1 8 s0.toNatClampNeg) 400 ∧ (((σ.1 6 (σ.1 8 s0.toNatClampNeg).toNatClampNeg) = 1 → (k_Mo_formed_69 x2 s0 1 σ)) ∧ (¬ (σ.1 6 (σ.1 8 s0.toNatClampNeg).toNatClampNeg) = 1 → (k_Mo_formed_68 x2 s0 σ)))))) ∧ (¬ (σ.1 5 s0.toNatClampNeg) = 5 → (k_Mo_formed_68 x2 s0 σ))))) ∧ (¬ (σ.1 5 x1.toNatClampNeg) = 7 → (k_Mo_formed_68 x2 s0 σ)))
def f_Mo_formed (a1 : Int32) (a2 : Int32) (σ : St) : Int32 := if 0 ≤ a1 then (if (σ.1 5 a1.toNatClampNeg) = 7 then (f_Mo_formed_27 a1 a2 (σ.1 8 a1.toNatClampNeg) σ) else (f_Mo_formed_27 a1 a2 a1 σ)) else 1
def k_Mo_formed (a1 : Int32) (a2 : Int32) (σ : St) : Prop := (0 ≤ a1 → (vp_in a1 400 ∧ (((σ.1 5 a1.toNatClampNeg) = 7 → (vp_in a1 400 ∧ (k_Mo_formed_27 a1 a2 (σ.1 8 a1.toNatClampNeg) σ))) ∧ (¬ (σ.1 5 a1.toNatClampNeg) = 7 → (k_Mo_formed_27 a1 a2 a1 σ))))) ∧ (¬ 0 ≤ a1 → True)
abbrev w_Mo_formed : List Cond := Cond.code y_Mo_formed b_Mo_formed 5 (some .boolean) :: gw
abbrev rm_Mo_formed : Room := { frames := 0, cells := 0, slots := 0, locals := 0 }
set_option maxHeartbeats 4000000 in
set_option maxRecDepth 100000 in
theorem c_Mo_formed (l : Launch) (D : va_G) (ty : Nat → ClassId) (h : Nat → Nat) (px : va_W) (sa : Nat → Nat) (σ : St) (a1 : Int32) (a2 : Int32) (hk : k_Mo_formed a1 a2 σ) : Met l y_Mo_formed w_Mo_formed rm_Mo_formed (va_Pc [.ref (h 0), .int a1, .int a2] (fun U => va_P D classes (Wm ty h σ px) U.heap ∧ va_K D classes (Ta ty) U ∧ NW U ∧ MK sa (fun _ => False) U U.heap)) (k2_QcV (.int (f_Mo_formed a1 a2 σ))) 0 0 (fun _ => False) := by
  refine Met.ofW (cc := b_Mo_formed) (maxL := 5) (ret := (some .boolean)) (by decide) rfl ?_
  intro p e s m args below meth c s₁ B hml hv
  obtain ⟨ha, hP, hK, hN, hM⟩ := hv
  have hx := B.exec
  have hb := B.bytes
  have hr := B.returns
  have hg : ∀ w ∈ gw, w.before args s = true := fun w h9 => atoms_spec (ws := w_Mo_formed) B.pre w (List.mem_cons_of_mem _ h9)
  have hown : s.vm.findClass "ClauseLedgerModel" = some m.cls := findClass_of_methodNamed B.named
  have hlocks := B.notSynchronized
  have he : entryFrame m args 5 = entryFrame m ([.ref (h 0), .int a1, .int a2] : List Value).toArray 5 := by rw [ha]
  rw [he, lg_entry_eq]
  have hl := lv_entry ([.ref (h 0), .int a1, .int a2]) (n := 5) (Nat.le_of_ble_eq_true rfl)
  generalize (lg_sl ([.ref (h 0), .int a1, .int a2]) ++ List.replicate (5 - (lg_sl ([.ref (h 0), .int a1, .int a2])).length) Slot.unset).toArray = ls at hl ⊢
  have hl : lv_has ls 5 [(0, .ref (h 0)), (1, .int a1), (2, .int a2)] := hl
  generalize hv : f_Mo_formed a1 a2 σ = v
  replace hv := hv.symm
  have B108 : ∀ (ls : Array Slot) (s0 : Int32), v = f_Mo_formed_108 s0 σ → k_Mo_formed_108 s0 σ → lv_has ls 5 [] → W p l e (headSpec w_Mo_formed rm_Mo_formed).room s m args below meth c s.heap [] 0 0 (MQ below (k2_QcV (.int v)) args s 0 0 (fun _ => False)) (F0 m 108 ls [.int s0]) := by
    intro ls s0 hv hk hl
    unfold f_Mo_formed_108 at hv
    unfold k_Mo_formed_108 at hk
    obtain ⟨hk0, hk⟩ := hk
    exact W.zret hx hb hr hk0 (fun t ht hW => ⟨by rw [hv], ht⟩) (fun q h => nomatch h) d_Mo_formed_108
  have B107 : ∀ (ls : Array Slot), v = f_Mo_formed_107 σ → k_Mo_formed_107 σ → lv_has ls 5 [] → W p l e (headSpec w_Mo_formed rm_Mo_formed).room s m args below meth c s.heap [] 0 0 (MQ below (k2_QcV (.int v)) args s 0 0 (fun _ => False)) (F0 m 107 ls []) := by
    intro ls hv hk hl
    unfold f_Mo_formed_107 at hv
    unfold k_Mo_formed_107 at hk
    refine lv_iconst (v := 0) hx hb d_Mo_formed_107 (by decide) ?_
    exact B108 _ 0 hv hk (lv_sub hl [] rfl)
  have B91 : ∀ (ls : Array Slot) (x2 : Int32), v = f_Mo_formed_91 x2 σ → k_Mo_formed_91 x2 σ → lv_has ls 5 [(2, .int x2)] → W p l e (headSpec w_Mo_formed rm_Mo_formed).room s m args below meth c s.heap [] 0 0 (MQ below (k2_QcV (.int v)) args s 0 0 (fun _ => False)) (F0 m 91 ls []) := by
    intro ls x2 hv hk hl
    unfold f_Mo_formed_91 at hv
    unfold k_Mo_formed_91 at hk
    refine lv_iload_n hx hb d_Mo_formed_91 rfl (lv_at hl 0 rfl) ?_
    refine lv_bipush (v := -99) hx hb d_Mo_formed_92 (by decide) ?_
    refine lv_icmp_lt (tgt := 107) hx hb d_Mo_formed_94 (by decide) (fun hc => ?_) (fun hc => ?_)
    · have hv := hv.trans (if_pos hc)
      have hk := hk.1 hc
      exact B107 _  hv hk (lv_sub hl [] rfl)
    · have hv := hv.trans (if_neg hc)
      have hk := hk.2 hc
      refine lv_iload_n hx hb d_Mo_formed_97 rfl (lv_at hl 0 rfl) ?_
      refine lv_bipush (v := 99) hx hb d_Mo_formed_98 (by decide) ?_
      refine lv_icmp_gt (tgt := 107) hx hb d_Mo_formed_100 (by decide) (fun hc => ?_) (fun hc => ?_)
      · have hv := hv.trans (if_pos hc)
        have hk := hk.1 hc
        exact B107 _  hv hk (lv_sub hl [] rfl)
      · have hv := hv.trans (if_neg hc)
        have hk := hk.2 hc
        refine lv_iconst (v := 1) hx hb d_Mo_formed_103 (by decide) ?_
        refine lv_goto (tgt := 108) hx hb d_Mo_formed_104 (by decide) ?_
        exact B108 _ 1 hv hk (lv_sub hl [] rfl)
  have B69 : ∀ (ls : Array Slot) (x2 : Int32) (x3 : Int32) (s0 : Int32), v = f_Mo_formed_69 x2 x3 s0 σ → k_Mo_formed_69 x2 x3 s0 σ → lv_has ls 5 [(0, .ref (h 0)), (2, .int x2), (3, .int x3)] → W p l e (headSpec w_Mo_formed rm_Mo_formed).room s m args below meth c s.heap [] 0 0 (MQ below (k2_QcV (.int v)) args s 0 0 (fun _ => False)) (F0 m 69 ls [.int s0]) := by
    intro ls x2 x3 s0 hv hk hl
    unfold f_Mo_formed_69 at hv
    unfold k_Mo_formed_69 at hk
    refine lv_istore (lv' := [(4, .int s0), (0, .ref (h 0)), (2, .int x2), (3, .int x3)]) hx hb d_Mo_formed_69 hl (by decide) rfl (fun ls hl => ?_)
    refine lv_iload hx hb d_Mo_formed_71 (lv_at hl 0 rfl) ?_
    refine lv_if_ne (tgt := 91) hx hb d_Mo_formed_73 (by decide) (fun hc => ?_) (fun hc => ?_)
    · have hv := hv.trans (if_neg hc)
      have hk := hk.2 hc
      exact B91 _ x2 hv hk (lv_sub hl [2] rfl)
    · have hv := hv.trans (if_pos hc)
      have hk := hk.1 hc
      refine lv_aload_n hx hb d_Mo_formed_76 rfl (lv_at hl 1 rfl) ?_
      refine va_get (v := .ref (h 5)) (C := R_Mo) (T := T_Mo) (N := 51) hx hb hg in_Mo hown hK hP 0 rfl rfl 10 (by decide) (hg _ m_1269) (fun _ h9 => h9) rfl d_Mo_formed_77 ?_
      refine lv_iload_n hx hb d_Mo_formed_80 rfl (lv_at hl 3 rfl) ?_
      obtain ⟨hk0, hk⟩ := hk
      refine va_iald hx hb hK hP 5 0 rfl rfl hk0 d_Mo_formed_81 ?_
      refine lv_bipush (v := 6) hx hb d_Mo_formed_82 (by decide) ?_
      refine lv_icmp_ne (tgt := 107) hx hb d_Mo_formed_84 (by decide) (fun hc => ?_) (fun hc => ?_)
      · have hv := hv.trans (if_neg hc)
        have hk := hk.2 hc
        exact B107 _  hv hk (lv_sub hl [] rfl)
      · have hv := hv.trans (if_pos hc)
        have hk := hk.1 hc
        refine lv_iload_n hx hb d_Mo_formed_87 rfl (lv_at hl 2 rfl) ?_
        refine lv_if_lt (tgt := 107) hx hb d_Mo_formed_88 (by decide) (fun hc => ?_) (fun hc => ?_)
        · have hv := hv.trans (if_pos hc)
          have hk := hk.1 hc
          exact B107 _  hv hk (lv_sub hl [] rfl)
        · have hv := hv.trans (if_neg hc)
          have hk := hk.2 hc
          exact B91 _ x2 hv hk (lv_sub hl [2] rfl)
  have B68 : ∀ (ls : Array Slot) (x2 : Int32) (x3 : Int32), v = f_Mo_formed_68 x2 x3 σ → k_Mo_formed_68 x2 x3 σ → lv_has ls 5 [(0, .ref (h 0)), (2, .int x2), (3, .int x3)] → W p l e (headSpec w_Mo_formed rm_Mo_formed).room s m args below meth c s.heap [] 0 0 (MQ below (k2_QcV (.int v)) args s 0 0 (fun _ => False)) (F0 m 68 ls []) := by
    intro ls x2 x3 hv hk hl
    unfold f_Mo_formed_68 at hv
    unfold k_Mo_formed_68 at hk
    refine lv_iconst (v := 0) hx hb d_Mo_formed_68 (by decide) ?_
    exact B69 _ x2 x3 0 hv hk (lv_sub hl [0, 1, 2] rfl)
  have B27 : ∀ (ls : Array Slot) (x1 : Int32) (x2 : Int32) (s0 : Int32), v = f_Mo_formed_27 x1 x2 s0 σ → k_Mo_formed_27 x1 x2 s0 σ → lv_has ls 5 [(0, .ref (h 0)), (1, .int x1), (2, .int x2)] → W p l e (headSpec w_Mo_formed rm_Mo_formed).room s m args below meth c s.heap [] 0 0 (MQ below (k2_QcV (.int v)) args s 0 0 (fun _ => False)) (F0 m 27 ls [.int s0]) := by
    intro ls x1 x2 s0 hv hk hl
    unfold f_Mo_formed_27 at hv
    unfold k_Mo_formed_27 at hk
    refine lv_istore_n (lv' := [(3, .int s0), (0, .ref (h 0)), (1, .int x1), (2, .int x2)]) hx hb d_Mo_formed_27 rfl hl (by decide) rfl (fun ls hl => ?_)
    refine lv_aload_n hx hb d_Mo_formed_28 rfl (lv_at hl 1 rfl) ?_
    refine va_get (v := .ref (h 5)) (C := R_Mo) (T := T_Mo) (N := 51) hx hb hg in_Mo hown hK hP 0 rfl rfl 10 (by decide) (hg _ m_1269) (fun _ h9 => h9) rfl d_Mo_formed_29 ?_
    refine lv_iload_n hx hb d_Mo_formed_32 rfl (lv_at hl 2 rfl) ?_
    obtain ⟨hk0, hk⟩ := hk
    refine va_iald hx hb hK hP 5 0 rfl rfl hk0 d_Mo_formed_33 ?_
    refine lv_bipush (v := 7) hx hb d_Mo_formed_34 (by decide) ?_
    refine lv_icmp_ne (tgt := 68) hx hb d_Mo_formed_36 (by decide) (fun hc => ?_) (fun hc => ?_)
    · have hv := hv.trans (if_neg hc)
      have hk := hk.2 hc
      exact B68 _ x2 s0 hv hk (lv_sub hl [1, 3, 0] rfl)
    · have hv := hv.trans (if_pos hc)
      have hk := hk.1 hc
      refine lv_aload_n hx hb d_Mo_formed_39 rfl (lv_at hl 1 rfl) ?_
      refine va_get (v := .ref (h 5)) (C := R_Mo) (T := T_Mo) (N := 51) hx hb hg in_Mo hown hK hP 0 rfl rfl 10 (by decide) (hg _ m_1269) (fun _ h9 => h9) rfl d_Mo_formed_40 ?_
      refine lv_iload_n hx hb d_Mo_formed_43 rfl (lv_at hl 0 rfl) ?_
      obtain ⟨hk0, hk⟩ := hk
      refine va_iald hx hb hK hP 5 0 rfl rfl hk0 d_Mo_formed_44 ?_
      refine lv_iconst (v := 5) hx hb d_Mo_formed_45 (by decide) ?_
      refine lv_icmp_ne (tgt := 68) hx hb d_Mo_formed_46 (by decide) (fun hc => ?_) (fun hc => ?_)
      · have hv := hv.trans (if_neg hc)
        have hk := hk.2 hc
        exact B68 _ x2 s0 hv hk (lv_sub hl [1, 3, 0] rfl)
      · have hv := hv.trans (if_pos hc)
        have hk := hk.1 hc
        refine lv_aload_n hx hb d_Mo_formed_49 rfl (lv_at hl 1 rfl) ?_
        refine va_get (v := .ref (h 6)) (C := R_Mo) (T := T_Mo) (N := 51) hx hb hg in_Mo hown hK hP 0 rfl rfl 11 (by decide) (hg _ m_1270) (fun _ h9 => h9) rfl d_Mo_formed_50 ?_
        refine lv_aload_n hx hb d_Mo_formed_53 rfl (lv_at hl 1 rfl) ?_
        refine va_get (v := .ref (h 8)) (C := R_Mo) (T := T_Mo) (N := 51) hx hb hg in_Mo hown hK hP 0 rfl rfl 13 (by decide) (hg _ m_1272) (fun _ h9 => h9) rfl d_Mo_formed_54 ?_
        refine lv_iload_n hx hb d_Mo_formed_57 rfl (lv_at hl 0 rfl) ?_
        obtain ⟨hk0, hk⟩ := hk
        refine va_iald hx hb hK hP 8 0 rfl rfl hk0 d_Mo_formed_58 ?_
        obtain ⟨hk0, hk⟩ := hk
        refine va_iald hx hb hK hP 6 0 rfl rfl hk0 d_Mo_formed_59 ?_
        refine lv_iconst (v := 1) hx hb d_Mo_formed_60 (by decide) ?_
        refine lv_icmp_ne (tgt := 68) hx hb d_Mo_formed_61 (by decide) (fun hc => ?_) (fun hc => ?_)
        · have hv := hv.trans (if_neg hc)
          have hk := hk.2 hc
          exact B68 _ x2 s0 hv hk (lv_sub hl [1, 3, 0] rfl)
        · have hv := hv.trans (if_pos hc)
          have hk := hk.1 hc
          refine lv_iconst (v := 1) hx hb d_Mo_formed_64 (by decide) ?_
          refine lv_goto (tgt := 69) hx hb d_Mo_formed_65 (by decide) ?_
          exact B69 _ x2 s0 1 hv hk (lv_sub hl [1, 3, 0] rfl)
  unfold f_Mo_formed at hv
  unfold k_Mo_formed at hk
  refine lv_iload_n hx hb d_Mo_formed_0 rfl (lv_at hl 1 rfl) ?_
  refine lv_if_ge (tgt := 6) hx hb d_Mo_formed_1 (by decide) (fun hc => ?_) (fun hc => ?_)
  · have hv := hv.trans (if_pos hc)
    have hk := hk.1 hc
    refine lv_aload_n hx hb d_Mo_formed_6 rfl (lv_at hl 0 rfl) ?_
    refine va_get (v := .ref (h 5)) (C := R_Mo) (T := T_Mo) (N := 51) hx hb hg in_Mo hown hK hP 0 rfl rfl 10 (by decide) (hg _ m_1269) (fun _ h9 => h9) rfl d_Mo_formed_7 ?_
    refine lv_iload_n hx hb d_Mo_formed_10 rfl (lv_at hl 1 rfl) ?_
    obtain ⟨hk0, hk⟩ := hk
    refine va_iald hx hb hK hP 5 0 rfl rfl hk0 d_Mo_formed_11 ?_
    refine lv_bipush (v := 7) hx hb d_Mo_formed_12 (by decide) ?_
    refine lv_icmp_ne (tgt := 26) hx hb d_Mo_formed_14 (by decide) (fun hc => ?_) (fun hc => ?_)
    · have hv := hv.trans (if_neg hc)
      have hk := hk.2 hc
      refine lv_iload_n hx hb d_Mo_formed_26 rfl (lv_at hl 1 rfl) ?_
      exact B27 _ a1 a2 a1 hv hk (lv_sub hl [0, 1, 2] rfl)
    · have hv := hv.trans (if_pos hc)
      have hk := hk.1 hc
      refine lv_aload_n hx hb d_Mo_formed_17 rfl (lv_at hl 0 rfl) ?_
      refine va_get (v := .ref (h 8)) (C := R_Mo) (T := T_Mo) (N := 51) hx hb hg in_Mo hown hK hP 0 rfl rfl 13 (by decide) (hg _ m_1272) (fun _ h9 => h9) rfl d_Mo_formed_18 ?_
      refine lv_iload_n hx hb d_Mo_formed_21 rfl (lv_at hl 1 rfl) ?_
      obtain ⟨hk0, hk⟩ := hk
      refine va_iald hx hb hK hP 8 0 rfl rfl hk0 d_Mo_formed_22 ?_
      refine lv_goto (tgt := 27) hx hb d_Mo_formed_23 (by decide) ?_
      exact B27 _ a1 a2 (σ.1 8 a1.toNatClampNeg) hv hk (lv_sub hl [0, 1, 2] rfl)
  · have hv := hv.trans (if_neg hc)
    have hk := hk.2 hc
    refine lv_iconst (v := 1) hx hb d_Mo_formed_4 (by decide) ?_
    exact W.zret hx hb hr rfl (fun t ht hW => ⟨by rw [hv], ht⟩) (fun q h => nomatch h) d_Mo_formed_5

-- ClauseLedgerModel.linear(IIIIII)I
abbrev b_Mo_linear : ByteArray := prog_14_method_54_code
def y_Mo_linear : MethodName := ⟨"ClauseLedgerModel", "linear", "(IIIIII)I"⟩
theorem hd_Mo_linear : y_Mo_linear.cls ≠ "java/lang/invoke/MethodHandle" ∧ y_Mo_linear.cls ≠ "java/lang/invoke/VarHandle" ∧ (parseMethodDescriptor y_Mo_linear.desc).map (fun d => d.parameters.length) = some 6 := by decide +kernel
theorem d_Mo_linear_0 : decode b_Mo_linear 0 = .ok (.aload_n 0, 1) := by decide +kernel
theorem d_Mo_linear_1 : decode b_Mo_linear 1 = .ok (.invokevirtual 201, 3) := by decide +kernel
theorem d_Mo_linear_4 : decode b_Mo_linear 4 = .ok (.ifCond .eq 5, 3) := by decide +kernel
theorem d_Mo_linear_7 : decode b_Mo_linear 7 = .ok (.iconst (-1), 1) := by decide +kernel
theorem d_Mo_linear_8 : decode b_Mo_linear 8 = .ok (.ireturn, 1) := by decide +kernel
theorem d_Mo_linear_9 : decode b_Mo_linear 9 = .ok (.sipush 17185, 3) := by decide +kernel
theorem d_Mo_linear_12 : decode b_Mo_linear 12 = .ok (.istore 7, 2) := by decide +kernel
theorem d_Mo_linear_14 : decode b_Mo_linear 14 = .ok (.aload_n 0, 1) := by decide +kernel
theorem d_Mo_linear_15 : decode b_Mo_linear 15 = .ok (.iload_n 1, 1) := by decide +kernel
theorem d_Mo_linear_16 : decode b_Mo_linear 16 = .ok (.invokevirtual 207, 3) := by decide +kernel
theorem d_Mo_linear_19 : decode b_Mo_linear 19 = .ok (.ifCond .eq 29, 3) := by decide +kernel
theorem d_Mo_linear_22 : decode b_Mo_linear 22 = .ok (.iload_n 2, 1) := by decide +kernel
theorem d_Mo_linear_23 : decode b_Mo_linear 23 = .ok (.iconst (-1), 1) := by decide +kernel
theorem d_Mo_linear_24 : decode b_Mo_linear 24 = .ok (.if_icmp .eq 11, 3) := by decide +kernel
theorem d_Mo_linear_27 : decode b_Mo_linear 27 = .ok (.aload_n 0, 1) := by decide +kernel
theorem d_Mo_linear_28 : decode b_Mo_linear 28 = .ok (.iload_n 2, 1) := by decide +kernel
theorem d_Mo_linear_29 : decode b_Mo_linear 29 = .ok (.invokevirtual 207, 3) := by decide +kernel
theorem d_Mo_linear_32 : decode b_Mo_linear 32 = .ok (.ifCond .eq 16, 3) := by decide +kernel
theorem d_Mo_linear_35 : decode b_Mo_linear 35 = .ok (.iload_n 3, 1) := by decide +kernel
theorem d_Mo_linear_36 : decode b_Mo_linear 36 = .ok (.iconst (-1), 1) := by decide +kernel
theorem d_Mo_linear_37 : decode b_Mo_linear 37 = .ok (.if_icmp .eq 19, 3) := by decide +kernel
theorem d_Mo_linear_40 : decode b_Mo_linear 40 = .ok (.aload_n 0, 1) := by decide +kernel
theorem d_Mo_linear_41 : decode b_Mo_linear 41 = .ok (.iload_n 3, 1) := by decide +kernel
theorem d_Mo_linear_42 : decode b_Mo_linear 42 = .ok (.invokevirtual 207, 3) := by decide +kernel
theorem d_Mo_linear_45 : decode b_Mo_linear 45 = .ok (.ifCond .ne 11, 3) := by decide +kernel
theorem d_Mo_linear_48 : decode b_Mo_linear 48 = .ok (.aload_n 0, 1) := by decide +kernel
theorem d_Mo_linear_49 : decode b_Mo_linear 49 = .ok (.iconst 1, 1) := by decide +kernel
theorem d_Mo_linear_50 : decode b_Mo_linear 50 = .ok (.iload 7, 2) := by decide +kernel
theorem d_Mo_linear_52 : decode b_Mo_linear 52 = .ok (.invokevirtual 133, 3) := by decide +kernel
theorem d_Mo_linear_55 : decode b_Mo_linear 55 = .ok (.ireturn, 1) := by decide +kernel
theorem d_Mo_linear_56 : decode b_Mo_linear 56 = .ok (.iload_n 2, 1) := by decide +kernel
theorem d_Mo_linear_57 : decode b_Mo_linear 57 = .ok (.iconst (-1), 1) := by decide +kernel
theorem d_Mo_linear_58 : decode b_Mo_linear 58 = .ok (.if_icmp .ne 8, 3) := by decide +kernel
theorem d_Mo_linear_61 : decode b_Mo_linear 61 = .ok (.iload_n 3, 1) := by decide +kernel
theorem d_Mo_linear_62 : decode b_Mo_linear 62 = .ok (.iconst (-1), 1) := by decide +kernel
theorem d_Mo_linear_63 : decode b_Mo_linear 63 = .ok (.if_icmp .ne 33, 3) := by decide +kernel
theorem d_Mo_linear_66 : decode b_Mo_linear 66 = .ok (.aload_n 0, 1) := by decide +kernel
theorem d_Mo_linear_67 : decode b_Mo_linear 67 = .ok (.iload_n 1, 1) := by decide +kernel
theorem d_Mo_linear_68 : decode b_Mo_linear 68 = .ok (.iload 4, 2) := by decide +kernel
theorem d_Mo_linear_70 : decode b_Mo_linear 70 = .ok (.invokevirtual 284, 3) := by decide +kernel
theorem d_Mo_linear_73 : decode b_Mo_linear 73 = .ok (.ifCond .eq 23, 3) := by decide +kernel
theorem d_Mo_linear_76 : decode b_Mo_linear 76 = .ok (.aload_n 0, 1) := by decide +kernel
theorem d_Mo_linear_77 : decode b_Mo_linear 77 = .ok (.iload_n 2, 1) := by decide +kernel
theorem d_Mo_linear_78 : decode b_Mo_linear 78 = .ok (.iload 5, 2) := by decide +kernel
theorem d_Mo_linear_80 : decode b_Mo_linear 80 = .ok (.invokevirtual 284, 3) := by decide +kernel
theorem d_Mo_linear_83 : decode b_Mo_linear 83 = .ok (.ifCond .eq 13, 3) := by decide +kernel
theorem d_Mo_linear_86 : decode b_Mo_linear 86 = .ok (.aload_n 0, 1) := by decide +kernel
theorem d_Mo_linear_87 : decode b_Mo_linear 87 = .ok (.iload_n 3, 1) := by decide +kernel
theorem d_Mo_linear_88 : decode b_Mo_linear 88 = .ok (.iload 6, 2) := by decide +kernel
theorem d_Mo_linear_90 : decode b_Mo_linear 90 = .ok (.invokevirtual 284, 3) := by decide +kernel
theorem d_Mo_linear_93 : decode b_Mo_linear 93 = .ok (.ifCond .ne 11, 3) := by decide +kernel
theorem d_Mo_linear_96 : decode b_Mo_linear 96 = .ok (.aload_n 0, 1) := by decide +kernel
theorem d_Mo_linear_97 : decode b_Mo_linear 97 = .ok (.iconst 2, 1) := by decide +kernel
theorem d_Mo_linear_98 : decode b_Mo_linear 98 = .ok (.iload 7, 2) := by decide +kernel
theorem d_Mo_linear_100 : decode b_Mo_linear 100 = .ok (.invokevirtual 133, 3) := by decide +kernel
theorem d_Mo_linear_103 : decode b_Mo_linear 103 = .ok (.ireturn, 1) := by decide +kernel
theorem d_Mo_linear_104 : decode b_Mo_linear 104 = .ok (.iconst 0, 1) := by decide +kernel
theorem d_Mo_linear_105 : decode b_Mo_linear 105 = .ok (.istore 8, 2) := by decide +kernel
theorem d_Mo_linear_107 : decode b_Mo_linear 107 = .ok (.aload_n 0, 1) := by decide +kernel
theorem d_Mo_linear_108 : decode b_Mo_linear 108 = .ok (.iconst 0, 1) := by decide +kernel
theorem d_Mo_linear_109 : decode b_Mo_linear 109 = .ok (.putfield 258, 3) := by decide +kernel
theorem d_Mo_linear_112 : decode b_Mo_linear 112 = .ok (.aload_n 0, 1) := by decide +kernel
theorem d_Mo_linear_113 : decode b_Mo_linear 113 = .ok (.getfield 120, 3) := by decide +kernel
theorem d_Mo_linear_116 : decode b_Mo_linear 116 = .ok (.iconst 1, 1) := by decide +kernel
theorem d_Mo_linear_117 : decode b_Mo_linear 117 = .ok (.isub, 1) := by decide +kernel
theorem d_Mo_linear_118 : decode b_Mo_linear 118 = .ok (.istore 9, 2) := by decide +kernel
theorem d_Mo_linear_120 : decode b_Mo_linear 120 = .ok (.iload 9, 2) := by decide +kernel
theorem d_Mo_linear_122 : decode b_Mo_linear 122 = .ok (.iconst (-1), 1) := by decide +kernel
theorem d_Mo_linear_123 : decode b_Mo_linear 123 = .ok (.if_icmp .lt 131, 3) := by decide +kernel
theorem d_Mo_linear_126 : decode b_Mo_linear 126 = .ok (.iload 9, 2) := by decide +kernel
theorem d_Mo_linear_128 : decode b_Mo_linear 128 = .ok (.ifCond .lt 35, 3) := by decide +kernel
theorem d_Mo_linear_131 : decode b_Mo_linear 131 = .ok (.aload_n 0, 1) := by decide +kernel
theorem d_Mo_linear_132 : decode b_Mo_linear 132 = .ok (.getfield 29, 3) := by decide +kernel
theorem d_Mo_linear_135 : decode b_Mo_linear 135 = .ok (.iload 9, 2) := by decide +kernel
theorem d_Mo_linear_137 : decode b_Mo_linear 137 = .ok (.iaload, 1) := by decide +kernel
theorem d_Mo_linear_138 : decode b_Mo_linear 138 = .ok (.iconst 1, 1) := by decide +kernel
theorem d_Mo_linear_139 : decode b_Mo_linear 139 = .ok (.if_icmp .ne 28, 3) := by decide +kernel
theorem d_Mo_linear_142 : decode b_Mo_linear 142 = .ok (.aload_n 0, 1) := by decide +kernel
theorem d_Mo_linear_143 : decode b_Mo_linear 143 = .ok (.getfield 26, 3) := by decide +kernel
theorem d_Mo_linear_146 : decode b_Mo_linear 146 = .ok (.iload 9, 2) := by decide +kernel
theorem d_Mo_linear_148 : decode b_Mo_linear 148 = .ok (.iaload, 1) := by decide +kernel
theorem d_Mo_linear_149 : decode b_Mo_linear 149 = .ok (.ifCond .eq 14, 3) := by decide +kernel
theorem d_Mo_linear_152 : decode b_Mo_linear 152 = .ok (.aload_n 0, 1) := by decide +kernel
theorem d_Mo_linear_153 : decode b_Mo_linear 153 = .ok (.getfield 26, 3) := by decide +kernel
theorem d_Mo_linear_156 : decode b_Mo_linear 156 = .ok (.iload 9, 2) := by decide +kernel
theorem d_Mo_linear_158 : decode b_Mo_linear 158 = .ok (.iaload, 1) := by decide +kernel
theorem d_Mo_linear_159 : decode b_Mo_linear 159 = .ok (.iconst 1, 1) := by decide +kernel
theorem d_Mo_linear_160 : decode b_Mo_linear 160 = .ok (.if_icmp .ne 7, 3) := by decide +kernel
theorem d_Mo_linear_163 : decode b_Mo_linear 163 = .ok (.iconst 1, 1) := by decide +kernel
theorem d_Mo_linear_164 : decode b_Mo_linear 164 = .ok (.goto 4, 3) := by decide +kernel
theorem d_Mo_linear_167 : decode b_Mo_linear 167 = .ok (.iconst 0, 1) := by decide +kernel
theorem d_Mo_linear_168 : decode b_Mo_linear 168 = .ok (.istore 10, 2) := by decide +kernel
theorem d_Mo_linear_170 : decode b_Mo_linear 170 = .ok (.iload 10, 2) := by decide +kernel
theorem d_Mo_linear_172 : decode b_Mo_linear 172 = .ok (.ifCond .eq 76, 3) := by decide +kernel
theorem d_Mo_linear_175 : decode b_Mo_linear 175 = .ok (.aload_n 0, 1) := by decide +kernel
theorem d_Mo_linear_176 : decode b_Mo_linear 176 = .ok (.getfield 258, 3) := by decide +kernel
theorem d_Mo_linear_179 : decode b_Mo_linear 179 = .ok (.ifCond .eq 6, 3) := by decide +kernel
theorem d_Mo_linear_182 : decode b_Mo_linear 182 = .ok (.goto 66, 3) := by decide +kernel
theorem d_Mo_linear_185 : decode b_Mo_linear 185 = .ok (.aload_n 0, 1) := by decide +kernel
theorem d_Mo_linear_186 : decode b_Mo_linear 186 = .ok (.lconst 0, 1) := by decide +kernel
theorem d_Mo_linear_187 : decode b_Mo_linear 187 = .ok (.putfield 278, 3) := by decide +kernel
theorem d_Mo_linear_190 : decode b_Mo_linear 190 = .ok (.aload_n 0, 1) := by decide +kernel
theorem d_Mo_linear_191 : decode b_Mo_linear 191 = .ok (.lconst 1, 1) := by decide +kernel
theorem d_Mo_linear_192 : decode b_Mo_linear 192 = .ok (.putfield 281, 3) := by decide +kernel
theorem d_Mo_linear_195 : decode b_Mo_linear 195 = .ok (.aload_n 0, 1) := by decide +kernel
theorem d_Mo_linear_196 : decode b_Mo_linear 196 = .ok (.iload_n 1, 1) := by decide +kernel
theorem d_Mo_linear_197 : decode b_Mo_linear 197 = .ok (.iload 4, 2) := by decide +kernel
theorem d_Mo_linear_199 : decode b_Mo_linear 199 = .ok (.iload 9, 2) := by decide +kernel
theorem d_Mo_linear_201 : decode b_Mo_linear 201 = .ok (.invokevirtual 287, 3) := by decide +kernel
theorem d_Mo_linear_204 : decode b_Mo_linear 204 = .ok (.aload_n 0, 1) := by decide +kernel
theorem d_Mo_linear_205 : decode b_Mo_linear 205 = .ok (.iload_n 2, 1) := by decide +kernel
theorem d_Mo_linear_206 : decode b_Mo_linear 206 = .ok (.iload 5, 2) := by decide +kernel
theorem d_Mo_linear_208 : decode b_Mo_linear 208 = .ok (.iload 9, 2) := by decide +kernel
theorem d_Mo_linear_210 : decode b_Mo_linear 210 = .ok (.invokevirtual 287, 3) := by decide +kernel
theorem d_Mo_linear_213 : decode b_Mo_linear 213 = .ok (.aload_n 0, 1) := by decide +kernel
theorem d_Mo_linear_214 : decode b_Mo_linear 214 = .ok (.iload_n 3, 1) := by decide +kernel
theorem d_Mo_linear_215 : decode b_Mo_linear 215 = .ok (.iload 6, 2) := by decide +kernel
theorem d_Mo_linear_217 : decode b_Mo_linear 217 = .ok (.iload 9, 2) := by decide +kernel
theorem d_Mo_linear_219 : decode b_Mo_linear 219 = .ok (.invokevirtual 287, 3) := by decide +kernel
theorem d_Mo_linear_222 : decode b_Mo_linear 222 = .ok (.iload 8, 2) := by decide +kernel
theorem d_Mo_linear_224 : decode b_Mo_linear 224 = .ok (.ifCond .ne 17, 3) := by decide +kernel
theorem d_Mo_linear_227 : decode b_Mo_linear 227 = .ok (.iload 9, 2) := by decide +kernel
theorem d_Mo_linear_229 : decode b_Mo_linear 229 = .ok (.ifCond .lt 16, 3) := by decide +kernel
theorem d_Mo_linear_232 : decode b_Mo_linear 232 = .ok (.aload_n 0, 1) := by decide +kernel
theorem d_Mo_linear_233 : decode b_Mo_linear 233 = .ok (.getfield 278, 3) := by decide +kernel
theorem d_Mo_linear_236 : decode b_Mo_linear 236 = .ok (.lconst 0, 1) := by decide +kernel
theorem d_Mo_linear_237 : decode b_Mo_linear 237 = .ok (.lcmp, 1) := by decide +kernel
theorem d_Mo_linear_238 : decode b_Mo_linear 238 = .ok (.ifCond .eq 7, 3) := by decide +kernel
theorem d_Mo_linear_241 : decode b_Mo_linear 241 = .ok (.iconst 1, 1) := by decide +kernel
theorem d_Mo_linear_242 : decode b_Mo_linear 242 = .ok (.goto 4, 3) := by decide +kernel
theorem d_Mo_linear_245 : decode b_Mo_linear 245 = .ok (.iconst 0, 1) := by decide +kernel
theorem d_Mo_linear_246 : decode b_Mo_linear 246 = .ok (.istore 8, 2) := by decide +kernel
theorem d_Mo_linear_248 : decode b_Mo_linear 248 = .ok (.iinc 9 (-1), 3) := by decide +kernel
theorem d_Mo_linear_251 : decode b_Mo_linear 251 = .ok (.goto (-131), 3) := by decide +kernel
theorem d_Mo_linear_254 : decode b_Mo_linear 254 = .ok (.aload_n 0, 1) := by decide +kernel
theorem d_Mo_linear_255 : decode b_Mo_linear 255 = .ok (.getfield 258, 3) := by decide +kernel
theorem d_Mo_linear_258 : decode b_Mo_linear 258 = .ok (.ifCond .eq 11, 3) := by decide +kernel
theorem d_Mo_linear_261 : decode b_Mo_linear 261 = .ok (.aload_n 0, 1) := by decide +kernel
theorem d_Mo_linear_262 : decode b_Mo_linear 262 = .ok (.iconst 3, 1) := by decide +kernel
theorem d_Mo_linear_263 : decode b_Mo_linear 263 = .ok (.iload 7, 2) := by decide +kernel
theorem d_Mo_linear_265 : decode b_Mo_linear 265 = .ok (.invokevirtual 133, 3) := by decide +kernel
theorem d_Mo_linear_268 : decode b_Mo_linear 268 = .ok (.ireturn, 1) := by decide +kernel
theorem d_Mo_linear_269 : decode b_Mo_linear 269 = .ok (.aload_n 0, 1) := by decide +kernel
theorem d_Mo_linear_270 : decode b_Mo_linear 270 = .ok (.getfield 26, 3) := by decide +kernel
theorem d_Mo_linear_273 : decode b_Mo_linear 273 = .ok (.iload_n 1, 1) := by decide +kernel
theorem d_Mo_linear_274 : decode b_Mo_linear 274 = .ok (.iaload, 1) := by decide +kernel
theorem d_Mo_linear_275 : decode b_Mo_linear 275 = .ok (.bipush 6, 2) := by decide +kernel
theorem d_Mo_linear_277 : decode b_Mo_linear 277 = .ok (.if_icmp .ne 8, 3) := by decide +kernel
theorem d_Mo_linear_280 : decode b_Mo_linear 280 = .ok (.iload 4, 2) := by decide +kernel
theorem d_Mo_linear_282 : decode b_Mo_linear 282 = .ok (.ifCond .gt 43, 3) := by decide +kernel
theorem d_Mo_linear_285 : decode b_Mo_linear 285 = .ok (.iload_n 2, 1) := by decide +kernel
theorem d_Mo_linear_286 : decode b_Mo_linear 286 = .ok (.ifCond .lt 19, 3) := by decide +kernel
theorem d_Mo_linear_289 : decode b_Mo_linear 289 = .ok (.aload_n 0, 1) := by decide +kernel
theorem d_Mo_linear_290 : decode b_Mo_linear 290 = .ok (.getfield 26, 3) := by decide +kernel
theorem d_Mo_linear_293 : decode b_Mo_linear 293 = .ok (.iload_n 2, 1) := by decide +kernel
theorem d_Mo_linear_294 : decode b_Mo_linear 294 = .ok (.iaload, 1) := by decide +kernel
theorem d_Mo_linear_295 : decode b_Mo_linear 295 = .ok (.bipush 6, 2) := by decide +kernel
theorem d_Mo_linear_297 : decode b_Mo_linear 297 = .ok (.if_icmp .ne 8, 3) := by decide +kernel
theorem d_Mo_linear_300 : decode b_Mo_linear 300 = .ok (.iload 5, 2) := by decide +kernel
theorem d_Mo_linear_302 : decode b_Mo_linear 302 = .ok (.ifCond .gt 23, 3) := by decide +kernel
theorem d_Mo_linear_305 : decode b_Mo_linear 305 = .ok (.iload_n 3, 1) := by decide +kernel
theorem d_Mo_linear_306 : decode b_Mo_linear 306 = .ok (.ifCond .lt 23, 3) := by decide +kernel
theorem d_Mo_linear_309 : decode b_Mo_linear 309 = .ok (.aload_n 0, 1) := by decide +kernel
theorem d_Mo_linear_310 : decode b_Mo_linear 310 = .ok (.getfield 26, 3) := by decide +kernel
theorem d_Mo_linear_313 : decode b_Mo_linear 313 = .ok (.iload_n 3, 1) := by decide +kernel
theorem d_Mo_linear_314 : decode b_Mo_linear 314 = .ok (.iaload, 1) := by decide +kernel
theorem d_Mo_linear_315 : decode b_Mo_linear 315 = .ok (.bipush 6, 2) := by decide +kernel
theorem d_Mo_linear_317 : decode b_Mo_linear 317 = .ok (.if_icmp .ne 12, 3) := by decide +kernel
theorem d_Mo_linear_320 : decode b_Mo_linear 320 = .ok (.iload 6, 2) := by decide +kernel
theorem d_Mo_linear_322 : decode b_Mo_linear 322 = .ok (.ifCond .le 7, 3) := by decide +kernel
theorem d_Mo_linear_325 : decode b_Mo_linear 325 = .ok (.iconst 1, 1) := by decide +kernel
theorem d_Mo_linear_326 : decode b_Mo_linear 326 = .ok (.goto 4, 3) := by decide +kernel
theorem d_Mo_linear_329 : decode b_Mo_linear 329 = .ok (.iconst 0, 1) := by decide +kernel
theorem d_Mo_linear_330 : decode b_Mo_linear 330 = .ok (.istore 9, 2) := by decide +kernel
theorem d_Mo_linear_332 : decode b_Mo_linear 332 = .ok (.iload 8, 2) := by decide +kernel
theorem d_Mo_linear_334 : decode b_Mo_linear 334 = .ok (.ifCond .ne 26, 3) := by decide +kernel
theorem d_Mo_linear_337 : decode b_Mo_linear 337 = .ok (.aload_n 0, 1) := by decide +kernel
theorem d_Mo_linear_338 : decode b_Mo_linear 338 = .ok (.getfield 278, 3) := by decide +kernel
theorem d_Mo_linear_341 : decode b_Mo_linear 341 = .ok (.lconst 0, 1) := by decide +kernel
theorem d_Mo_linear_342 : decode b_Mo_linear 342 = .ok (.lcmp, 1) := by decide +kernel
theorem d_Mo_linear_343 : decode b_Mo_linear 343 = .ok (.ifCond .gt 17, 3) := by decide +kernel
theorem d_Mo_linear_346 : decode b_Mo_linear 346 = .ok (.aload_n 0, 1) := by decide +kernel
theorem d_Mo_linear_347 : decode b_Mo_linear 347 = .ok (.getfield 278, 3) := by decide +kernel
theorem d_Mo_linear_350 : decode b_Mo_linear 350 = .ok (.lconst 0, 1) := by decide +kernel
theorem d_Mo_linear_351 : decode b_Mo_linear 351 = .ok (.lcmp, 1) := by decide +kernel
theorem d_Mo_linear_352 : decode b_Mo_linear 352 = .ok (.ifCond .ne 16, 3) := by decide +kernel
theorem d_Mo_linear_355 : decode b_Mo_linear 355 = .ok (.iload 9, 2) := by decide +kernel
theorem d_Mo_linear_357 : decode b_Mo_linear 357 = .ok (.ifCond .ne 11, 3) := by decide +kernel
theorem d_Mo_linear_360 : decode b_Mo_linear 360 = .ok (.aload_n 0, 1) := by decide +kernel
theorem d_Mo_linear_361 : decode b_Mo_linear 361 = .ok (.iconst 2, 1) := by decide +kernel
theorem d_Mo_linear_362 : decode b_Mo_linear 362 = .ok (.iload 7, 2) := by decide +kernel
theorem d_Mo_linear_364 : decode b_Mo_linear 364 = .ok (.invokevirtual 133, 3) := by decide +kernel
theorem d_Mo_linear_367 : decode b_Mo_linear 367 = .ok (.ireturn, 1) := by decide +kernel
theorem d_Mo_linear_368 : decode b_Mo_linear 368 = .ok (.aload_n 0, 1) := by decide +kernel
theorem d_Mo_linear_369 : decode b_Mo_linear 369 = .ok (.iload_n 1, 1) := by decide +kernel
theorem d_Mo_linear_370 : decode b_Mo_linear 370 = .ok (.invokevirtual 210, 3) := by decide +kernel
theorem d_Mo_linear_373 : decode b_Mo_linear 373 = .ok (.iload_n 2, 1) := by decide +kernel
theorem d_Mo_linear_374 : decode b_Mo_linear 374 = .ok (.ifCond .lt 8, 3) := by decide +kernel
theorem d_Mo_linear_377 : decode b_Mo_linear 377 = .ok (.aload_n 0, 1) := by decide +kernel
theorem d_Mo_linear_378 : decode b_Mo_linear 378 = .ok (.iload_n 2, 1) := by decide +kernel
theorem d_Mo_linear_379 : decode b_Mo_linear 379 = .ok (.invokevirtual 210, 3) := by decide +kernel
theorem d_Mo_linear_382 : decode b_Mo_linear 382 = .ok (.iload_n 3, 1) := by decide +kernel
theorem d_Mo_linear_383 : decode b_Mo_linear 383 = .ok (.ifCond .lt 8, 3) := by decide +kernel
theorem d_Mo_linear_386 : decode b_Mo_linear 386 = .ok (.aload_n 0, 1) := by decide +kernel
theorem d_Mo_linear_387 : decode b_Mo_linear 387 = .ok (.iload_n 3, 1) := by decide +kernel
theorem d_Mo_linear_388 : decode b_Mo_linear 388 = .ok (.invokevirtual 210, 3) := by decide +kernel
theorem d_Mo_linear_391 : decode b_Mo_linear 391 = .ok (.aload_n 0, 1) := by decide +kernel
theorem d_Mo_linear_392 : decode b_Mo_linear 392 = .ok (.aload_n 0, 1) := by decide +kernel
theorem d_Mo_linear_393 : decode b_Mo_linear 393 = .ok (.getfield 214, 3) := by decide +kernel
theorem d_Mo_linear_396 : decode b_Mo_linear 396 = .ok (.iload 7, 2) := by decide +kernel
theorem d_Mo_linear_398 : decode b_Mo_linear 398 = .ok (.invokevirtual 217, 3) := by decide +kernel
theorem d_Mo_linear_401 : decode b_Mo_linear 401 = .ok (.ireturn, 1) := by decide +kernel
def f_Mo_linear_55 (s0 : Int32) (σ : St) : Int32 × St := (s0, σ)
def k_Mo_linear_55 (s0 : Int32) (σ : St) : Prop := True
def f_Mo_linear_48 (x7 : Int32) (σ : St) : Int32 × St := f_Mo_linear_55 ((f_Mo_fails 1 x7 σ).1) ((f_Mo_fails 1 x7 σ).2)
def k_Mo_linear_48 (x7 : Int32) (σ : St) : Prop := (k_Mo_fails 1 x7 σ) ∧ (k_Mo_linear_55 ((f_Mo_fails 1 x7 σ).1) ((f_Mo_fails 1 x7 σ).2))
def f_Mo_linear_103 (s0 : Int32) (σ : St) : Int32 × St := (s0, σ)
def k_Mo_linear_103 (s0 : Int32) (σ : St) : Prop := True
def f_Mo_linear_96 (x7 : Int32) (σ : St) : Int32 × St := f_Mo_linear_103 ((f_Mo_fails 2 x7 σ).1) ((f_Mo_fails 2 x7 σ).2)
def k_Mo_linear_96 (x7 : Int32) (σ : St) : Prop := (k_Mo_fails 2 x7 σ) ∧ (k_Mo_linear_103 ((f_Mo_fails 2 x7 σ).1) ((f_Mo_fails 2 x7 σ).2))
def f_Mo_linear_248 (F120 : (Int32 → Int32 → Int32 → Int32 → Int32 → Int32 → Int32 → Int32 → Int32 → St → Int32 × St)) (x1 : Int32) (x2 : Int32) (x3 : Int32) (x4 : Int32) (x5 : Int32) (x6 : Int32) (x7 : Int32) (x8 : Int32) (x9 : Int32) (σ : St) : Int32 × St := F120 x1 x2 x3 x4 x5 x6 x7 x8 (x9 + (-1)) σ
def k_Mo_linear_248 (K120 : (Int32 → Int32 → Int32 → Int32 → Int32 → Int32 → Int32 → Int32 → Int32 → St → Prop)) (x1 : Int32) (x2 : Int32) (x3 : Int32) (x4 : Int32) (x5 : Int32) (x6 : Int32) (x7 : Int32) (x8 : Int32) (x9 : Int32) (σ : St) : Prop := K120 x1 x2 x3 x4 x5 x6 x7 x8 (x9 + (-1)) σ
def f_Mo_linear_246 (F120 : (Int32 → Int32 → Int32 → Int32 → Int32 → Int32 → Int32 → Int32 → Int32 → St → Int32 × St)) (x1 : Int32) (x2 : Int32) (x3 : Int32) (x4 : Int32) (x5 : Int32) (x6 : Int32) (x7 : Int32) (x9 : Int32) (s0 : Int32) (σ : St) : Int32 × St := f_Mo_linear_248 F120 x1 x2 x3 x4 x5 x6 x7 s0 x9 σ
def k_Mo_linear_246 (K120 : (Int32 → Int32 → Int32 → Int32 → Int32 → Int32 → Int32 → Int32 → Int32 → St → Prop)) (x1 : Int32) (x2 : Int32) (x3 : Int32) (x4 : Int32) (x5 : Int32) (x6 : Int32) (x7 : Int32) (x9 : Int32) (s0 : Int32) (σ : St) : Prop := k_Mo_linear_248 K120 x1 x2 x3 x4 x5 x6 x7 s0 x9 σ
def f_Mo_linear_241 (F120 : (Int32 → Int32 → Int32 → Int32 → Int32 → Int32 → Int32 → Int32 → Int32 → St → Int32 × St)) (x1 : Int32) (x2 : Int32) (x3 : Int32) (x4 : Int32) (x5 : Int32) (x6 : Int32) (x7 : Int32) (x9 : Int32) (σ : St) : Int32 × St := f_Mo_linear_246 F120 x1 x2 x3 x4 x5 x6 x7 x9 1 σ
def k_Mo_linear_241 (K120 : (Int32 → Int32 → Int32 → Int32 → Int32 → Int32 → Int32 → Int32 → Int32 → St → Prop)) (x1 : Int32) (x2 : Int32) (x3 : Int32) (x4 : Int32) (x5 : Int32) (x6 : Int32) (x7 : Int32) (x9 : Int32) (σ : St) : Prop := k_Mo_linear_246 K120 x1 x2 x3 x4 x5 x6 x7 x9 1 σ
def f_Mo_linear_245 (F120 : (Int32 → Int32 → Int32 → Int32 → Int32 → Int32 → Int32 → Int32 → Int32 → St → Int32 × St)) (x1 : Int32) (x2 : Int32) (x3 : Int32) (x4 : Int32) (x5 : Int32) (x6 : Int32) (x7 : Int32) (x9 : Int32) (σ : St) : Int32 × St := f_Mo_linear_246 F120 x1 x2 x3 x4 x5 x6 x7 x9 0 σ
def k_Mo_linear_245 (K120 : (Int32 → Int32 → Int32 → Int32 → Int32 → Int32 → Int32 → Int32 → Int32 → St → Prop)) (x1 : Int32) (x2 : Int32) (x3 : Int32) (x4 : Int32) (x5 : Int32) (x6 : Int32) (x7 : Int32) (x9 : Int32) (σ : St) : Prop := k_Mo_linear_246 K120 x1 x2 x3 x4 x5 x6 x7 x9 0 σ
def f_Mo_linear_222 (F120 : (Int32 → Int32 → Int32 → Int32 → Int32 → Int32 → Int32 → Int32 → Int32 → St → Int32 × St)) (x1 : Int32) (x2 : Int32) (x3 : Int32) (x4 : Int32) (x5 : Int32) (x6 : Int32) (x7 : Int32) (x8 : Int32) (x9 : Int32) (σ : St) : Int32 × St := if x8 = 0 then (if x9 < 0 then (f_Mo_linear_245 F120 x1 x2 x3 x4 x5 x6 x7 x9 σ) else (if (lg_cmp (σ.2 0 49) 0) = 0 then (f_Mo_linear_245 F120 x1 x2 x3 x4 x5 x6 x7 x9 σ) else (f_Mo_linear_241 F120 x1 x2 x3 x4 x5 x6 x7 x9 σ))) else (f_Mo_linear_241 F120 x1 x2 x3 x4 x5 x6 x7 x9 σ)
def k_Mo_linear_222 (K120 : (Int32 → Int32 → Int32 → Int32 → Int32 → Int32 → Int32 → Int32 → Int32 → St → Prop)) (x1 : Int32) (x2 : Int32) (x3 : Int32) (x4 : Int32) (x5 : Int32) (x6 : Int32) (x7 : Int32) (x8 : Int32) (x9 : Int32) (σ : St) : Prop := (x8 = 0 → ((x9 < 0 → (k_Mo_linear_245 K120 x1 x2 x3 x4 x5 x6 x7 x9 σ)) ∧ (¬ x9 < 0 → (((lg_cmp (σ.2 0 49) 0) = 0 → (k_Mo_linear_245 K120 x1 x2 x3 x4 x5 x6 x7 x9 σ)) ∧ (¬ (lg_cmp (σ.2 0 49) 0) = 0 → (k_Mo_linear_241 K120 x1 x2 x3 x4 x5 x6 x7 x9 σ)))))) ∧ (¬ x8 = 0 → (k_Mo_linear_241 K120 x1 x2 x3 x4 x5 x6 x7 x9 σ))
def f_Mo_linear_213 (F120 : (Int32 → Int32 → Int32 → Int32 → Int32 → Int32 → Int32 → Int32 → Int32 → St → Int32 × St)) (x1 : Int32) (x2 : Int32) (x3 : Int32) (x4 : Int32) (x5 : Int32) (x6 : Int32) (x7 : Int32) (x8 : Int32) (x9 : Int32) (σ : St) : Int32 × St := f_Mo_linear_222 F120 x1 x2 x3 x4 x5 x6 x7 x8 x9 (f_Mo_addExcess x3 x6 x9 σ)
def k_Mo_linear_213 (K120 : (Int32 → Int32 → Int32 → Int32 → Int32 → Int32 → Int32 → Int32 → Int32 → St → Prop)) (x1 : Int32) (x2 : Int32) (x3 : Int32) (x4 : Int32) (x5 : Int32) (x6 : Int32) (x7 : Int32) (x8 : Int32) (x9 : Int32) (σ : St) : Prop := (k_Mo_addExcess x3 x6 x9 σ) ∧ (k_Mo_linear_222 K120 x1 x2 x3 x4 x5 x6 x7 x8 x9 (f_Mo_addExcess x3 x6 x9 σ))
def f_Mo_linear_204 (F120 : (Int32 → Int32 → Int32 → Int32 → Int32 → Int32 → Int32 → Int32 → Int32 → St → Int32 × St)) (x1 : Int32) (x2 : Int32) (x3 : Int32) (x4 : Int32) (x5 : Int32) (x6 : Int32) (x7 : Int32) (x8 : Int32) (x9 : Int32) (σ : St) : Int32 × St := f_Mo_linear_213 F120 x1 x2 x3 x4 x5 x6 x7 x8 x9 (f_Mo_addExcess x2 x5 x9 σ)
def k_Mo_linear_204 (K120 : (Int32 → Int32 → Int32 → Int32 → Int32 → Int32 → Int32 → Int32 → Int32 → St → Prop)) (x1 : Int32) (x2 : Int32) (x3 : Int32) (x4 : Int32) (x5 : Int32) (x6 : Int32) (x7 : Int32) (x8 : Int32) (x9 : Int32) (σ : St) : Prop := (k_Mo_addExcess x2 x5 x9 σ) ∧ (k_Mo_linear_213 K120 x1 x2 x3 x4 x5 x6 x7 x8 x9 (f_Mo_addExcess x2 x5 x9 σ))
def f_Mo_linear_195 (F120 : (Int32 → Int32 → Int32 → Int32 → Int32 → Int32 → Int32 → Int32 → Int32 → St → Int32 × St)) (x1 : Int32) (x2 : Int32) (x3 : Int32) (x4 : Int32) (x5 : Int32) (x6 : Int32) (x7 : Int32) (x8 : Int32) (x9 : Int32) (σ : St) : Int32 × St := f_Mo_linear_204 F120 x1 x2 x3 x4 x5 x6 x7 x8 x9 (f_Mo_addExcess x1 x4 x9 σ)
def k_Mo_linear_195 (K120 : (Int32 → Int32 → Int32 → Int32 → Int32 → Int32 → Int32 → Int32 → Int32 → St → Prop)) (x1 : Int32) (x2 : Int32) (x3 : Int32) (x4 : Int32) (x5 : Int32) (x6 : Int32) (x7 : Int32) (x8 : Int32) (x9 : Int32) (σ : St) : Prop := (k_Mo_addExcess x1 x4 x9 σ) ∧ (k_Mo_linear_204 K120 x1 x2 x3 x4 x5 x6 x7 x8 x9 (f_Mo_addExcess x1 x4 x9 σ))
def f_Mo_linear_190 (F120 : (Int32 → Int32 → Int32 → Int32 → Int32 → Int32 → Int32 → Int32 → Int32 → St → Int32 × St)) (x1 : Int32) (x2 : Int32) (x3 : Int32) (x4 : Int32) (x5 : Int32) (x6 : Int32) (x7 : Int32) (x8 : Int32) (x9 : Int32) (σ : St) : Int32 × St := f_Mo_linear_195 F120 x1 x2 x3 x4 x5 x6 x7 x8 x9 (sG σ 0 50 1)
def k_Mo_linear_190 (K120 : (Int32 → Int32 → Int32 → Int32 → Int32 → Int32 → Int32 → Int32 → Int32 → St → Prop)) (x1 : Int32) (x2 : Int32) (x3 : Int32) (x4 : Int32) (x5 : Int32) (x6 : Int32) (x7 : Int32) (x8 : Int32) (x9 : Int32) (σ : St) : Prop := k_Mo_linear_195 K120 x1 x2 x3 x4 x5 x6 x7 x8 x9 (sG σ 0 50 1)
def f_Mo_linear_168 (F120 : (Int32 → Int32 → Int32 → Int32 → Int32 → Int32 → Int32 → Int32 → Int32 → St → Int32 × St)) (x1 : Int32) (x2 : Int32) (x3 : Int32) (x4 : Int32) (x5 : Int32) (x6 : Int32) (x7 : Int32) (x8 : Int32) (x9 : Int32) (s0 : Int32) (σ : St) : Int32 × St := if s0 = 0 then (f_Mo_linear_248 F120 x1 x2 x3 x4 x5 x6 x7 x8 x9 σ) else (if (σ.1 0 45) = 0 then (f_Mo_linear_190 F120 x1 x2 x3 x4 x5 x6 x7 x8 x9 (sG σ 0 49 0)) else (f_Mo_linear_248 F120 x1 x2 x3 x4 x5 x6 x7 x8 x9 σ))
def k_Mo_linear_168 (K120 : (Int32 → Int32 → Int32 → Int32 → Int32 → Int32 → Int32 → Int32 → Int32 → St → Prop)) (x1 : Int32) (x2 : Int32) (x3 : Int32) (x4 : Int32) (x5 : Int32) (x6 : Int32) (x7 : Int32) (x8 : Int32) (x9 : Int32) (s0 : Int32) (σ : St) : Prop := (s0 = 0 → (k_Mo_linear_248 K120 x1 x2 x3 x4 x5 x6 x7 x8 x9 σ)) ∧ (¬ s0 = 0 → (((σ.1 0 45) = 0 → (k_Mo_linear_190 K120 x1 x2 x3 x4 x5 x6 x7 x8 x9 (sG σ 0 49 0))) ∧ (¬ (σ.1 0 45) = 0 → (k_Mo_linear_248 K120 x1 x2 x3 x4 x5 x6 x7 x8 x9 σ))))
def f_Mo_linear_163 (F120 : (Int32 → Int32 → Int32 → Int32 → Int32 → Int32 → Int32 → Int32 → Int32 → St → Int32 × St)) (x1 : Int32) (x2 : Int32) (x3 : Int32) (x4 : Int32) (x5 : Int32) (x6 : Int32) (x7 : Int32) (x8 : Int32) (x9 : Int32) (σ : St) : Int32 × St := f_Mo_linear_168 F120 x1 x2 x3 x4 x5 x6 x7 x8 x9 1 σ
def k_Mo_linear_163 (K120 : (Int32 → Int32 → Int32 → Int32 → Int32 → Int32 → Int32 → Int32 → Int32 → St → Prop)) (x1 : Int32) (x2 : Int32) (x3 : Int32) (x4 : Int32) (x5 : Int32) (x6 : Int32) (x7 : Int32) (x8 : Int32) (x9 : Int32) (σ : St) : Prop := k_Mo_linear_168 K120 x1 x2 x3 x4 x5 x6 x7 x8 x9 1 σ
def f_Mo_linear_167 (F120 : (Int32 → Int32 → Int32 → Int32 → Int32 → Int32 → Int32 → Int32 → Int32 → St → Int32 × St)) (x1 : Int32) (x2 : Int32) (x3 : Int32) (x4 : Int32) (x5 : Int32) (x6 : Int32) (x7 : Int32) (x8 : Int32) (x9 : Int32) (σ : St) : Int32 × St := f_Mo_linear_168 F120 x1 x2 x3 x4 x5 x6 x7 x8 x9 0 σ
def k_Mo_linear_167 (K120 : (Int32 → Int32 → Int32 → Int32 → Int32 → Int32 → Int32 → Int32 → Int32 → St → Prop)) (x1 : Int32) (x2 : Int32) (x3 : Int32) (x4 : Int32) (x5 : Int32) (x6 : Int32) (x7 : Int32) (x8 : Int32) (x9 : Int32) (σ : St) : Prop := k_Mo_linear_168 K120 x1 x2 x3 x4 x5 x6 x7 x8 x9 0 σ
def f_Mo_linear_268 (s0 : Int32) (σ : St) : Int32 × St := (s0, σ)
def k_Mo_linear_268 (s0 : Int32) (σ : St) : Prop := True
def f_Mo_linear_367 (s0 : Int32) (σ : St) : Int32 × St := (s0, σ)
def k_Mo_linear_367 (s0 : Int32) (σ : St) : Prop := True
def f_Mo_linear_360 (x7 : Int32) (σ : St) : Int32 × St := f_Mo_linear_367 ((f_Mo_fails 2 x7 σ).1) ((f_Mo_fails 2 x7 σ).2)
def k_Mo_linear_360 (x7 : Int32) (σ : St) : Prop := (k_Mo_fails 2 x7 σ) ∧ (k_Mo_linear_367 ((f_Mo_fails 2 x7 σ).1) ((f_Mo_fails 2 x7 σ).2))
def f_Mo_linear_401 (s0 : Int32) (σ : St) : Int32 × St := (s0, σ)
def k_Mo_linear_401 (s0 : Int32) (σ : St) : Prop := True
def f_Mo_linear_391 (x7 : Int32) (σ : St) : Int32 × St := f_Mo_linear_401 ((f_Mo_enter (σ.1 0 25) x7 σ).1) ((f_Mo_enter (σ.1 0 25) x7 σ).2)
def k_Mo_linear_391 (x7 : Int32) (σ : St) : Prop := (k_Mo_enter (σ.1 0 25) x7 σ) ∧ (k_Mo_linear_401 ((f_Mo_enter (σ.1 0 25) x7 σ).1) ((f_Mo_enter (σ.1 0 25) x7 σ).2))
def f_Mo_linear_382 (x3 : Int32) (x7 : Int32) (σ : St) : Int32 × St := if x3 < 0 then (f_Mo_linear_391 x7 σ) else (f_Mo_linear_391 x7 (f_Mo_join x3 σ))
def k_Mo_linear_382 (x3 : Int32) (x7 : Int32) (σ : St) : Prop := (x3 < 0 → (k_Mo_linear_391 x7 σ)) ∧ (¬ x3 < 0 → ((k_Mo_join x3 σ) ∧ (k_Mo_linear_391 x7 (f_Mo_join x3 σ))))
def f_Mo_linear_373 (x2 : Int32) (x3 : Int32) (x7 : Int32) (σ : St) : Int32 × St := if x2 < 0 then (f_Mo_linear_382 x3 x7 σ) else (f_Mo_linear_382 x3 x7 (f_Mo_join x2 σ))
def k_Mo_linear_373 (x2 : Int32) (x3 : Int32) (x7 : Int32) (σ : St) : Prop := (x2 < 0 → (k_Mo_linear_382 x3 x7 σ)) ∧ (¬ x2 < 0 → ((k_Mo_join x2 σ) ∧ (k_Mo_linear_382 x3 x7 (f_Mo_join x2 σ))))
def f_Mo_linear_368 (x1 : Int32) (x2 : Int32) (x3 : Int32) (x7 : Int32) (σ : St) : Int32 × St := f_Mo_linear_373 x2 x3 x7 (f_Mo_join x1 σ)
def k_Mo_linear_368 (x1 : Int32) (x2 : Int32) (x3 : Int32) (x7 : Int32) (σ : St) : Prop := (k_Mo_join x1 σ) ∧ (k_Mo_linear_373 x2 x3 x7 (f_Mo_join x1 σ))
def f_Mo_linear_330 (x1 : Int32) (x2 : Int32) (x3 : Int32) (x7 : Int32) (x8 : Int32) (s0 : Int32) (σ : St) : Int32 × St := if x8 = 0 then (if 0 < (lg_cmp (σ.2 0 49) 0) then (f_Mo_linear_360 x7 σ) else (if (lg_cmp (σ.2 0 49) 0) = 0 then (if s0 = 0 then (f_Mo_linear_360 x7 σ) else (f_Mo_linear_368 x1 x2 x3 x7 σ)) else (f_Mo_linear_368 x1 x2 x3 x7 σ))) else (f_Mo_linear_360 x7 σ)
def k_Mo_linear_330 (x1 : Int32) (x2 : Int32) (x3 : Int32) (x7 : Int32) (x8 : Int32) (s0 : Int32) (σ : St) : Prop := (x8 = 0 → ((0 < (lg_cmp (σ.2 0 49) 0) → (k_Mo_linear_360 x7 σ)) ∧ (¬ 0 < (lg_cmp (σ.2 0 49) 0) → (((lg_cmp (σ.2 0 49) 0) = 0 → ((s0 = 0 → (k_Mo_linear_360 x7 σ)) ∧ (¬ s0 = 0 → (k_Mo_linear_368 x1 x2 x3 x7 σ)))) ∧ (¬ (lg_cmp (σ.2 0 49) 0) = 0 → (k_Mo_linear_368 x1 x2 x3 x7 σ)))))) ∧ (¬ x8 = 0 → (k_Mo_linear_360 x7 σ))
def f_Mo_linear_325 (x1 : Int32) (x2 : Int32) (x3 : Int32) (x7 : Int32) (x8 : Int32) (σ : St) : Int32 × St := f_Mo_linear_330 x1 x2 x3 x7 x8 1 σ
def k_Mo_linear_325 (x1 : Int32) (x2 : Int32) (x3 : Int32) (x7 : Int32) (x8 : Int32) (σ : St) : Prop := k_Mo_linear_330 x1 x2 x3 x7 x8 1 σ
def f_Mo_linear_329 (x1 : Int32) (x2 : Int32) (x3 : Int32) (x7 : Int32) (x8 : Int32) (σ : St) : Int32 × St := f_Mo_linear_330 x1 x2 x3 x7 x8 0 σ
def k_Mo_linear_329 (x1 : Int32) (x2 : Int32) (x3 : Int32) (x7 : Int32) (x8 : Int32) (σ : St) : Prop := k_Mo_linear_330 x1 x2 x3 x7 x8 0 σ
def f_Mo_linear_305 (x1 : Int32) (x2 : Int32) (x3 : Int32) (x6 : Int32) (x7 : Int32) (x8 : Int32) (σ : St) : Int32 × St := if x3 < 0 then (f_Mo_linear_329 x1 x2 x3 x7 x8 σ) else (if (σ.1 5 x3.toNatClampNeg) = 6 then (if x6 ≤ 0 then (f_Mo_linear_329 x1 x2 x3 x7 x8 σ) else (f_Mo_linear_325 x1 x2 x3 x7 x8 σ)) else (f_Mo_linear_329 x1 x2 x3 x7 x8 σ))
def k_Mo_linear_305 (x1 : Int32) (x2 : Int32) (x3 : Int32) (x6 : Int32) (x7 : Int32) (x8 : Int32) (σ : St) : Prop := (x3 < 0 → (k_Mo_linear_329 x1 x2 x3 x7 x8 σ)) ∧ (¬ x3 < 0 → (vp_in x3 400 ∧ (((σ.1 5 x3.toNatClampNeg) = 6 → ((x6 ≤ 0 → (k_Mo_linear_329 x1 x2 x3 x7 x8 σ)) ∧ (¬ x6 ≤ 0 → (k_Mo_linear_325 x1 x2 x3 x7 x8 σ)))) ∧ (¬ (σ.1 5 x3.toNatClampNeg) = 6 → (k_Mo_linear_329 x1 x2 x3 x7 x8 σ)))))
def f_Mo_linear_285 (x1 : Int32) (x2 : Int32) (x3 : Int32) (x5 : Int32) (x6 : Int32) (x7 : Int32) (x8 : Int32) (σ : St) : Int32 × St := if x2 < 0 then (f_Mo_linear_305 x1 x2 x3 x6 x7 x8 σ) else (if (σ.1 5 x2.toNatClampNeg) = 6 then (if 0 < x5 then (f_Mo_linear_325 x1 x2 x3 x7 x8 σ) else (f_Mo_linear_305 x1 x2 x3 x6 x7 x8 σ)) else (f_Mo_linear_305 x1 x2 x3 x6 x7 x8 σ))
def k_Mo_linear_285 (x1 : Int32) (x2 : Int32) (x3 : Int32) (x5 : Int32) (x6 : Int32) (x7 : Int32) (x8 : Int32) (σ : St) : Prop := (x2 < 0 → (k_Mo_linear_305 x1 x2 x3 x6 x7 x8 σ)) ∧ (¬ x2 < 0 → (vp_in x2 400 ∧ (((σ.1 5 x2.toNatClampNeg) = 6 → ((0 < x5 → (k_Mo_linear_325 x1 x2 x3 x7 x8 σ)) ∧ (¬ 0 < x5 → (k_Mo_linear_305 x1 x2 x3 x6 x7 x8 σ)))) ∧ (¬ (σ.1 5 x2.toNatClampNeg) = 6 → (k_Mo_linear_305 x1 x2 x3 x6 x7 x8 σ)))))
def f_Mo_linear_120 : Nat → Int32 → Int32 → Int32 → Int32 → Int32 → Int32 → Int32 → Int32 → Int32 → St → Int32 × St
  | 0, _, _, _, _, _, _, _, _, _, σ => (0, σ)
  | n + 1, x1, x2, x3, x4, x5, x6, x7, x8, x9, σ => if x9 < (-1) then (if (σ.1 0 45) = 0 then (if (σ.1 5 x1.toNatClampNeg) = 6 then (if 0 < x4 then (f_Mo_linear_325 x1 x2 x3 x7 x8 σ) else (f_Mo_linear_285 x1 x2 x3 x5 x6 x7 x8 σ)) else (f_Mo_linear_285 x1 x2 x3 x5 x6 x7 x8 σ)) else (f_Mo_linear_268 ((f_Mo_fails 3 x7 σ).1) ((f_Mo_fails 3 x7 σ).2))) else (if x9 < 0 then (f_Mo_linear_163 (f_Mo_linear_120 n) x1 x2 x3 x4 x5 x6 x7 x8 x9 σ) else (if (σ.1 6 x9.toNatClampNeg) = 1 then (if (σ.1 5 x9.toNatClampNeg) = 0 then (f_Mo_linear_163 (f_Mo_linear_120 n) x1 x2 x3 x4 x5 x6 x7 x8 x9 σ) else (if (σ.1 5 x9.toNatClampNeg) = 1 then (f_Mo_linear_163 (f_Mo_linear_120 n) x1 x2 x3 x4 x5 x6 x7 x8 x9 σ) else (f_Mo_linear_167 (f_Mo_linear_120 n) x1 x2 x3 x4 x5 x6 x7 x8 x9 σ))) else (f_Mo_linear_167 (f_Mo_linear_120 n) x1 x2 x3 x4 x5 x6 x7 x8 x9 σ)))
def k_Mo_linear_120 : Nat → Int32 → Int32 → Int32 → Int32 → Int32 → Int32 → Int32 → Int32 → Int32 → St → Prop
  | 0, _, _, _, _, _, _, _, _, _, _ => False
  | n + 1, x1, x2, x3, x4, x5, x6, x7, x8, x9, σ => (x9 < (-1) → (((σ.1 0 45) = 0 → (vp_in x1 400 ∧ (((σ.1 5 x1.toNatClampNeg) = 6 → ((0 < x4 → (k_Mo_linear_325 x1 x2 x3 x7 x8 σ)) ∧ (¬ 0 < x4 → (k_Mo_linear_285 x1 x2 x3 x5 x6 x7 x8 σ)))) ∧ (¬ (σ.1 5 x1.toNatClampNeg) = 6 → (k_Mo_linear_285 x1 x2 x3 x5 x6 x7 x8 σ))))) ∧ (¬ (σ.1 0 45) = 0 → ((k_Mo_fails 3 x7 σ) ∧ (k_Mo_linear_268 ((f_Mo_fails 3 x7 σ).1) ((f_Mo_fails 3 x7 σ).2)))))) ∧ (¬ x9 < (-1) → ((x9 < 0 → (k_Mo_linear_163 (k_Mo_linear_120 n) x1 x2 x3 x4 x5 x6 x7 x8 x9 σ)) ∧ (¬ x9 < 0 → (vp_in x9 400 ∧ (((σ.1 6 x9.toNatClampNeg) = 1 → (vp_in x9 400 ∧ (((σ.1 5 x9.toNatClampNeg) = 0 → (k_Mo_linear_163 (k_Mo_linear_120 n) x1 x2 x3 x4 x5 x6 x7 x8 x9 σ)) ∧ (¬ (σ.1 5 x9.toNatClampNeg) = 0 → (vp_in x9 400 ∧ (((σ.1 5 x9.toNatClampNeg) = 1 → (k_Mo_linear_163 (k_Mo_linear_120 n) x1 x2 x3 x4 x5 x6 x7 x8 x9 σ)) ∧ (¬ (σ.1 5 x9.toNatClampNeg) = 1 → (k_Mo_linear_167 (k_Mo_linear_120 n) x1 x2 x3 x4 x5 x6 x7 x8 x9 σ)))))))) ∧ (¬ (σ.1 6 x9.toNatClampNeg) = 1 → (k_Mo_linear_167 (k_Mo_linear_120 n) x1 x2 x3 x4 x5 x6 x7 x8 x9 σ)))))))
def f_Mo_linear_112 (x1 : Int32) (x2 : Int32) (x3 : Int32) (x4 : Int32) (x5 : Int32) (x6 : Int32) (x7 : Int32) (x8 : Int32) (σ : St) : Int32 × St := f_Mo_linear_120 1000 x1 x2 x3 x4 x5 x6 x7 x8 ((σ.1 0 9) - 1) σ
def k_Mo_linear_112 (x1 : Int32) (x2 : Int32) (x3 : Int32) (x4 : Int32) (x5 : Int32) (x6 : Int32) (x7 : Int32) (x8 : Int32) (σ : St) : Prop := k_Mo_linear_120 1000 x1 x2 x3 x4 x5 x6 x7 x8 ((σ.1 0 9) - 1) σ
def f_Mo_linear_66 (x1 : Int32) (x2 : Int32) (x3 : Int32) (x4 : Int32) (x5 : Int32) (x6 : Int32) (x7 : Int32) (σ : St) : Int32 × St := if (f_Mo_formed x1 x4 σ) = 0 then (f_Mo_linear_96 x7 σ) else (if (f_Mo_formed x2 x5 σ) = 0 then (f_Mo_linear_96 x7 σ) else (if (f_Mo_formed x3 x6 σ) = 0 then (f_Mo_linear_96 x7 σ) else (f_Mo_linear_112 x1 x2 x3 x4 x5 x6 x7 0 (sF σ 0 45 0))))
def k_Mo_linear_66 (x1 : Int32) (x2 : Int32) (x3 : Int32) (x4 : Int32) (x5 : Int32) (x6 : Int32) (x7 : Int32) (σ : St) : Prop := (k_Mo_formed x1 x4 σ) ∧ (((f_Mo_formed x1 x4 σ) = 0 → (k_Mo_linear_96 x7 σ)) ∧ (¬ (f_Mo_formed x1 x4 σ) = 0 → ((k_Mo_formed x2 x5 σ) ∧ (((f_Mo_formed x2 x5 σ) = 0 → (k_Mo_linear_96 x7 σ)) ∧ (¬ (f_Mo_formed x2 x5 σ) = 0 → ((k_Mo_formed x3 x6 σ) ∧ (((f_Mo_formed x3 x6 σ) = 0 → (k_Mo_linear_96 x7 σ)) ∧ (¬ (f_Mo_formed x3 x6 σ) = 0 → (k_Mo_linear_112 x1 x2 x3 x4 x5 x6 x7 0 (sF σ 0 45 0))))))))))
def f_Mo_linear_56 (x1 : Int32) (x2 : Int32) (x3 : Int32) (x4 : Int32) (x5 : Int32) (x6 : Int32) (x7 : Int32) (σ : St) : Int32 × St := if x2 = (-1) then (if x3 = (-1) then (f_Mo_linear_66 x1 x2 x3 x4 x5 x6 x7 σ) else (f_Mo_linear_96 x7 σ)) else (f_Mo_linear_66 x1 x2 x3 x4 x5 x6 x7 σ)
def k_Mo_linear_56 (x1 : Int32) (x2 : Int32) (x3 : Int32) (x4 : Int32) (x5 : Int32) (x6 : Int32) (x7 : Int32) (σ : St) : Prop := (x2 = (-1) → ((x3 = (-1) → (k_Mo_linear_66 x1 x2 x3 x4 x5 x6 x7 σ)) ∧ (¬ x3 = (-1) → (k_Mo_linear_96 x7 σ)))) ∧ (¬ x2 = (-1) → (k_Mo_linear_66 x1 x2 x3 x4 x5 x6 x7 σ))
def f_Mo_linear_35 (x1 : Int32) (x2 : Int32) (x3 : Int32) (x4 : Int32) (x5 : Int32) (x6 : Int32) (x7 : Int32) (σ : St) : Int32 × St := if x3 = (-1) then (f_Mo_linear_56 x1 x2 x3 x4 x5 x6 x7 σ) else (if (f_Mo_isTerm x3 σ) = 0 then (f_Mo_linear_48 x7 σ) else (f_Mo_linear_56 x1 x2 x3 x4 x5 x6 x7 σ))
def k_Mo_linear_35 (x1 : Int32) (x2 : Int32) (x3 : Int32) (x4 : Int32) (x5 : Int32) (x6 : Int32) (x7 : Int32) (σ : St) : Prop := (x3 = (-1) → (k_Mo_linear_56 x1 x2 x3 x4 x5 x6 x7 σ)) ∧ (¬ x3 = (-1) → ((k_Mo_isTerm x3 σ) ∧ (((f_Mo_isTerm x3 σ) = 0 → (k_Mo_linear_48 x7 σ)) ∧ (¬ (f_Mo_isTerm x3 σ) = 0 → (k_Mo_linear_56 x1 x2 x3 x4 x5 x6 x7 σ)))))
def f_Mo_linear_4 (x1 : Int32) (x2 : Int32) (x3 : Int32) (x4 : Int32) (x5 : Int32) (x6 : Int32) (s0 : Int32) (σ : St) : Int32 × St := if s0 = 0 then (if (f_Mo_isTerm x1 σ) = 0 then (f_Mo_linear_48 17185 σ) else (if x2 = (-1) then (f_Mo_linear_35 x1 x2 x3 x4 x5 x6 17185 σ) else (if (f_Mo_isTerm x2 σ) = 0 then (f_Mo_linear_48 17185 σ) else (f_Mo_linear_35 x1 x2 x3 x4 x5 x6 17185 σ)))) else ((-1), σ)
def k_Mo_linear_4 (x1 : Int32) (x2 : Int32) (x3 : Int32) (x4 : Int32) (x5 : Int32) (x6 : Int32) (s0 : Int32) (σ : St) : Prop := (s0 = 0 → ((k_Mo_isTerm x1 σ) ∧ (((f_Mo_isTerm x1 σ) = 0 → (k_Mo_linear_48 17185 σ)) ∧ (¬ (f_Mo_isTerm x1 σ) = 0 → ((x2 = (-1) → (k_Mo_linear_35 x1 x2 x3 x4 x5 x6 17185 σ)) ∧ (¬ x2 = (-1) → ((k_Mo_isTerm x2 σ) ∧ (((f_Mo_isTerm x2 σ) = 0 → (k_Mo_linear_48 17185 σ)) ∧ (¬ (f_Mo_isTerm x2 σ) = 0 → (k_Mo_linear_35 x1 x2 x3 x4 x5 x6 17185 σ)))))))))) ∧ (¬ s0 = 0 → True)
def f_Mo_linear (a1 : Int32) (a2 : Int32) (a3 : Int32) (a4 : Int32) (a5 : Int32) (a6 : Int32) (σ : St) : Int32 × St := f_Mo_linear_4 a1 a2 a3 a4 a5 a6 ((f_Mo_begin σ).1) ((f_Mo_begin σ).2)
def k_Mo_linear (a1 : Int32) (a2 : Int32) (a3 : Int32) (a4 : Int32) (a5 : Int32) (a6 : Int32) (σ : St) : Prop := (k_Mo_begin σ) ∧ (k_Mo_linear_4 a1 a2 a3 a4 a5 a6 ((f_Mo_begin σ).1) ((f_Mo_begin σ).2))
abbrev w_Mo_linear : List Cond := Cond.code y_Mo_linear b_Mo_linear 11 (some .int) :: gw
abbrev rm_Mo_linear : Room := { frames := 5, cells := 0, slots := 0, locals := 131 }
set_option maxHeartbeats 4000000 in
set_option maxRecDepth 100000 in
theorem c_Mo_linear (l : Launch) (D : va_G) (ty : Nat → ClassId) (h : Nat → Nat) (px : va_W) (sa : Nat → Nat) (σ : St) (sz : Nat) (a1 : Int32) (a2 : Int32) (a3 : Int32) (a4 : Int32) (a5 : Int32) (a6 : Int32) (hk : k_Mo_linear a1 a2 a3 a4 a5 a6 σ) : Met l y_Mo_linear w_Mo_linear rm_Mo_linear (va_Pc [.ref (h 0), .int a1, .int a2, .int a3, .int a4, .int a5, .int a6] (fun U => U.heap.size = sz ∧ va_P D classes (Wm ty h σ px) U.heap ∧ va_K D classes (Ta ty) U ∧ NW U ∧ MK sa (va_A (Wm ty h σ px) sz) U U.heap ∧ va_D (fun _ => True) (Wm ty h σ px))) (va_Qi (fun r (u : St) => (r, u) = f_Mo_linear a1 a2 a3 a4 a5 a6 σ) (fun u t => va_P D classes (Wm ty h u px) t.heap) (va_A (Wm ty h σ px) sz)) 0 0 (va_A (Wm ty h σ px) sz) := by
  refine Met.ofW (cc := b_Mo_linear) (maxL := 11) (ret := (some .int)) (by decide) rfl ?_
  intro p e s m args below meth c s₁ B hml hv
  obtain ⟨ha, hsz, hP, hK, hN, hM, hD0⟩ := hv
  have hx := B.exec
  have hb := B.bytes
  have hr := B.returns
  have hg : ∀ w ∈ gw, w.before args s = true := fun w h9 => atoms_spec (ws := w_Mo_linear) B.pre w (List.mem_cons_of_mem _ h9)
  have hown : s.vm.findClass "ClauseLedgerModel" = some m.cls := findClass_of_methodNamed B.named
  have hlocks := B.notSynchronized
  subst hsz
  have hD := hD0.self (sz := s.heap.size)
  generalize hAe : va_A (Wm ty h σ px) s.heap.size = A at hD hM ⊢
  have hA : ∀ q : Nat, s.heap.size ≤ q → A q := fun q h9 => by rw [← hAe]; exact Or.inr h9
  have hS : va_S A s.heap s.heap [] := va_S.rf
  have he : entryFrame m args 11 = entryFrame m ([.ref (h 0), .int a1, .int a2, .int a3, .int a4, .int a5, .int a6] : List Value).toArray 11 := by rw [ha]
  rw [he, lg_entry_eq]
  have hl := lv_entry ([.ref (h 0), .int a1, .int a2, .int a3, .int a4, .int a5, .int a6]) (n := 11) (Nat.le_of_ble_eq_true rfl)
  generalize (lg_sl ([.ref (h 0), .int a1, .int a2, .int a3, .int a4, .int a5, .int a6]) ++ List.replicate (11 - (lg_sl ([.ref (h 0), .int a1, .int a2, .int a3, .int a4, .int a5, .int a6])).length) Slot.unset).toArray = ls at hl ⊢
  have hl : lv_has ls 11 [(0, .ref (h 0)), (1, .int a1), (2, .int a2), (3, .int a3), (4, .int a4), (5, .int a5), (6, .int a6)] := hl
  generalize hv : f_Mo_linear a1 a2 a3 a4 a5 a6 σ = v
  replace hv := hv.symm
  have B55 : ∀ (H : Heap) (locs : List Loc) (ls : Array Slot) (s0 : Int32) (σ : St), v = f_Mo_linear_55 s0 σ → k_Mo_linear_55 s0 σ → lv_has ls 11 [] → va_P D classes (Wm ty h σ px) H → va_D A (Wm ty h σ px) → va_S A s.heap H locs → W p l e (headSpec w_Mo_linear rm_Mo_linear).room s m args below meth c H locs 0 0 (MQ below (va_Qi (fun r (u : St) => (r, u) = v) (fun u t => va_P D classes (Wm ty h u px) t.heap) A) args s 0 0 A) (F0 m 55 ls [.int s0]) := by
    intro H locs ls s0 σ hv hk hl hP hD hS
    unfold f_Mo_linear_55 at hv
    unfold k_Mo_linear_55 at hk
    exact W.iret hx hb hr (fun t ht hW => ⟨⟨_, _, rfl, hv.symm, by dsimp only; rw [ht]; exact hP⟩, hS.F ht⟩) hS.2.2 d_Mo_linear_55
  have B48 : ∀ (H : Heap) (locs : List Loc) (ls : Array Slot) (x7 : Int32) (σ : St), v = f_Mo_linear_48 x7 σ → k_Mo_linear_48 x7 σ → lv_has ls 11 [(0, .ref (h 0)), (7, .int x7)] → va_P D classes (Wm ty h σ px) H → va_D A (Wm ty h σ px) → va_S A s.heap H locs → W p l e (headSpec w_Mo_linear rm_Mo_linear).room s m args below meth c H locs 0 0 (MQ below (va_Qi (fun r (u : St) => (r, u) = v) (fun u t => va_P D classes (Wm ty h u px) t.heap) A) args s 0 0 A) (F0 m 48 ls []) := by
    intro H locs ls x7 σ hv hk hl hP hD hS
    unfold f_Mo_linear_48 at hv
    unfold k_Mo_linear_48 at hk
    refine lv_aload_n hx hb d_Mo_linear_48 rfl (lv_at hl 0 rfl) ?_
    refine lv_iconst (v := 1) hx hb d_Mo_linear_49 (by decide) ?_
    refine lv_iload hx hb d_Mo_linear_50 (lv_at hl 1 rfl) ?_
    obtain ⟨hk0, hk⟩ := hk
    refine va_calli (va_runV (As := [.int 1, .int x7]) (rest := []) ⟨hx, hb, hml, hown, hg⟩ (c_Mo_fails l D ty h px sa σ H.size 1 x7 hk0) ⟨callB_of 2 hg (gw_C m_1507) rfl rfl rfl (hg _ m_13) (hg _ m_1504) hd_Mo_fails ⟨Nat.le_of_ble_eq_true rfl, Nat.le_of_ble_eq_true rfl⟩, hg _ m_1506, hg _ ms_62⟩ (zz_preVW hM hS hA hN hK hP hD 0 rfl rfl) rfl rfl hl.1 rfl (lv_room (Nat.le_of_ble_eq_true rfl)) d_Mo_linear_52 ⟨Nat.le_of_ble_eq_true rfl, Nat.le_of_ble_eq_true rfl⟩) hS (fun q _ h => zz_free hD hS hA q h) (zz_free hD hS hA) (fun r52 u52 t H locs ht hvm hp hP1 hz hk1 hS => ?_)
    rw [ht] at hP1
    rw [← hp] at hv hk
    have hD : va_D A (Wm ty h u52 px) := zz_D hD rfl
    have hP := hP1
    exact B55 _ _ _ r52 u52 hv hk (lv_sub hl [] rfl) hP hD hS
  have B103 : ∀ (H : Heap) (locs : List Loc) (ls : Array Slot) (s0 : Int32) (σ : St), v = f_Mo_linear_103 s0 σ → k_Mo_linear_103 s0 σ → lv_has ls 11 [] → va_P D classes (Wm ty h σ px) H → va_D A (Wm ty h σ px) → va_S A s.heap H locs → W p l e (headSpec w_Mo_linear rm_Mo_linear).room s m args below meth c H locs 0 0 (MQ below (va_Qi (fun r (u : St) => (r, u) = v) (fun u t => va_P D classes (Wm ty h u px) t.heap) A) args s 0 0 A) (F0 m 103 ls [.int s0]) := by
    intro H locs ls s0 σ hv hk hl hP hD hS
    unfold f_Mo_linear_103 at hv
    unfold k_Mo_linear_103 at hk
    exact W.iret hx hb hr (fun t ht hW => ⟨⟨_, _, rfl, hv.symm, by dsimp only; rw [ht]; exact hP⟩, hS.F ht⟩) hS.2.2 d_Mo_linear_103
  have B96 : ∀ (H : Heap) (locs : List Loc) (ls : Array Slot) (x7 : Int32) (σ : St), v = f_Mo_linear_96 x7 σ → k_Mo_linear_96 x7 σ → lv_has ls 11 [(0, .ref (h 0)), (7, .int x7)] → va_P D classes (Wm ty h σ px) H → va_D A (Wm ty h σ px) → va_S A s.heap H locs → W p l e (headSpec w_Mo_linear rm_Mo_linear).room s m args below meth c H locs 0 0 (MQ below (va_Qi (fun r (u : St) => (r, u) = v) (fun u t => va_P D classes (Wm ty h u px) t.heap) A) args s 0 0 A) (F0 m 96 ls []) := by
    intro H locs ls x7 σ hv hk hl hP hD hS
    unfold f_Mo_linear_96 at hv
    unfold k_Mo_linear_96 at hk
    refine lv_aload_n hx hb d_Mo_linear_96 rfl (lv_at hl 0 rfl) ?_
    refine lv_iconst (v := 2) hx hb d_Mo_linear_97 (by decide) ?_
    refine lv_iload hx hb d_Mo_linear_98 (lv_at hl 1 rfl) ?_
    obtain ⟨hk0, hk⟩ := hk
    refine va_calli (va_runV (As := [.int 2, .int x7]) (rest := []) ⟨hx, hb, hml, hown, hg⟩ (c_Mo_fails l D ty h px sa σ H.size 2 x7 hk0) ⟨callB_of 2 hg (gw_C m_1507) rfl rfl rfl (hg _ m_13) (hg _ m_1504) hd_Mo_fails ⟨Nat.le_of_ble_eq_true rfl, Nat.le_of_ble_eq_true rfl⟩, hg _ m_1506, hg _ ms_62⟩ (zz_preVW hM hS hA hN hK hP hD 0 rfl rfl) rfl rfl hl.1 rfl (lv_room (Nat.le_of_ble_eq_true rfl)) d_Mo_linear_100 ⟨Nat.le_of_ble_eq_true rfl, Nat.le_of_ble_eq_true rfl⟩) hS (fun q _ h => zz_free hD hS hA q h) (zz_free hD hS hA) (fun r100 u100 t H locs ht hvm hp hP1 hz hk1 hS => ?_)
    rw [ht] at hP1
    rw [← hp] at hv hk
    have hD : va_D A (Wm ty h u100 px) := zz_D hD rfl
    have hP := hP1
    exact B103 _ _ _ r100 u100 hv hk (lv_sub hl [] rfl) hP hD hS
  have B268 : ∀ (H : Heap) (locs : List Loc) (ls : Array Slot) (s0 : Int32) (σ : St), v = f_Mo_linear_268 s0 σ → k_Mo_linear_268 s0 σ → lv_has ls 11 [] → va_P D classes (Wm ty h σ px) H → va_D A (Wm ty h σ px) → va_S A s.heap H locs → W p l e (headSpec w_Mo_linear rm_Mo_linear).room s m args below meth c H locs 0 0 (MQ below (va_Qi (fun r (u : St) => (r, u) = v) (fun u t => va_P D classes (Wm ty h u px) t.heap) A) args s 0 0 A) (F0 m 268 ls [.int s0]) := by
    intro H locs ls s0 σ hv hk hl hP hD hS
    unfold f_Mo_linear_268 at hv
    unfold k_Mo_linear_268 at hk
    exact W.iret hx hb hr (fun t ht hW => ⟨⟨_, _, rfl, hv.symm, by dsimp only; rw [ht]; exact hP⟩, hS.F ht⟩) hS.2.2 d_Mo_linear_268
  have B367 : ∀ (H : Heap) (locs : List Loc) (ls : Array Slot) (s0 : Int32) (σ : St), v = f_Mo_linear_367 s0 σ → k_Mo_linear_367 s0 σ → lv_has ls 11 [] → va_P D classes (Wm ty h σ px) H → va_D A (Wm ty h σ px) → va_S A s.heap H locs → W p l e (headSpec w_Mo_linear rm_Mo_linear).room s m args below meth c H locs 0 0 (MQ below (va_Qi (fun r (u : St) => (r, u) = v) (fun u t => va_P D classes (Wm ty h u px) t.heap) A) args s 0 0 A) (F0 m 367 ls [.int s0]) := by
    intro H locs ls s0 σ hv hk hl hP hD hS
    unfold f_Mo_linear_367 at hv
    unfold k_Mo_linear_367 at hk
    exact W.iret hx hb hr (fun t ht hW => ⟨⟨_, _, rfl, hv.symm, by dsimp only; rw [ht]; exact hP⟩, hS.F ht⟩) hS.2.2 d_Mo_linear_367
  have B360 : ∀ (H : Heap) (locs : List Loc) (ls : Array Slot) (x7 : Int32) (σ : St), v = f_Mo_linear_360 x7 σ → k_Mo_linear_360 x7 σ → lv_has ls 11 [(0, .ref (h 0)), (7, .int x7)] → va_P D classes (Wm ty h σ px) H → va_D A (Wm ty h σ px) → va_S A s.heap H locs → W p l e (headSpec w_Mo_linear rm_Mo_linear).room s m args below meth c H locs 0 0 (MQ below (va_Qi (fun r (u : St) => (r, u) = v) (fun u t => va_P D classes (Wm ty h u px) t.heap) A) args s 0 0 A) (F0 m 360 ls []) := by
    intro H locs ls x7 σ hv hk hl hP hD hS
    unfold f_Mo_linear_360 at hv
    unfold k_Mo_linear_360 at hk
    refine lv_aload_n hx hb d_Mo_linear_360 rfl (lv_at hl 0 rfl) ?_
    refine lv_iconst (v := 2) hx hb d_Mo_linear_361 (by decide) ?_
    refine lv_iload hx hb d_Mo_linear_362 (lv_at hl 1 rfl) ?_
    obtain ⟨hk0, hk⟩ := hk
    refine va_calli (va_runV (As := [.int 2, .int x7]) (rest := []) ⟨hx, hb, hml, hown, hg⟩ (c_Mo_fails l D ty h px sa σ H.size 2 x7 hk0) ⟨callB_of 2 hg (gw_C m_1507) rfl rfl rfl (hg _ m_13) (hg _ m_1504) hd_Mo_fails ⟨Nat.le_of_ble_eq_true rfl, Nat.le_of_ble_eq_true rfl⟩, hg _ m_1506, hg _ ms_62⟩ (zz_preVW hM hS hA hN hK hP hD 0 rfl rfl) rfl rfl hl.1 rfl (lv_room (Nat.le_of_ble_eq_true rfl)) d_Mo_linear_364 ⟨Nat.le_of_ble_eq_true rfl, Nat.le_of_ble_eq_true rfl⟩) hS (fun q _ h => zz_free hD hS hA q h) (zz_free hD hS hA) (fun r364 u364 t H locs ht hvm hp hP1 hz hk1 hS => ?_)
    rw [ht] at hP1
    rw [← hp] at hv hk
    have hD : va_D A (Wm ty h u364 px) := zz_D hD rfl
    have hP := hP1
    exact B367 _ _ _ r364 u364 hv hk (lv_sub hl [] rfl) hP hD hS
  have B401 : ∀ (H : Heap) (locs : List Loc) (ls : Array Slot) (s0 : Int32) (σ : St), v = f_Mo_linear_401 s0 σ → k_Mo_linear_401 s0 σ → lv_has ls 11 [] → va_P D classes (Wm ty h σ px) H → va_D A (Wm ty h σ px) → va_S A s.heap H locs → W p l e (headSpec w_Mo_linear rm_Mo_linear).room s m args below meth c H locs 0 0 (MQ below (va_Qi (fun r (u : St) => (r, u) = v) (fun u t => va_P D classes (Wm ty h u px) t.heap) A) args s 0 0 A) (F0 m 401 ls [.int s0]) := by
    intro H locs ls s0 σ hv hk hl hP hD hS
    unfold f_Mo_linear_401 at hv
    unfold k_Mo_linear_401 at hk
    exact W.iret hx hb hr (fun t ht hW => ⟨⟨_, _, rfl, hv.symm, by dsimp only; rw [ht]; exact hP⟩, hS.F ht⟩) hS.2.2 d_Mo_linear_401
  have B391 : ∀ (H : Heap) (locs : List Loc) (ls : Array Slot) (x7 : Int32) (σ : St), v = f_Mo_linear_391 x7 σ → k_Mo_linear_391 x7 σ → lv_has ls 11 [(0, .ref (h 0)), (7, .int x7)] → va_P D classes (Wm ty h σ px) H → va_D A (Wm ty h σ px) → va_S A s.heap H locs → W p l e (headSpec w_Mo_linear rm_Mo_linear).room s m args below meth c H locs 0 0 (MQ below (va_Qi (fun r (u : St) => (r, u) = v) (fun u t => va_P D classes (Wm ty h u px) t.heap) A) args s 0 0 A) (F0 m 391 ls []) := by
    intro H locs ls x7 σ hv hk hl hP hD hS
    unfold f_Mo_linear_391 at hv
    unfold k_Mo_linear_391 at hk
    refine lv_aload_n hx hb d_Mo_linear_391 rfl (lv_at hl 0 rfl) ?_
    refine lv_aload_n hx hb d_Mo_linear_392 rfl (lv_at hl 0 rfl) ?_
    refine va_get (v := .int (σ.1 0 25)) (C := R_Mo) (T := T_Mo) (N := 51) hx hb hg in_Mo hown hK hP 0 rfl rfl 25 (by decide) (hg _ m_1284) (fun _ h9 => h9) rfl d_Mo_linear_393 ?_
    refine lv_iload hx hb d_Mo_linear_396 (lv_at hl 1 rfl) ?_
    obtain ⟨hk0, hk⟩ := hk
    refine va_calli (va_runV (As := [.int (σ.1 0 25), .int x7]) (rest := []) ⟨hx, hb, hml, hown, hg⟩ (c_Mo_enter l D ty h px sa σ H.size (σ.1 0 25) x7 hk0) ⟨callB_of 2 hg (gw_C m_1527) rfl rfl rfl (hg _ m_13) (hg _ m_1524) hd_Mo_enter ⟨Nat.le_of_ble_eq_true rfl, Nat.le_of_ble_eq_true rfl⟩, hg _ m_1526, hg _ ms_66⟩ (zz_preVW hM hS hA hN hK hP hD 0 rfl rfl) rfl rfl hl.1 rfl (lv_room (Nat.le_of_ble_eq_true rfl)) d_Mo_linear_398 ⟨Nat.le_of_ble_eq_true rfl, Nat.le_of_ble_eq_true rfl⟩) hS (fun q _ h => zz_free hD hS hA q h) (zz_free hD hS hA) (fun r398 u398 t H locs ht hvm hp hP1 hz hk1 hS => ?_)
    rw [ht] at hP1
    rw [← hp] at hv hk
    have hD : va_D A (Wm ty h u398 px) := zz_D hD rfl
    have hP := hP1
    exact B401 _ _ _ r398 u398 hv hk (lv_sub hl [] rfl) hP hD hS
  have B382 : ∀ (H : Heap) (locs : List Loc) (ls : Array Slot) (x3 : Int32) (x7 : Int32) (σ : St), v = f_Mo_linear_382 x3 x7 σ → k_Mo_linear_382 x3 x7 σ → lv_has ls 11 [(0, .ref (h 0)), (3, .int x3), (7, .int x7)] → va_P D classes (Wm ty h σ px) H → va_D A (Wm ty h σ px) → va_S A s.heap H locs → W p l e (headSpec w_Mo_linear rm_Mo_linear).room s m args below meth c H locs 0 0 (MQ below (va_Qi (fun r (u : St) => (r, u) = v) (fun u t => va_P D classes (Wm ty h u px) t.heap) A) args s 0 0 A) (F0 m 382 ls []) := by
    intro H locs ls x3 x7 σ hv hk hl hP hD hS
    unfold f_Mo_linear_382 at hv
    unfold k_Mo_linear_382 at hk
    refine lv_iload_n hx hb d_Mo_linear_382 rfl (lv_at hl 1 rfl) ?_
    refine lv_if_lt (tgt := 391) hx hb d_Mo_linear_383 (by decide) (fun hc => ?_) (fun hc => ?_)
    · have hv := hv.trans (if_pos hc)
      have hk := hk.1 hc
      exact B391 _ _ _ x7 σ hv hk (lv_sub hl [0, 2] rfl) hP hD hS
    · have hv := hv.trans (if_neg hc)
      have hk := hk.2 hc
      refine lv_aload_n hx hb d_Mo_linear_386 rfl (lv_at hl 0 rfl) ?_
      refine lv_iload_n hx hb d_Mo_linear_387 rfl (lv_at hl 1 rfl) ?_
      obtain ⟨hk0, hk⟩ := hk
      refine va_callv (va_runV (As := [.int x3]) (rest := []) ⟨hx, hb, hml, hown, hg⟩ (c_Mo_join l D ty h px sa σ H.size x3 hk0) ⟨callB_of 1 hg (gw_C m_1523) rfl rfl rfl (hg _ m_13) (hg _ m_1520) hd_Mo_join ⟨Nat.le_of_ble_eq_true rfl, Nat.le_of_ble_eq_true rfl⟩, hg _ m_1522, hg _ ms_65⟩ (zz_preVW hM hS hA hN hK hP hD 0 rfl rfl) rfl rfl hl.1 rfl (lv_room (Nat.le_of_ble_eq_true rfl)) d_Mo_linear_388 ⟨Nat.le_of_ble_eq_true rfl, Nat.le_of_ble_eq_true rfl⟩) hS (fun q _ h => zz_free hD hS hA q h) (zz_free hD hS hA) (fun u388 t H locs ht hvm hp hP1 hz hk1 hS => ?_)
      rw [ht] at hP1
      rw [← hp] at hv hk
      have hD : va_D A (Wm ty h u388 px) := zz_D hD rfl
      have hP := hP1
      exact B391 _ _ _ x7 u388 hv hk (lv_sub hl [0, 2] rfl) hP hD hS
  have B373 : ∀ (H : Heap) (locs : List Loc) (ls : Array Slot) (x2 : Int32) (x3 : Int32) (x7 : Int32) (σ : St), v = f_Mo_linear_373 x2 x3 x7 σ → k_Mo_linear_373 x2 x3 x7 σ → lv_has ls 11 [(0, .ref (h 0)), (2, .int x2), (3, .int x3), (7, .int x7)] → va_P D classes (Wm ty h σ px) H → va_D A (Wm ty h σ px) → va_S A s.heap H locs → W p l e (headSpec w_Mo_linear rm_Mo_linear).room s m args below meth c H locs 0 0 (MQ below (va_Qi (fun r (u : St) => (r, u) = v) (fun u t => va_P D classes (Wm ty h u px) t.heap) A) args s 0 0 A) (F0 m 373 ls []) := by
    intro H locs ls x2 x3 x7 σ hv hk hl hP hD hS
    unfold f_Mo_linear_373 at hv
    unfold k_Mo_linear_373 at hk
    refine lv_iload_n hx hb d_Mo_linear_373 rfl (lv_at hl 1 rfl) ?_
    refine lv_if_lt (tgt := 382) hx hb d_Mo_linear_374 (by decide) (fun hc => ?_) (fun hc => ?_)
    · have hv := hv.trans (if_pos hc)
      have hk := hk.1 hc
      exact B382 _ _ _ x3 x7 σ hv hk (lv_sub hl [0, 2, 3] rfl) hP hD hS
    · have hv := hv.trans (if_neg hc)
      have hk := hk.2 hc
      refine lv_aload_n hx hb d_Mo_linear_377 rfl (lv_at hl 0 rfl) ?_
      refine lv_iload_n hx hb d_Mo_linear_378 rfl (lv_at hl 1 rfl) ?_
      obtain ⟨hk0, hk⟩ := hk
      refine va_callv (va_runV (As := [.int x2]) (rest := []) ⟨hx, hb, hml, hown, hg⟩ (c_Mo_join l D ty h px sa σ H.size x2 hk0) ⟨callB_of 1 hg (gw_C m_1523) rfl rfl rfl (hg _ m_13) (hg _ m_1520) hd_Mo_join ⟨Nat.le_of_ble_eq_true rfl, Nat.le_of_ble_eq_true rfl⟩, hg _ m_1522, hg _ ms_65⟩ (zz_preVW hM hS hA hN hK hP hD 0 rfl rfl) rfl rfl hl.1 rfl (lv_room (Nat.le_of_ble_eq_true rfl)) d_Mo_linear_379 ⟨Nat.le_of_ble_eq_true rfl, Nat.le_of_ble_eq_true rfl⟩) hS (fun q _ h => zz_free hD hS hA q h) (zz_free hD hS hA) (fun u379 t H locs ht hvm hp hP1 hz hk1 hS => ?_)
      rw [ht] at hP1
      rw [← hp] at hv hk
      have hD : va_D A (Wm ty h u379 px) := zz_D hD rfl
      have hP := hP1
      exact B382 _ _ _ x3 x7 u379 hv hk (lv_sub hl [0, 2, 3] rfl) hP hD hS
  have B368 : ∀ (H : Heap) (locs : List Loc) (ls : Array Slot) (x1 : Int32) (x2 : Int32) (x3 : Int32) (x7 : Int32) (σ : St), v = f_Mo_linear_368 x1 x2 x3 x7 σ → k_Mo_linear_368 x1 x2 x3 x7 σ → lv_has ls 11 [(0, .ref (h 0)), (1, .int x1), (2, .int x2), (3, .int x3), (7, .int x7)] → va_P D classes (Wm ty h σ px) H → va_D A (Wm ty h σ px) → va_S A s.heap H locs → W p l e (headSpec w_Mo_linear rm_Mo_linear).room s m args below meth c H locs 0 0 (MQ below (va_Qi (fun r (u : St) => (r, u) = v) (fun u t => va_P D classes (Wm ty h u px) t.heap) A) args s 0 0 A) (F0 m 368 ls []) := by
    intro H locs ls x1 x2 x3 x7 σ hv hk hl hP hD hS
    unfold f_Mo_linear_368 at hv
    unfold k_Mo_linear_368 at hk
    refine lv_aload_n hx hb d_Mo_linear_368 rfl (lv_at hl 0 rfl) ?_
    refine lv_iload_n hx hb d_Mo_linear_369 rfl (lv_at hl 1 rfl) ?_
    obtain ⟨hk0, hk⟩ := hk
    refine va_callv (va_runV (As := [.int x1]) (rest := []) ⟨hx, hb, hml, hown, hg⟩ (c_Mo_join l D ty h px sa σ H.size x1 hk0) ⟨callB_of 1 hg (gw_C m_1523) rfl rfl rfl (hg _ m_13) (hg _ m_1520) hd_Mo_join ⟨Nat.le_of_ble_eq_true rfl, Nat.le_of_ble_eq_true rfl⟩, hg _ m_1522, hg _ ms_65⟩ (zz_preVW hM hS hA hN hK hP hD 0 rfl rfl) rfl rfl hl.1 rfl (lv_room (Nat.le_of_ble_eq_true rfl)) d_Mo_linear_370 ⟨Nat.le_of_ble_eq_true rfl, Nat.le_of_ble_eq_true rfl⟩) hS (fun q _ h => zz_free hD hS hA q h) (zz_free hD hS hA) (fun u370 t H locs ht hvm hp hP1 hz hk1 hS => ?_)
    rw [ht] at hP1
    rw [← hp] at hv hk
    have hD : va_D A (Wm ty h u370 px) := zz_D hD rfl
    have hP := hP1
    exact B373 _ _ _ x2 x3 x7 u370 hv hk (lv_sub hl [0, 2, 3, 4] rfl) hP hD hS
  have B330 : ∀ (H : Heap) (locs : List Loc) (ls : Array Slot) (x1 : Int32) (x2 : Int32) (x3 : Int32) (x7 : Int32) (x8 : Int32) (s0 : Int32) (σ : St), v = f_Mo_linear_330 x1 x2 x3 x7 x8 s0 σ → k_Mo_linear_330 x1 x2 x3 x7 x8 s0 σ → lv_has ls 11 [(0, .ref (h 0)), (1, .int x1), (2, .int x2), (3, .int x3), (7, .int x7), (8, .int x8)] → va_P D classes (Wm ty h σ px) H → va_D A (Wm ty h σ px) → va_S A s.heap H locs → W p l e (headSpec w_Mo_linear rm_Mo_linear).room s m args below meth c H locs 0 0 (MQ below (va_Qi (fun r (u : St) => (r, u) = v) (fun u t => va_P D classes (Wm ty h u px) t.heap) A) args s 0 0 A) (F0 m 330 ls [.int s0]) := by
    intro H locs ls x1 x2 x3 x7 x8 s0 σ hv hk hl hP hD hS
    unfold f_Mo_linear_330 at hv
    unfold k_Mo_linear_330 at hk
    refine lv_istore (lv' := [(9, .int s0), (0, .ref (h 0)), (1, .int x1), (2, .int x2), (3, .int x3), (7, .int x7), (8, .int x8)]) hx hb d_Mo_linear_330 hl (by decide) rfl (fun ls hl => ?_)
    refine lv_iload hx hb d_Mo_linear_332 (lv_at hl 6 rfl) ?_
    refine lv_if_ne (tgt := 360) hx hb d_Mo_linear_334 (by decide) (fun hc => ?_) (fun hc => ?_)
    · have hv := hv.trans (if_neg hc)
      have hk := hk.2 hc
      exact B360 _ _ _ x7 σ hv hk (lv_sub hl [1, 5] rfl) hP hD hS
    · have hv := hv.trans (if_pos hc)
      have hk := hk.1 hc
      refine lv_aload_n hx hb d_Mo_linear_337 rfl (lv_at hl 1 rfl) ?_
      refine va_get (v := .long (σ.2 0 49)) (C := R_Mo) (T := T_Mo) (N := 51) hx hb hg in_Mo hown hK hP 0 rfl rfl 49 (by decide) (hg _ m_1308) (fun _ h9 => h9) rfl d_Mo_linear_338 ?_
      refine lv_lconst (v := 0) hx hb d_Mo_linear_341 (by decide) ?_
      refine W.lcmp hx hb d_Mo_linear_342 ?_
      refine lv_if_gt (tgt := 360) hx hb d_Mo_linear_343 (by decide) (fun hc => ?_) (fun hc => ?_)
      · have hv := hv.trans (if_pos hc)
        have hk := hk.1 hc
        exact B360 _ _ _ x7 σ hv hk (lv_sub hl [1, 5] rfl) hP hD hS
      · have hv := hv.trans (if_neg hc)
        have hk := hk.2 hc
        refine lv_aload_n hx hb d_Mo_linear_346 rfl (lv_at hl 1 rfl) ?_
        refine va_get (v := .long (σ.2 0 49)) (C := R_Mo) (T := T_Mo) (N := 51) hx hb hg in_Mo hown hK hP 0 rfl rfl 49 (by decide) (hg _ m_1308) (fun _ h9 => h9) rfl d_Mo_linear_347 ?_
        refine lv_lconst (v := 0) hx hb d_Mo_linear_350 (by decide) ?_
        refine W.lcmp hx hb d_Mo_linear_351 ?_
        refine lv_if_ne (tgt := 368) hx hb d_Mo_linear_352 (by decide) (fun hc => ?_) (fun hc => ?_)
        · have hv := hv.trans (if_neg hc)
          have hk := hk.2 hc
          exact B368 _ _ _ x1 x2 x3 x7 σ hv hk (lv_sub hl [1, 2, 3, 4, 5] rfl) hP hD hS
        · have hv := hv.trans (if_pos hc)
          have hk := hk.1 hc
          refine lv_iload hx hb d_Mo_linear_355 (lv_at hl 0 rfl) ?_
          refine lv_if_ne (tgt := 368) hx hb d_Mo_linear_357 (by decide) (fun hc => ?_) (fun hc => ?_)
          · have hv := hv.trans (if_neg hc)
            have hk := hk.2 hc
            exact B368 _ _ _ x1 x2 x3 x7 σ hv hk (lv_sub hl [1, 2, 3, 4, 5] rfl) hP hD hS
          · have hv := hv.trans (if_pos hc)
            have hk := hk.1 hc
            exact B360 _ _ _ x7 σ hv hk (lv_sub hl [1, 5] rfl) hP hD hS
  have B325 : ∀ (H : Heap) (locs : List Loc) (ls : Array Slot) (x1 : Int32) (x2 : Int32) (x3 : Int32) (x7 : Int32) (x8 : Int32) (σ : St), v = f_Mo_linear_325 x1 x2 x3 x7 x8 σ → k_Mo_linear_325 x1 x2 x3 x7 x8 σ → lv_has ls 11 [(0, .ref (h 0)), (1, .int x1), (2, .int x2), (3, .int x3), (7, .int x7), (8, .int x8)] → va_P D classes (Wm ty h σ px) H → va_D A (Wm ty h σ px) → va_S A s.heap H locs → W p l e (headSpec w_Mo_linear rm_Mo_linear).room s m args below meth c H locs 0 0 (MQ below (va_Qi (fun r (u : St) => (r, u) = v) (fun u t => va_P D classes (Wm ty h u px) t.heap) A) args s 0 0 A) (F0 m 325 ls []) := by
    intro H locs ls x1 x2 x3 x7 x8 σ hv hk hl hP hD hS
    unfold f_Mo_linear_325 at hv
    unfold k_Mo_linear_325 at hk
    refine lv_iconst (v := 1) hx hb d_Mo_linear_325 (by decide) ?_
    refine lv_goto (tgt := 330) hx hb d_Mo_linear_326 (by decide) ?_
    exact B330 _ _ _ x1 x2 x3 x7 x8 1 σ hv hk (lv_sub hl [0, 1, 2, 3, 4, 5] rfl) hP hD hS
  have B329 : ∀ (H : Heap) (locs : List Loc) (ls : Array Slot) (x1 : Int32) (x2 : Int32) (x3 : Int32) (x7 : Int32) (x8 : Int32) (σ : St), v = f_Mo_linear_329 x1 x2 x3 x7 x8 σ → k_Mo_linear_329 x1 x2 x3 x7 x8 σ → lv_has ls 11 [(0, .ref (h 0)), (1, .int x1), (2, .int x2), (3, .int x3), (7, .int x7), (8, .int x8)] → va_P D classes (Wm ty h σ px) H → va_D A (Wm ty h σ px) → va_S A s.heap H locs → W p l e (headSpec w_Mo_linear rm_Mo_linear).room s m args below meth c H locs 0 0 (MQ below (va_Qi (fun r (u : St) => (r, u) = v) (fun u t => va_P D classes (Wm ty h u px) t.heap) A) args s 0 0 A) (F0 m 329 ls []) := by
    intro H locs ls x1 x2 x3 x7 x8 σ hv hk hl hP hD hS
    unfold f_Mo_linear_329 at hv
    unfold k_Mo_linear_329 at hk
    refine lv_iconst (v := 0) hx hb d_Mo_linear_329 (by decide) ?_
    exact B330 _ _ _ x1 x2 x3 x7 x8 0 σ hv hk (lv_sub hl [0, 1, 2, 3, 4, 5] rfl) hP hD hS
  have B305 : ∀ (H : Heap) (locs : List Loc) (ls : Array Slot) (x1 : Int32) (x2 : Int32) (x3 : Int32) (x6 : Int32) (x7 : Int32) (x8 : Int32) (σ : St), v = f_Mo_linear_305 x1 x2 x3 x6 x7 x8 σ → k_Mo_linear_305 x1 x2 x3 x6 x7 x8 σ → lv_has ls 11 [(0, .ref (h 0)), (1, .int x1), (2, .int x2), (3, .int x3), (6, .int x6), (7, .int x7), (8, .int x8)] → va_P D classes (Wm ty h σ px) H → va_D A (Wm ty h σ px) → va_S A s.heap H locs → W p l e (headSpec w_Mo_linear rm_Mo_linear).room s m args below meth c H locs 0 0 (MQ below (va_Qi (fun r (u : St) => (r, u) = v) (fun u t => va_P D classes (Wm ty h u px) t.heap) A) args s 0 0 A) (F0 m 305 ls []) := by
    intro H locs ls x1 x2 x3 x6 x7 x8 σ hv hk hl hP hD hS
    unfold f_Mo_linear_305 at hv
    unfold k_Mo_linear_305 at hk
    refine lv_iload_n hx hb d_Mo_linear_305 rfl (lv_at hl 3 rfl) ?_
    refine lv_if_lt (tgt := 329) hx hb d_Mo_linear_306 (by decide) (fun hc => ?_) (fun hc => ?_)
    · have hv := hv.trans (if_pos hc)
      have hk := hk.1 hc
      exact B329 _ _ _ x1 x2 x3 x7 x8 σ hv hk (lv_sub hl [0, 1, 2, 3, 5, 6] rfl) hP hD hS
    · have hv := hv.trans (if_neg hc)
      have hk := hk.2 hc
      refine lv_aload_n hx hb d_Mo_linear_309 rfl (lv_at hl 0 rfl) ?_
      refine va_get (v := .ref (h 5)) (C := R_Mo) (T := T_Mo) (N := 51) hx hb hg in_Mo hown hK hP 0 rfl rfl 10 (by decide) (hg _ m_1269) (fun _ h9 => h9) rfl d_Mo_linear_310 ?_
      refine lv_iload_n hx hb d_Mo_linear_313 rfl (lv_at hl 3 rfl) ?_
      obtain ⟨hk0, hk⟩ := hk
      refine va_iald hx hb hK hP 5 0 rfl rfl hk0 d_Mo_linear_314 ?_
      refine lv_bipush (v := 6) hx hb d_Mo_linear_315 (by decide) ?_
      refine lv_icmp_ne (tgt := 329) hx hb d_Mo_linear_317 (by decide) (fun hc => ?_) (fun hc => ?_)
      · have hv := hv.trans (if_neg hc)
        have hk := hk.2 hc
        exact B329 _ _ _ x1 x2 x3 x7 x8 σ hv hk (lv_sub hl [0, 1, 2, 3, 5, 6] rfl) hP hD hS
      · have hv := hv.trans (if_pos hc)
        have hk := hk.1 hc
        refine lv_iload hx hb d_Mo_linear_320 (lv_at hl 4 rfl) ?_
        refine lv_if_le (tgt := 329) hx hb d_Mo_linear_322 (by decide) (fun hc => ?_) (fun hc => ?_)
        · have hv := hv.trans (if_pos hc)
          have hk := hk.1 hc
          exact B329 _ _ _ x1 x2 x3 x7 x8 σ hv hk (lv_sub hl [0, 1, 2, 3, 5, 6] rfl) hP hD hS
        · have hv := hv.trans (if_neg hc)
          have hk := hk.2 hc
          exact B325 _ _ _ x1 x2 x3 x7 x8 σ hv hk (lv_sub hl [0, 1, 2, 3, 5, 6] rfl) hP hD hS
  have B285 : ∀ (H : Heap) (locs : List Loc) (ls : Array Slot) (x1 : Int32) (x2 : Int32) (x3 : Int32) (x5 : Int32) (x6 : Int32) (x7 : Int32) (x8 : Int32) (σ : St), v = f_Mo_linear_285 x1 x2 x3 x5 x6 x7 x8 σ → k_Mo_linear_285 x1 x2 x3 x5 x6 x7 x8 σ → lv_has ls 11 [(0, .ref (h 0)), (1, .int x1), (2, .int x2), (3, .int x3), (5, .int x5), (6, .int x6), (7, .int x7), (8, .int x8)] → va_P D classes (Wm ty h σ px) H → va_D A (Wm ty h σ px) → va_S A s.heap H locs → W p l e (headSpec w_Mo_linear rm_Mo_linear).room s m args below meth c H locs 0 0 (MQ below (va_Qi (fun r (u : St) => (r, u) = v) (fun u t => va_P D classes (Wm ty h u px) t.heap) A) args s 0 0 A) (F0 m 285 ls []) := by
    intro H locs ls x1 x2 x3 x5 x6 x7 x8 σ hv hk hl hP hD hS
    unfold f_Mo_linear_285 at hv
    unfold k_Mo_linear_285 at hk
    refine lv_iload_n hx hb d_Mo_linear_285 rfl (lv_at hl 2 rfl) ?_
    refine lv_if_lt (tgt := 305) hx hb d_Mo_linear_286 (by decide) (fun hc => ?_) (fun hc => ?_)
    · have hv := hv.trans (if_pos hc)
      have hk := hk.1 hc
      exact B305 _ _ _ x1 x2 x3 x6 x7 x8 σ hv hk (lv_sub hl [0, 1, 2, 3, 5, 6, 7] rfl) hP hD hS
    · have hv := hv.trans (if_neg hc)
      have hk := hk.2 hc
      refine lv_aload_n hx hb d_Mo_linear_289 rfl (lv_at hl 0 rfl) ?_
      refine va_get (v := .ref (h 5)) (C := R_Mo) (T := T_Mo) (N := 51) hx hb hg in_Mo hown hK hP 0 rfl rfl 10 (by decide) (hg _ m_1269) (fun _ h9 => h9) rfl d_Mo_linear_290 ?_
      refine lv_iload_n hx hb d_Mo_linear_293 rfl (lv_at hl 2 rfl) ?_
      obtain ⟨hk0, hk⟩ := hk
      refine va_iald hx hb hK hP 5 0 rfl rfl hk0 d_Mo_linear_294 ?_
      refine lv_bipush (v := 6) hx hb d_Mo_linear_295 (by decide) ?_
      refine lv_icmp_ne (tgt := 305) hx hb d_Mo_linear_297 (by decide) (fun hc => ?_) (fun hc => ?_)
      · have hv := hv.trans (if_neg hc)
        have hk := hk.2 hc
        exact B305 _ _ _ x1 x2 x3 x6 x7 x8 σ hv hk (lv_sub hl [0, 1, 2, 3, 5, 6, 7] rfl) hP hD hS
      · have hv := hv.trans (if_pos hc)
        have hk := hk.1 hc
        refine lv_iload hx hb d_Mo_linear_300 (lv_at hl 4 rfl) ?_
        refine lv_if_gt (tgt := 325) hx hb d_Mo_linear_302 (by decide) (fun hc => ?_) (fun hc => ?_)
        · have hv := hv.trans (if_pos hc)
          have hk := hk.1 hc
          exact B325 _ _ _ x1 x2 x3 x7 x8 σ hv hk (lv_sub hl [0, 1, 2, 3, 6, 7] rfl) hP hD hS
        · have hv := hv.trans (if_neg hc)
          have hk := hk.2 hc
          exact B305 _ _ _ x1 x2 x3 x6 x7 x8 σ hv hk (lv_sub hl [0, 1, 2, 3, 5, 6, 7] rfl) hP hD hS
  have B120 : ∀ (n120 : Nat) (H : Heap) (locs : List Loc) (ls : Array Slot) (x1 : Int32) (x2 : Int32) (x3 : Int32) (x4 : Int32) (x5 : Int32) (x6 : Int32) (x7 : Int32) (x8 : Int32) (x9 : Int32) (σ : St), v = f_Mo_linear_120 n120 x1 x2 x3 x4 x5 x6 x7 x8 x9 σ → k_Mo_linear_120 n120 x1 x2 x3 x4 x5 x6 x7 x8 x9 σ → lv_has ls 11 [(0, .ref (h 0)), (1, .int x1), (2, .int x2), (3, .int x3), (4, .int x4), (5, .int x5), (6, .int x6), (7, .int x7), (8, .int x8), (9, .int x9)] → va_P D classes (Wm ty h σ px) H → va_D A (Wm ty h σ px) → va_S A s.heap H locs → W p l e (headSpec w_Mo_linear rm_Mo_linear).room s m args below meth c H locs 0 0 (MQ below (va_Qi (fun r (u : St) => (r, u) = v) (fun u t => va_P D classes (Wm ty h u px) t.heap) A) args s 0 0 A) (F0 m 120 ls []) := by
    intro n120
    induction n120 with
    | zero => intro H locs ls x1 x2 x3 x4 x5 x6 x7 x8 x9 σ hv hk hl hP hD hS; exact hk.elim
    | succ n120 ih120 =>
      have B248 : ∀ (H : Heap) (locs : List Loc) (ls : Array Slot) (x1 : Int32) (x2 : Int32) (x3 : Int32) (x4 : Int32) (x5 : Int32) (x6 : Int32) (x7 : Int32) (x8 : Int32) (x9 : Int32) (σ : St), v = f_Mo_linear_248 (f_Mo_linear_120 n120) x1 x2 x3 x4 x5 x6 x7 x8 x9 σ → k_Mo_linear_248 (k_Mo_linear_120 n120) x1 x2 x3 x4 x5 x6 x7 x8 x9 σ → lv_has ls 11 [(0, .ref (h 0)), (1, .int x1), (2, .int x2), (3, .int x3), (4, .int x4), (5, .int x5), (6, .int x6), (7, .int x7), (8, .int x8), (9, .int x9)] → va_P D classes (Wm ty h σ px) H → va_D A (Wm ty h σ px) → va_S A s.heap H locs → W p l e (headSpec w_Mo_linear rm_Mo_linear).room s m args below meth c H locs 0 0 (MQ below (va_Qi (fun r (u : St) => (r, u) = v) (fun u t => va_P D classes (Wm ty h u px) t.heap) A) args s 0 0 A) (F0 m 248 ls []) := by
        intro H locs ls x1 x2 x3 x4 x5 x6 x7 x8 x9 σ hv hk hl hP hD hS
        unfold f_Mo_linear_248 at hv
        unfold k_Mo_linear_248 at hk
        refine lv_iinc (k := 9) (v := x9 + (-1)) (lv' := [(9, .int (x9 + (-1))), (0, .ref (h 0)), (1, .int x1), (2, .int x2), (3, .int x3), (4, .int x4), (5, .int x5), (6, .int x6), (7, .int x7), (8, .int x8)]) hx hb d_Mo_linear_248 hl rfl (by first | rfl | simp [lit1, litm1]) (by decide) rfl (fun ls hl => ?_)
        refine lv_goto (tgt := 120) hx hb d_Mo_linear_251 (by decide) ?_
        exact ih120 _ _ _ x1 x2 x3 x4 x5 x6 x7 x8 (x9 + (-1)) σ hv hk (lv_sub hl [1, 2, 3, 4, 5, 6, 7, 8, 9, 0] rfl) hP hD hS
      have B246 : ∀ (H : Heap) (locs : List Loc) (ls : Array Slot) (x1 : Int32) (x2 : Int32) (x3 : Int32) (x4 : Int32) (x5 : Int32) (x6 : Int32) (x7 : Int32) (x9 : Int32) (s0 : Int32) (σ : St), v = f_Mo_linear_246 (f_Mo_linear_120 n120) x1 x2 x3 x4 x5 x6 x7 x9 s0 σ → k_Mo_linear_246 (k_Mo_linear_120 n120) x1 x2 x3 x4 x5 x6 x7 x9 s0 σ → lv_has ls 11 [(0, .ref (h 0)), (1, .int x1), (2, .int x2), (3, .int x3), (4, .int x4), (5, .int x5), (6, .int x6), (7, .int x7), (9, .int x9)] → va_P D classes (Wm ty h σ px) H → va_D A (Wm ty h σ px) → va_S A s.heap H locs → W p l e (headSpec w_Mo_linear rm_Mo_linear).room s m args below meth c H locs 0 0 (MQ below (va_Qi (fun r (u : St) => (r, u) = v) (fun u t => va_P D classes (Wm ty h u px) t.heap) A) args s 0 0 A) (F0 m 246 ls [.int s0]) := by
        intro H locs ls x1 x2 x3 x4 x5 x6 x7 x9 s0 σ hv hk hl hP hD hS
        unfold f_Mo_linear_246 at hv
        unfold k_Mo_linear_246 at hk
        refine lv_istore (lv' := [(8, .int s0), (0, .ref (h 0)), (1, .int x1), (2, .int x2), (3, .int x3), (4, .int x4), (5, .int x5), (6, .int x6), (7, .int x7), (9, .int x9)]) hx hb d_Mo_linear_246 hl (by decide) rfl (fun ls hl => ?_)
        exact B248 _ _ _ x1 x2 x3 x4 x5 x6 x7 s0 x9 σ hv hk (lv_sub hl [1, 2, 3, 4, 5, 6, 7, 8, 0, 9] rfl) hP hD hS
      have B241 : ∀ (H : Heap) (locs : List Loc) (ls : Array Slot) (x1 : Int32) (x2 : Int32) (x3 : Int32) (x4 : Int32) (x5 : Int32) (x6 : Int32) (x7 : Int32) (x9 : Int32) (σ : St), v = f_Mo_linear_241 (f_Mo_linear_120 n120) x1 x2 x3 x4 x5 x6 x7 x9 σ → k_Mo_linear_241 (k_Mo_linear_120 n120) x1 x2 x3 x4 x5 x6 x7 x9 σ → lv_has ls 11 [(0, .ref (h 0)), (1, .int x1), (2, .int x2), (3, .int x3), (4, .int x4), (5, .int x5), (6, .int x6), (7, .int x7), (9, .int x9)] → va_P D classes (Wm ty h σ px) H → va_D A (Wm ty h σ px) → va_S A s.heap H locs → W p l e (headSpec w_Mo_linear rm_Mo_linear).room s m args below meth c H locs 0 0 (MQ below (va_Qi (fun r (u : St) => (r, u) = v) (fun u t => va_P D classes (Wm ty h u px) t.heap) A) args s 0 0 A) (F0 m 241 ls []) := by
        intro H locs ls x1 x2 x3 x4 x5 x6 x7 x9 σ hv hk hl hP hD hS
        unfold f_Mo_linear_241 at hv
        unfold k_Mo_linear_241 at hk
        refine lv_iconst (v := 1) hx hb d_Mo_linear_241 (by decide) ?_
        refine lv_goto (tgt := 246) hx hb d_Mo_linear_242 (by decide) ?_
        exact B246 _ _ _ x1 x2 x3 x4 x5 x6 x7 x9 1 σ hv hk (lv_sub hl [0, 1, 2, 3, 4, 5, 6, 7, 8] rfl) hP hD hS
      have B245 : ∀ (H : Heap) (locs : List Loc) (ls : Array Slot) (x1 : Int32) (x2 : Int32) (x3 : Int32) (x4 : Int32) (x5 : Int32) (x6 : Int32) (x7 : Int32) (x9 : Int32) (σ : St), v = f_Mo_linear_245 (f_Mo_linear_120 n120) x1 x2 x3 x4 x5 x6 x7 x9 σ → k_Mo_linear_245 (k_Mo_linear_120 n120) x1 x2 x3 x4 x5 x6 x7 x9 σ → lv_has ls 11 [(0, .ref (h 0)), (1, .int x1), (2, .int x2), (3, .int x3), (4, .int x4), (5, .int x5), (6, .int x6), (7, .int x7), (9, .int x9)] → va_P D classes (Wm ty h σ px) H → va_D A (Wm ty h σ px) → va_S A s.heap H locs → W p l e (headSpec w_Mo_linear rm_Mo_linear).room s m args below meth c H locs 0 0 (MQ below (va_Qi (fun r (u : St) => (r, u) = v) (fun u t => va_P D classes (Wm ty h u px) t.heap) A) args s 0 0 A) (F0 m 245 ls []) := by
        intro H locs ls x1 x2 x3 x4 x5 x6 x7 x9 σ hv hk hl hP hD hS
        unfold f_Mo_linear_245 at hv
        unfold k_Mo_linear_245 at hk
        refine lv_iconst (v := 0) hx hb d_Mo_linear_245 (by decide) ?_
        exact B246 _ _ _ x1 x2 x3 x4 x5 x6 x7 x9 0 σ hv hk (lv_sub hl [0, 1, 2, 3, 4, 5, 6, 7, 8] rfl) hP hD hS
      have B222 : ∀ (H : Heap) (locs : List Loc) (ls : Array Slot) (x1 : Int32) (x2 : Int32) (x3 : Int32) (x4 : Int32) (x5 : Int32) (x6 : Int32) (x7 : Int32) (x8 : Int32) (x9 : Int32) (σ : St), v = f_Mo_linear_222 (f_Mo_linear_120 n120) x1 x2 x3 x4 x5 x6 x7 x8 x9 σ → k_Mo_linear_222 (k_Mo_linear_120 n120) x1 x2 x3 x4 x5 x6 x7 x8 x9 σ → lv_has ls 11 [(0, .ref (h 0)), (1, .int x1), (2, .int x2), (3, .int x3), (4, .int x4), (5, .int x5), (6, .int x6), (7, .int x7), (8, .int x8), (9, .int x9)] → va_P D classes (Wm ty h σ px) H → va_D A (Wm ty h σ px) → va_S A s.heap H locs → W p l e (headSpec w_Mo_linear rm_Mo_linear).room s m args below meth c H locs 0 0 (MQ below (va_Qi (fun r (u : St) => (r, u) = v) (fun u t => va_P D classes (Wm ty h u px) t.heap) A) args s 0 0 A) (F0 m 222 ls []) := by
        intro H locs ls x1 x2 x3 x4 x5 x6 x7 x8 x9 σ hv hk hl hP hD hS
        unfold f_Mo_linear_222 at hv
        unfold k_Mo_linear_222 at hk
        refine lv_iload hx hb d_Mo_linear_222 (lv_at hl 8 rfl) ?_
        refine lv_if_ne (tgt := 241) hx hb d_Mo_linear_224 (by decide) (fun hc => ?_) (fun hc => ?_)
        · have hv := hv.trans (if_neg hc)
          have hk := hk.2 hc
          exact B241 _ _ _ x1 x2 x3 x4 x5 x6 x7 x9 σ hv hk (lv_sub hl [0, 1, 2, 3, 4, 5, 6, 7, 9] rfl) hP hD hS
        · have hv := hv.trans (if_pos hc)
          have hk := hk.1 hc
          refine lv_iload hx hb d_Mo_linear_227 (lv_at hl 9 rfl) ?_
          refine lv_if_lt (tgt := 245) hx hb d_Mo_linear_229 (by decide) (fun hc => ?_) (fun hc => ?_)
          · have hv := hv.trans (if_pos hc)
            have hk := hk.1 hc
            exact B245 _ _ _ x1 x2 x3 x4 x5 x6 x7 x9 σ hv hk (lv_sub hl [0, 1, 2, 3, 4, 5, 6, 7, 9] rfl) hP hD hS
          · have hv := hv.trans (if_neg hc)
            have hk := hk.2 hc
            refine lv_aload_n hx hb d_Mo_linear_232 rfl (lv_at hl 0 rfl) ?_
            refine va_get (v := .long (σ.2 0 49)) (C := R_Mo) (T := T_Mo) (N := 51) hx hb hg in_Mo hown hK hP 0 rfl rfl 49 (by decide) (hg _ m_1308) (fun _ h9 => h9) rfl d_Mo_linear_233 ?_
            refine lv_lconst (v := 0) hx hb d_Mo_linear_236 (by decide) ?_
            refine W.lcmp hx hb d_Mo_linear_237 ?_
            refine lv_if_eq (tgt := 245) hx hb d_Mo_linear_238 (by decide) (fun hc => ?_) (fun hc => ?_)
            · have hv := hv.trans (if_pos hc)
              have hk := hk.1 hc
              exact B245 _ _ _ x1 x2 x3 x4 x5 x6 x7 x9 σ hv hk (lv_sub hl [0, 1, 2, 3, 4, 5, 6, 7, 9] rfl) hP hD hS
            · have hv := hv.trans (if_neg hc)
              have hk := hk.2 hc
              exact B241 _ _ _ x1 x2 x3 x4 x5 x6 x7 x9 σ hv hk (lv_sub hl [0, 1, 2, 3, 4, 5, 6, 7, 9] rfl) hP hD hS
      have B213 : ∀ (H : Heap) (locs : List Loc) (ls : Array Slot) (x1 : Int32) (x2 : Int32) (x3 : Int32) (x4 : Int32) (x5 : Int32) (x6 : Int32) (x7 : Int32) (x8 : Int32) (x9 : Int32) (σ : St), v = f_Mo_linear_213 (f_Mo_linear_120 n120) x1 x2 x3 x4 x5 x6 x7 x8 x9 σ → k_Mo_linear_213 (k_Mo_linear_120 n120) x1 x2 x3 x4 x5 x6 x7 x8 x9 σ → lv_has ls 11 [(0, .ref (h 0)), (1, .int x1), (2, .int x2), (3, .int x3), (4, .int x4), (5, .int x5), (6, .int x6), (7, .int x7), (8, .int x8), (9, .int x9)] → va_P D classes (Wm ty h σ px) H → va_D A (Wm ty h σ px) → va_S A s.heap H locs → W p l e (headSpec w_Mo_linear rm_Mo_linear).room s m args below meth c H locs 0 0 (MQ below (va_Qi (fun r (u : St) => (r, u) = v) (fun u t => va_P D classes (Wm ty h u px) t.heap) A) args s 0 0 A) (F0 m 213 ls []) := by
        intro H locs ls x1 x2 x3 x4 x5 x6 x7 x8 x9 σ hv hk hl hP hD hS
        unfold f_Mo_linear_213 at hv
        unfold k_Mo_linear_213 at hk
        refine lv_aload_n hx hb d_Mo_linear_213 rfl (lv_at hl 0 rfl) ?_
        refine lv_iload_n hx hb d_Mo_linear_214 rfl (lv_at hl 3 rfl) ?_
        refine lv_iload hx hb d_Mo_linear_215 (lv_at hl 6 rfl) ?_
        refine lv_iload hx hb d_Mo_linear_217 (lv_at hl 9 rfl) ?_
        obtain ⟨hk0, hk⟩ := hk
        refine va_callv (va_runV (As := [.int x3, .int x6, .int x9]) (rest := []) ⟨hx, hb, hml, hown, hg⟩ (c_Mo_addExcess l D ty h px sa σ H.size x3 x6 x9 hk0) ⟨callB_of 3 hg (gw_C m_1603) rfl rfl rfl (hg _ m_13) (hg _ m_1600) hd_Mo_addExcess ⟨Nat.le_of_ble_eq_true rfl, Nat.le_of_ble_eq_true rfl⟩, hg _ m_1602, hg _ ms_76⟩ (zz_preVW hM hS hA hN hK hP hD 0 rfl rfl) rfl rfl hl.1 rfl (lv_room (Nat.le_of_ble_eq_true rfl)) d_Mo_linear_219 ⟨Nat.le_of_ble_eq_true rfl, Nat.le_of_ble_eq_true rfl⟩) hS (fun q _ h => zz_free hD hS hA q h) (zz_free hD hS hA) (fun u219 t H locs ht hvm hp hP1 hz hk1 hS => ?_)
        rw [ht] at hP1
        rw [← hp] at hv hk
        have hD : va_D A (Wm ty h u219 px) := zz_D hD rfl
        have hP := hP1
        exact B222 _ _ _ x1 x2 x3 x4 x5 x6 x7 x8 x9 u219 hv hk (lv_sub hl [0, 1, 2, 3, 4, 5, 6, 7, 8, 9] rfl) hP hD hS
      have B204 : ∀ (H : Heap) (locs : List Loc) (ls : Array Slot) (x1 : Int32) (x2 : Int32) (x3 : Int32) (x4 : Int32) (x5 : Int32) (x6 : Int32) (x7 : Int32) (x8 : Int32) (x9 : Int32) (σ : St), v = f_Mo_linear_204 (f_Mo_linear_120 n120) x1 x2 x3 x4 x5 x6 x7 x8 x9 σ → k_Mo_linear_204 (k_Mo_linear_120 n120) x1 x2 x3 x4 x5 x6 x7 x8 x9 σ → lv_has ls 11 [(0, .ref (h 0)), (1, .int x1), (2, .int x2), (3, .int x3), (4, .int x4), (5, .int x5), (6, .int x6), (7, .int x7), (8, .int x8), (9, .int x9)] → va_P D classes (Wm ty h σ px) H → va_D A (Wm ty h σ px) → va_S A s.heap H locs → W p l e (headSpec w_Mo_linear rm_Mo_linear).room s m args below meth c H locs 0 0 (MQ below (va_Qi (fun r (u : St) => (r, u) = v) (fun u t => va_P D classes (Wm ty h u px) t.heap) A) args s 0 0 A) (F0 m 204 ls []) := by
        intro H locs ls x1 x2 x3 x4 x5 x6 x7 x8 x9 σ hv hk hl hP hD hS
        unfold f_Mo_linear_204 at hv
        unfold k_Mo_linear_204 at hk
        refine lv_aload_n hx hb d_Mo_linear_204 rfl (lv_at hl 0 rfl) ?_
        refine lv_iload_n hx hb d_Mo_linear_205 rfl (lv_at hl 2 rfl) ?_
        refine lv_iload hx hb d_Mo_linear_206 (lv_at hl 5 rfl) ?_
        refine lv_iload hx hb d_Mo_linear_208 (lv_at hl 9 rfl) ?_
        obtain ⟨hk0, hk⟩ := hk
        refine va_callv (va_runV (As := [.int x2, .int x5, .int x9]) (rest := []) ⟨hx, hb, hml, hown, hg⟩ (c_Mo_addExcess l D ty h px sa σ H.size x2 x5 x9 hk0) ⟨callB_of 3 hg (gw_C m_1603) rfl rfl rfl (hg _ m_13) (hg _ m_1600) hd_Mo_addExcess ⟨Nat.le_of_ble_eq_true rfl, Nat.le_of_ble_eq_true rfl⟩, hg _ m_1602, hg _ ms_76⟩ (zz_preVW hM hS hA hN hK hP hD 0 rfl rfl) rfl rfl hl.1 rfl (lv_room (Nat.le_of_ble_eq_true rfl)) d_Mo_linear_210 ⟨Nat.le_of_ble_eq_true rfl, Nat.le_of_ble_eq_true rfl⟩) hS (fun q _ h => zz_free hD hS hA q h) (zz_free hD hS hA) (fun u210 t H locs ht hvm hp hP1 hz hk1 hS => ?_)
        rw [ht] at hP1
        rw [← hp] at hv hk
        have hD : va_D A (Wm ty h u210 px) := zz_D hD rfl
        have hP := hP1
        exact B213 _ _ _ x1 x2 x3 x4 x5 x6 x7 x8 x9 u210 hv hk (lv_sub hl [0, 1, 2, 3, 4, 5, 6, 7, 8, 9] rfl) hP hD hS
      have B195 : ∀ (H : Heap) (locs : List Loc) (ls : Array Slot) (x1 : Int32) (x2 : Int32) (x3 : Int32) (x4 : Int32) (x5 : Int32) (x6 : Int32) (x7 : Int32) (x8 : Int32) (x9 : Int32) (σ : St), v = f_Mo_linear_195 (f_Mo_linear_120 n120) x1 x2 x3 x4 x5 x6 x7 x8 x9 σ → k_Mo_linear_195 (k_Mo_linear_120 n120) x1 x2 x3 x4 x5 x6 x7 x8 x9 σ → lv_has ls 11 [(0, .ref (h 0)), (1, .int x1), (2, .int x2), (3, .int x3), (4, .int x4), (5, .int x5), (6, .int x6), (7, .int x7), (8, .int x8), (9, .int x9)] → va_P D classes (Wm ty h σ px) H → va_D A (Wm ty h σ px) → va_S A s.heap H locs → W p l e (headSpec w_Mo_linear rm_Mo_linear).room s m args below meth c H locs 0 0 (MQ below (va_Qi (fun r (u : St) => (r, u) = v) (fun u t => va_P D classes (Wm ty h u px) t.heap) A) args s 0 0 A) (F0 m 195 ls []) := by
        intro H locs ls x1 x2 x3 x4 x5 x6 x7 x8 x9 σ hv hk hl hP hD hS
        unfold f_Mo_linear_195 at hv
        unfold k_Mo_linear_195 at hk
        refine lv_aload_n hx hb d_Mo_linear_195 rfl (lv_at hl 0 rfl) ?_
        refine lv_iload_n hx hb d_Mo_linear_196 rfl (lv_at hl 1 rfl) ?_
        refine lv_iload hx hb d_Mo_linear_197 (lv_at hl 4 rfl) ?_
        refine lv_iload hx hb d_Mo_linear_199 (lv_at hl 9 rfl) ?_
        obtain ⟨hk0, hk⟩ := hk
        refine va_callv (va_runV (As := [.int x1, .int x4, .int x9]) (rest := []) ⟨hx, hb, hml, hown, hg⟩ (c_Mo_addExcess l D ty h px sa σ H.size x1 x4 x9 hk0) ⟨callB_of 3 hg (gw_C m_1603) rfl rfl rfl (hg _ m_13) (hg _ m_1600) hd_Mo_addExcess ⟨Nat.le_of_ble_eq_true rfl, Nat.le_of_ble_eq_true rfl⟩, hg _ m_1602, hg _ ms_76⟩ (zz_preVW hM hS hA hN hK hP hD 0 rfl rfl) rfl rfl hl.1 rfl (lv_room (Nat.le_of_ble_eq_true rfl)) d_Mo_linear_201 ⟨Nat.le_of_ble_eq_true rfl, Nat.le_of_ble_eq_true rfl⟩) hS (fun q _ h => zz_free hD hS hA q h) (zz_free hD hS hA) (fun u201 t H locs ht hvm hp hP1 hz hk1 hS => ?_)
        rw [ht] at hP1
        rw [← hp] at hv hk
        have hD : va_D A (Wm ty h u201 px) := zz_D hD rfl
        have hP := hP1
        exact B204 _ _ _ x1 x2 x3 x4 x5 x6 x7 x8 x9 u201 hv hk (lv_sub hl [0, 1, 2, 3, 4, 5, 6, 7, 8, 9] rfl) hP hD hS
      have B190 : ∀ (H : Heap) (locs : List Loc) (ls : Array Slot) (x1 : Int32) (x2 : Int32) (x3 : Int32) (x4 : Int32) (x5 : Int32) (x6 : Int32) (x7 : Int32) (x8 : Int32) (x9 : Int32) (σ : St), v = f_Mo_linear_190 (f_Mo_linear_120 n120) x1 x2 x3 x4 x5 x6 x7 x8 x9 σ → k_Mo_linear_190 (k_Mo_linear_120 n120) x1 x2 x3 x4 x5 x6 x7 x8 x9 σ → lv_has ls 11 [(0, .ref (h 0)), (1, .int x1), (2, .int x2), (3, .int x3), (4, .int x4), (5, .int x5), (6, .int x6), (7, .int x7), (8, .int x8), (9, .int x9)] → va_P D classes (Wm ty h σ px) H → va_D A (Wm ty h σ px) → va_S A s.heap H locs → W p l e (headSpec w_Mo_linear rm_Mo_linear).room s m args below meth c H locs 0 0 (MQ below (va_Qi (fun r (u : St) => (r, u) = v) (fun u t => va_P D classes (Wm ty h u px) t.heap) A) args s 0 0 A) (F0 m 190 ls []) := by
        intro H locs ls x1 x2 x3 x4 x5 x6 x7 x8 x9 σ hv hk hl hP hD hS
        unfold f_Mo_linear_190 at hv
        unfold k_Mo_linear_190 at hk
        refine lv_aload_n hx hb d_Mo_linear_190 rfl (lv_at hl 0 rfl) ?_
        refine lv_lconst (v := 1) hx hb d_Mo_linear_191 (by decide) ?_
        refine va_put (v := .long 1) (ty := .long) (C := R_Mo) (T := T_Mo) (N := 51) hx hb hg in_Mo ty_Mo ok_Mo nm_Mo hown hK hP hD hS 0 rfl rfl 50 (by decide) (hg _ m_1309) (fun _ h9 => h9) rfl (by decide +kernel) rfl rfl (Nat.le_of_ble_eq_true rfl) d_Mo_linear_192 (fun H locs hP hD hS => ?_)
        have hP : va_P D classes (Wm ty h (sG σ 0 50 1) px) H := hP
        have hD : va_D A (Wm ty h (sG σ 0 50 1) px) := hD
        exact B195 _ _ _ x1 x2 x3 x4 x5 x6 x7 x8 x9 (sG σ 0 50 1) hv hk (lv_sub hl [0, 1, 2, 3, 4, 5, 6, 7, 8, 9] rfl) hP hD hS
      have B168 : ∀ (H : Heap) (locs : List Loc) (ls : Array Slot) (x1 : Int32) (x2 : Int32) (x3 : Int32) (x4 : Int32) (x5 : Int32) (x6 : Int32) (x7 : Int32) (x8 : Int32) (x9 : Int32) (s0 : Int32) (σ : St), v = f_Mo_linear_168 (f_Mo_linear_120 n120) x1 x2 x3 x4 x5 x6 x7 x8 x9 s0 σ → k_Mo_linear_168 (k_Mo_linear_120 n120) x1 x2 x3 x4 x5 x6 x7 x8 x9 s0 σ → lv_has ls 11 [(0, .ref (h 0)), (1, .int x1), (2, .int x2), (3, .int x3), (4, .int x4), (5, .int x5), (6, .int x6), (7, .int x7), (8, .int x8), (9, .int x9)] → va_P D classes (Wm ty h σ px) H → va_D A (Wm ty h σ px) → va_S A s.heap H locs → W p l e (headSpec w_Mo_linear rm_Mo_linear).room s m args below meth c H locs 0 0 (MQ below (va_Qi (fun r (u : St) => (r, u) = v) (fun u t => va_P D classes (Wm ty h u px) t.heap) A) args s 0 0 A) (F0 m 168 ls [.int s0]) := by
        intro H locs ls x1 x2 x3 x4 x5 x6 x7 x8 x9 s0 σ hv hk hl hP hD hS
        unfold f_Mo_linear_168 at hv
        unfold k_Mo_linear_168 at hk
        refine lv_istore (lv' := [(10, .int s0), (0, .ref (h 0)), (1, .int x1), (2, .int x2), (3, .int x3), (4, .int x4), (5, .int x5), (6, .int x6), (7, .int x7), (8, .int x8), (9, .int x9)]) hx hb d_Mo_linear_168 hl (by decide) rfl (fun ls hl => ?_)
        refine lv_iload hx hb d_Mo_linear_170 (lv_at hl 0 rfl) ?_
        refine lv_if_eq (tgt := 248) hx hb d_Mo_linear_172 (by decide) (fun hc => ?_) (fun hc => ?_)
        · have hv := hv.trans (if_pos hc)
          have hk := hk.1 hc
          exact B248 _ _ _ x1 x2 x3 x4 x5 x6 x7 x8 x9 σ hv hk (lv_sub hl [1, 2, 3, 4, 5, 6, 7, 8, 9, 10] rfl) hP hD hS
        · have hv := hv.trans (if_neg hc)
          have hk := hk.2 hc
          refine lv_aload_n hx hb d_Mo_linear_175 rfl (lv_at hl 1 rfl) ?_
          refine va_get (v := .int (σ.1 0 45)) (C := R_Mo) (T := T_Mo) (N := 51) hx hb hg in_Mo hown hK hP 0 rfl rfl 45 (by decide) (hg _ m_1304) (fun _ h9 => h9) rfl d_Mo_linear_176 ?_
          refine lv_if_eq (tgt := 185) hx hb d_Mo_linear_179 (by decide) (fun hc => ?_) (fun hc => ?_)
          · have hv := hv.trans (if_pos hc)
            have hk := hk.1 hc
            refine lv_aload_n hx hb d_Mo_linear_185 rfl (lv_at hl 1 rfl) ?_
            refine lv_lconst (v := 0) hx hb d_Mo_linear_186 (by decide) ?_
            refine va_put (v := .long 0) (ty := .long) (C := R_Mo) (T := T_Mo) (N := 51) hx hb hg in_Mo ty_Mo ok_Mo nm_Mo hown hK hP hD hS 0 rfl rfl 49 (by decide) (hg _ m_1308) (fun _ h9 => h9) rfl (by decide +kernel) rfl rfl (Nat.le_of_ble_eq_true rfl) d_Mo_linear_187 (fun H locs hP hD hS => ?_)
            have hP : va_P D classes (Wm ty h (sG σ 0 49 0) px) H := hP
            have hD : va_D A (Wm ty h (sG σ 0 49 0) px) := hD
            exact B190 _ _ _ x1 x2 x3 x4 x5 x6 x7 x8 x9 (sG σ 0 49 0) hv hk (lv_sub hl [1, 2, 3, 4, 5, 6, 7, 8, 9, 10] rfl) hP hD hS
          · have hv := hv.trans (if_neg hc)
            have hk := hk.2 hc
            refine lv_goto (tgt := 248) hx hb d_Mo_linear_182 (by decide) ?_
            exact B248 _ _ _ x1 x2 x3 x4 x5 x6 x7 x8 x9 σ hv hk (lv_sub hl [1, 2, 3, 4, 5, 6, 7, 8, 9, 10] rfl) hP hD hS
      have B163 : ∀ (H : Heap) (locs : List Loc) (ls : Array Slot) (x1 : Int32) (x2 : Int32) (x3 : Int32) (x4 : Int32) (x5 : Int32) (x6 : Int32) (x7 : Int32) (x8 : Int32) (x9 : Int32) (σ : St), v = f_Mo_linear_163 (f_Mo_linear_120 n120) x1 x2 x3 x4 x5 x6 x7 x8 x9 σ → k_Mo_linear_163 (k_Mo_linear_120 n120) x1 x2 x3 x4 x5 x6 x7 x8 x9 σ → lv_has ls 11 [(0, .ref (h 0)), (1, .int x1), (2, .int x2), (3, .int x3), (4, .int x4), (5, .int x5), (6, .int x6), (7, .int x7), (8, .int x8), (9, .int x9)] → va_P D classes (Wm ty h σ px) H → va_D A (Wm ty h σ px) → va_S A s.heap H locs → W p l e (headSpec w_Mo_linear rm_Mo_linear).room s m args below meth c H locs 0 0 (MQ below (va_Qi (fun r (u : St) => (r, u) = v) (fun u t => va_P D classes (Wm ty h u px) t.heap) A) args s 0 0 A) (F0 m 163 ls []) := by
        intro H locs ls x1 x2 x3 x4 x5 x6 x7 x8 x9 σ hv hk hl hP hD hS
        unfold f_Mo_linear_163 at hv
        unfold k_Mo_linear_163 at hk
        refine lv_iconst (v := 1) hx hb d_Mo_linear_163 (by decide) ?_
        refine lv_goto (tgt := 168) hx hb d_Mo_linear_164 (by decide) ?_
        exact B168 _ _ _ x1 x2 x3 x4 x5 x6 x7 x8 x9 1 σ hv hk (lv_sub hl [0, 1, 2, 3, 4, 5, 6, 7, 8, 9] rfl) hP hD hS
      have B167 : ∀ (H : Heap) (locs : List Loc) (ls : Array Slot) (x1 : Int32) (x2 : Int32) (x3 : Int32) (x4 : Int32) (x5 : Int32) (x6 : Int32) (x7 : Int32) (x8 : Int32) (x9 : Int32) (σ : St), v = f_Mo_linear_167 (f_Mo_linear_120 n120) x1 x2 x3 x4 x5 x6 x7 x8 x9 σ → k_Mo_linear_167 (k_Mo_linear_120 n120) x1 x2 x3 x4 x5 x6 x7 x8 x9 σ → lv_has ls 11 [(0, .ref (h 0)), (1, .int x1), (2, .int x2), (3, .int x3), (4, .int x4), (5, .int x5), (6, .int x6), (7, .int x7), (8, .int x8), (9, .int x9)] → va_P D classes (Wm ty h σ px) H → va_D A (Wm ty h σ px) → va_S A s.heap H locs → W p l e (headSpec w_Mo_linear rm_Mo_linear).room s m args below meth c H locs 0 0 (MQ below (va_Qi (fun r (u : St) => (r, u) = v) (fun u t => va_P D classes (Wm ty h u px) t.heap) A) args s 0 0 A) (F0 m 167 ls []) := by
        intro H locs ls x1 x2 x3 x4 x5 x6 x7 x8 x9 σ hv hk hl hP hD hS
        unfold f_Mo_linear_167 at hv
        unfold k_Mo_linear_167 at hk
        refine lv_iconst (v := 0) hx hb d_Mo_linear_167 (by decide) ?_
        exact B168 _ _ _ x1 x2 x3 x4 x5 x6 x7 x8 x9 0 σ hv hk (lv_sub hl [0, 1, 2, 3, 4, 5, 6, 7, 8, 9] rfl) hP hD hS
      intro H locs ls x1 x2 x3 x4 x5 x6 x7 x8 x9 σ hv hk hl hP hD hS
      rw [f_Mo_linear_120] at hv
      rw [k_Mo_linear_120] at hk
      refine lv_iload hx hb d_Mo_linear_120 (lv_at hl 9 rfl) ?_
      refine lv_iconst (v := -1) hx hb d_Mo_linear_122 (by decide) ?_
      refine lv_icmp_lt (tgt := 254) hx hb d_Mo_linear_123 (by decide) (fun hc => ?_) (fun hc => ?_)
      · have hv := hv.trans (if_pos hc)
        have hk := hk.1 hc
        refine lv_aload_n hx hb d_Mo_linear_254 rfl (lv_at hl 0 rfl) ?_
        refine va_get (v := .int (σ.1 0 45)) (C := R_Mo) (T := T_Mo) (N := 51) hx hb hg in_Mo hown hK hP 0 rfl rfl 45 (by decide) (hg _ m_1304) (fun _ h9 => h9) rfl d_Mo_linear_255 ?_
        refine lv_if_eq (tgt := 269) hx hb d_Mo_linear_258 (by decide) (fun hc => ?_) (fun hc => ?_)
        · have hv := hv.trans (if_pos hc)
          have hk := hk.1 hc
          refine lv_aload_n hx hb d_Mo_linear_269 rfl (lv_at hl 0 rfl) ?_
          refine va_get (v := .ref (h 5)) (C := R_Mo) (T := T_Mo) (N := 51) hx hb hg in_Mo hown hK hP 0 rfl rfl 10 (by decide) (hg _ m_1269) (fun _ h9 => h9) rfl d_Mo_linear_270 ?_
          refine lv_iload_n hx hb d_Mo_linear_273 rfl (lv_at hl 1 rfl) ?_
          obtain ⟨hk0, hk⟩ := hk
          refine va_iald hx hb hK hP 5 0 rfl rfl hk0 d_Mo_linear_274 ?_
          refine lv_bipush (v := 6) hx hb d_Mo_linear_275 (by decide) ?_
          refine lv_icmp_ne (tgt := 285) hx hb d_Mo_linear_277 (by decide) (fun hc => ?_) (fun hc => ?_)
          · have hv := hv.trans (if_neg hc)
            have hk := hk.2 hc
            exact B285 _ _ _ x1 x2 x3 x5 x6 x7 x8 σ hv hk (lv_sub hl [0, 1, 2, 3, 5, 6, 7, 8] rfl) hP hD hS
          · have hv := hv.trans (if_pos hc)
            have hk := hk.1 hc
            refine lv_iload hx hb d_Mo_linear_280 (lv_at hl 4 rfl) ?_
            refine lv_if_gt (tgt := 325) hx hb d_Mo_linear_282 (by decide) (fun hc => ?_) (fun hc => ?_)
            · have hv := hv.trans (if_pos hc)
              have hk := hk.1 hc
              exact B325 _ _ _ x1 x2 x3 x7 x8 σ hv hk (lv_sub hl [0, 1, 2, 3, 7, 8] rfl) hP hD hS
            · have hv := hv.trans (if_neg hc)
              have hk := hk.2 hc
              exact B285 _ _ _ x1 x2 x3 x5 x6 x7 x8 σ hv hk (lv_sub hl [0, 1, 2, 3, 5, 6, 7, 8] rfl) hP hD hS
        · have hv := hv.trans (if_neg hc)
          have hk := hk.2 hc
          refine lv_aload_n hx hb d_Mo_linear_261 rfl (lv_at hl 0 rfl) ?_
          refine lv_iconst (v := 3) hx hb d_Mo_linear_262 (by decide) ?_
          refine lv_iload hx hb d_Mo_linear_263 (lv_at hl 7 rfl) ?_
          obtain ⟨hk0, hk⟩ := hk
          refine va_calli (va_runV (As := [.int 3, .int x7]) (rest := []) ⟨hx, hb, hml, hown, hg⟩ (c_Mo_fails l D ty h px sa σ H.size 3 x7 hk0) ⟨callB_of 2 hg (gw_C m_1507) rfl rfl rfl (hg _ m_13) (hg _ m_1504) hd_Mo_fails ⟨Nat.le_of_ble_eq_true rfl, Nat.le_of_ble_eq_true rfl⟩, hg _ m_1506, hg _ ms_62⟩ (zz_preVW hM hS hA hN hK hP hD 0 rfl rfl) rfl rfl hl.1 rfl (lv_room (Nat.le_of_ble_eq_true rfl)) d_Mo_linear_265 ⟨Nat.le_of_ble_eq_true rfl, Nat.le_of_ble_eq_true rfl⟩) hS (fun q _ h => zz_free hD hS hA q h) (zz_free hD hS hA) (fun r265 u265 t H locs ht hvm hp hP1 hz hk1 hS => ?_)
          rw [ht] at hP1
          rw [← hp] at hv hk
          have hD : va_D A (Wm ty h u265 px) := zz_D hD rfl
          have hP := hP1
          exact B268 _ _ _ r265 u265 hv hk (lv_sub hl [] rfl) hP hD hS
      · have hv := hv.trans (if_neg hc)
        have hk := hk.2 hc
        refine lv_iload hx hb d_Mo_linear_126 (lv_at hl 9 rfl) ?_
        refine lv_if_lt (tgt := 163) hx hb d_Mo_linear_128 (by decide) (fun hc => ?_) (fun hc => ?_)
        · have hv := hv.trans (if_pos hc)
          have hk := hk.1 hc
          exact B163 _ _ _ x1 x2 x3 x4 x5 x6 x7 x8 x9 σ hv hk (lv_sub hl [0, 1, 2, 3, 4, 5, 6, 7, 8, 9] rfl) hP hD hS
        · have hv := hv.trans (if_neg hc)
          have hk := hk.2 hc
          refine lv_aload_n hx hb d_Mo_linear_131 rfl (lv_at hl 0 rfl) ?_
          refine va_get (v := .ref (h 6)) (C := R_Mo) (T := T_Mo) (N := 51) hx hb hg in_Mo hown hK hP 0 rfl rfl 11 (by decide) (hg _ m_1270) (fun _ h9 => h9) rfl d_Mo_linear_132 ?_
          refine lv_iload hx hb d_Mo_linear_135 (lv_at hl 9 rfl) ?_
          obtain ⟨hk0, hk⟩ := hk
          refine va_iald hx hb hK hP 6 0 rfl rfl hk0 d_Mo_linear_137 ?_
          refine lv_iconst (v := 1) hx hb d_Mo_linear_138 (by decide) ?_
          refine lv_icmp_ne (tgt := 167) hx hb d_Mo_linear_139 (by decide) (fun hc => ?_) (fun hc => ?_)
          · have hv := hv.trans (if_neg hc)
            have hk := hk.2 hc
            exact B167 _ _ _ x1 x2 x3 x4 x5 x6 x7 x8 x9 σ hv hk (lv_sub hl [0, 1, 2, 3, 4, 5, 6, 7, 8, 9] rfl) hP hD hS
          · have hv := hv.trans (if_pos hc)
            have hk := hk.1 hc
            refine lv_aload_n hx hb d_Mo_linear_142 rfl (lv_at hl 0 rfl) ?_
            refine va_get (v := .ref (h 5)) (C := R_Mo) (T := T_Mo) (N := 51) hx hb hg in_Mo hown hK hP 0 rfl rfl 10 (by decide) (hg _ m_1269) (fun _ h9 => h9) rfl d_Mo_linear_143 ?_
            refine lv_iload hx hb d_Mo_linear_146 (lv_at hl 9 rfl) ?_
            obtain ⟨hk0, hk⟩ := hk
            refine va_iald hx hb hK hP 5 0 rfl rfl hk0 d_Mo_linear_148 ?_
            refine lv_if_eq (tgt := 163) hx hb d_Mo_linear_149 (by decide) (fun hc => ?_) (fun hc => ?_)
            · have hv := hv.trans (if_pos hc)
              have hk := hk.1 hc
              exact B163 _ _ _ x1 x2 x3 x4 x5 x6 x7 x8 x9 σ hv hk (lv_sub hl [0, 1, 2, 3, 4, 5, 6, 7, 8, 9] rfl) hP hD hS
            · have hv := hv.trans (if_neg hc)
              have hk := hk.2 hc
              refine lv_aload_n hx hb d_Mo_linear_152 rfl (lv_at hl 0 rfl) ?_
              refine va_get (v := .ref (h 5)) (C := R_Mo) (T := T_Mo) (N := 51) hx hb hg in_Mo hown hK hP 0 rfl rfl 10 (by decide) (hg _ m_1269) (fun _ h9 => h9) rfl d_Mo_linear_153 ?_
              refine lv_iload hx hb d_Mo_linear_156 (lv_at hl 9 rfl) ?_
              obtain ⟨hk0, hk⟩ := hk
              refine va_iald hx hb hK hP 5 0 rfl rfl hk0 d_Mo_linear_158 ?_
              refine lv_iconst (v := 1) hx hb d_Mo_linear_159 (by decide) ?_
              refine lv_icmp_ne (tgt := 167) hx hb d_Mo_linear_160 (by decide) (fun hc => ?_) (fun hc => ?_)
              · have hv := hv.trans (if_neg hc)
                have hk := hk.2 hc
                exact B167 _ _ _ x1 x2 x3 x4 x5 x6 x7 x8 x9 σ hv hk (lv_sub hl [0, 1, 2, 3, 4, 5, 6, 7, 8, 9] rfl) hP hD hS
              · have hv := hv.trans (if_pos hc)
                have hk := hk.1 hc
                exact B163 _ _ _ x1 x2 x3 x4 x5 x6 x7 x8 x9 σ hv hk (lv_sub hl [0, 1, 2, 3, 4, 5, 6, 7, 8, 9] rfl) hP hD hS
  have B112 : ∀ (H : Heap) (locs : List Loc) (ls : Array Slot) (x1 : Int32) (x2 : Int32) (x3 : Int32) (x4 : Int32) (x5 : Int32) (x6 : Int32) (x7 : Int32) (x8 : Int32) (σ : St), v = f_Mo_linear_112 x1 x2 x3 x4 x5 x6 x7 x8 σ → k_Mo_linear_112 x1 x2 x3 x4 x5 x6 x7 x8 σ → lv_has ls 11 [(0, .ref (h 0)), (1, .int x1), (2, .int x2), (3, .int x3), (4, .int x4), (5, .int x5), (6, .int x6), (7, .int x7), (8, .int x8)] → va_P D classes (Wm ty h σ px) H → va_D A (Wm ty h σ px) → va_S A s.heap H locs → W p l e (headSpec w_Mo_linear rm_Mo_linear).room s m args below meth c H locs 0 0 (MQ below (va_Qi (fun r (u : St) => (r, u) = v) (fun u t => va_P D classes (Wm ty h u px) t.heap) A) args s 0 0 A) (F0 m 112 ls []) := by
    intro H locs ls x1 x2 x3 x4 x5 x6 x7 x8 σ hv hk hl hP hD hS
    unfold f_Mo_linear_112 at hv
    unfold k_Mo_linear_112 at hk
    refine lv_aload_n hx hb d_Mo_linear_112 rfl (lv_at hl 0 rfl) ?_
    refine va_get (v := .int (σ.1 0 9)) (C := R_Mo) (T := T_Mo) (N := 51) hx hb hg in_Mo hown hK hP 0 rfl rfl 9 (by decide) (hg _ m_1268) (fun _ h9 => h9) rfl d_Mo_linear_113 ?_
    refine lv_iconst (v := 1) hx hb d_Mo_linear_116 (by decide) ?_
    refine lv_isub hx hb d_Mo_linear_117 ?_
    refine lv_istore (lv' := [(9, .int ((σ.1 0 9) - 1)), (0, .ref (h 0)), (1, .int x1), (2, .int x2), (3, .int x3), (4, .int x4), (5, .int x5), (6, .int x6), (7, .int x7), (8, .int x8)]) hx hb d_Mo_linear_118 hl (by decide) rfl (fun ls hl => ?_)
    exact B120 1000 _ _ _ x1 x2 x3 x4 x5 x6 x7 x8 ((σ.1 0 9) - 1) σ hv hk (lv_sub hl [1, 2, 3, 4, 5, 6, 7, 8, 9, 0] rfl) hP hD hS
  have B66 : ∀ (H : Heap) (locs : List Loc) (ls : Array Slot) (x1 : Int32) (x2 : Int32) (x3 : Int32) (x4 : Int32) (x5 : Int32) (x6 : Int32) (x7 : Int32) (σ : St), v = f_Mo_linear_66 x1 x2 x3 x4 x5 x6 x7 σ → k_Mo_linear_66 x1 x2 x3 x4 x5 x6 x7 σ → lv_has ls 11 [(0, .ref (h 0)), (1, .int x1), (2, .int x2), (3, .int x3), (4, .int x4), (5, .int x5), (6, .int x6), (7, .int x7)] → va_P D classes (Wm ty h σ px) H → va_D A (Wm ty h σ px) → va_S A s.heap H locs → W p l e (headSpec w_Mo_linear rm_Mo_linear).room s m args below meth c H locs 0 0 (MQ below (va_Qi (fun r (u : St) => (r, u) = v) (fun u t => va_P D classes (Wm ty h u px) t.heap) A) args s 0 0 A) (F0 m 66 ls []) := by
    intro H locs ls x1 x2 x3 x4 x5 x6 x7 σ hv hk hl hP hD hS
    unfold f_Mo_linear_66 at hv
    unfold k_Mo_linear_66 at hk
    refine lv_aload_n hx hb d_Mo_linear_66 rfl (lv_at hl 0 rfl) ?_
    refine lv_iload_n hx hb d_Mo_linear_67 rfl (lv_at hl 1 rfl) ?_
    refine lv_iload hx hb d_Mo_linear_68 (lv_at hl 4 rfl) ?_
    obtain ⟨hk0, hk⟩ := hk
    refine zz_callV (va_runV (As := [.int x1, .int x4]) (rest := []) ⟨hx, hb, hml, hown, hg⟩ (c_Mo_formed l D ty h px sa σ x1 x4 hk0) ⟨callB_of 2 hg (gw_C m_1599) rfl rfl rfl (hg _ m_13) (hg _ m_1596) hd_Mo_formed ⟨Nat.le_of_ble_eq_true rfl, Nat.le_of_ble_eq_true rfl⟩, hg _ m_1598, hg _ ms_75⟩ (zz_preV (hM.at hS) hN hK hP 0 rfl rfl) rfl rfl hl.1 rfl (lv_room (Nat.le_of_ble_eq_true rfl)) d_Mo_linear_70 ⟨Nat.le_of_ble_eq_true rfl, Nat.le_of_ble_eq_true rfl⟩) ?_
    refine lv_if_eq (tgt := 96) hx hb d_Mo_linear_73 (by decide) (fun hc => ?_) (fun hc => ?_)
    · have hv := hv.trans (if_pos hc)
      have hk := hk.1 hc
      exact B96 _ _ _ x7 σ hv hk (lv_sub hl [0, 7] rfl) hP hD hS
    · have hv := hv.trans (if_neg hc)
      have hk := hk.2 hc
      refine lv_aload_n hx hb d_Mo_linear_76 rfl (lv_at hl 0 rfl) ?_
      refine lv_iload_n hx hb d_Mo_linear_77 rfl (lv_at hl 2 rfl) ?_
      refine lv_iload hx hb d_Mo_linear_78 (lv_at hl 5 rfl) ?_
      obtain ⟨hk0, hk⟩ := hk
      refine zz_callV (va_runV (As := [.int x2, .int x5]) (rest := []) ⟨hx, hb, hml, hown, hg⟩ (c_Mo_formed l D ty h px sa σ x2 x5 hk0) ⟨callB_of 2 hg (gw_C m_1599) rfl rfl rfl (hg _ m_13) (hg _ m_1596) hd_Mo_formed ⟨Nat.le_of_ble_eq_true rfl, Nat.le_of_ble_eq_true rfl⟩, hg _ m_1598, hg _ ms_75⟩ (zz_preV (hM.at hS) hN hK hP 0 rfl rfl) rfl rfl hl.1 rfl (lv_room (Nat.le_of_ble_eq_true rfl)) d_Mo_linear_80 ⟨Nat.le_of_ble_eq_true rfl, Nat.le_of_ble_eq_true rfl⟩) ?_
      refine lv_if_eq (tgt := 96) hx hb d_Mo_linear_83 (by decide) (fun hc => ?_) (fun hc => ?_)
      · have hv := hv.trans (if_pos hc)
        have hk := hk.1 hc
        exact B96 _ _ _ x7 σ hv hk (lv_sub hl [0, 7] rfl) hP hD hS
      · have hv := hv.trans (if_neg hc)
        have hk := hk.2 hc
        refine lv_aload_n hx hb d_Mo_linear_86 rfl (lv_at hl 0 rfl) ?_
        refine lv_iload_n hx hb d_Mo_linear_87 rfl (lv_at hl 3 rfl) ?_
        refine lv_iload hx hb d_Mo_linear_88 (lv_at hl 6 rfl) ?_
        obtain ⟨hk0, hk⟩ := hk
        refine zz_callV (va_runV (As := [.int x3, .int x6]) (rest := []) ⟨hx, hb, hml, hown, hg⟩ (c_Mo_formed l D ty h px sa σ x3 x6 hk0) ⟨callB_of 2 hg (gw_C m_1599) rfl rfl rfl (hg _ m_13) (hg _ m_1596) hd_Mo_formed ⟨Nat.le_of_ble_eq_true rfl, Nat.le_of_ble_eq_true rfl⟩, hg _ m_1598, hg _ ms_75⟩ (zz_preV (hM.at hS) hN hK hP 0 rfl rfl) rfl rfl hl.1 rfl (lv_room (Nat.le_of_ble_eq_true rfl)) d_Mo_linear_90 ⟨Nat.le_of_ble_eq_true rfl, Nat.le_of_ble_eq_true rfl⟩) ?_
        refine lv_if_ne (tgt := 104) hx hb d_Mo_linear_93 (by decide) (fun hc => ?_) (fun hc => ?_)
        · have hv := hv.trans (if_neg hc)
          have hk := hk.2 hc
          refine lv_iconst (v := 0) hx hb d_Mo_linear_104 (by decide) ?_
          refine lv_istore (lv' := [(8, .int 0), (0, .ref (h 0)), (1, .int x1), (2, .int x2), (3, .int x3), (4, .int x4), (5, .int x5), (6, .int x6), (7, .int x7)]) hx hb d_Mo_linear_105 hl (by decide) rfl (fun ls hl => ?_)
          refine lv_aload_n hx hb d_Mo_linear_107 rfl (lv_at hl 1 rfl) ?_
          refine lv_iconst (v := 0) hx hb d_Mo_linear_108 (by decide) ?_
          refine va_put (v := .int 0) (ty := .boolean) (C := R_Mo) (T := T_Mo) (N := 51) hx hb hg in_Mo ty_Mo ok_Mo nm_Mo hown hK hP hD hS 0 rfl rfl 45 (by decide) (hg _ m_1304) (fun _ h9 => h9) rfl (by decide +kernel) rfl rfl (Nat.le_of_ble_eq_true rfl) d_Mo_linear_109 (fun H locs hP hD hS => ?_)
          have hP : va_P D classes (Wm ty h (sF σ 0 45 0) px) H := hP
          have hD : va_D A (Wm ty h (sF σ 0 45 0) px) := hD
          exact B112 _ _ _ x1 x2 x3 x4 x5 x6 x7 0 (sF σ 0 45 0) hv hk (lv_sub hl [1, 2, 3, 4, 5, 6, 7, 8, 0] rfl) hP hD hS
        · have hv := hv.trans (if_pos hc)
          have hk := hk.1 hc
          exact B96 _ _ _ x7 σ hv hk (lv_sub hl [0, 7] rfl) hP hD hS
  have B56 : ∀ (H : Heap) (locs : List Loc) (ls : Array Slot) (x1 : Int32) (x2 : Int32) (x3 : Int32) (x4 : Int32) (x5 : Int32) (x6 : Int32) (x7 : Int32) (σ : St), v = f_Mo_linear_56 x1 x2 x3 x4 x5 x6 x7 σ → k_Mo_linear_56 x1 x2 x3 x4 x5 x6 x7 σ → lv_has ls 11 [(0, .ref (h 0)), (1, .int x1), (2, .int x2), (3, .int x3), (4, .int x4), (5, .int x5), (6, .int x6), (7, .int x7)] → va_P D classes (Wm ty h σ px) H → va_D A (Wm ty h σ px) → va_S A s.heap H locs → W p l e (headSpec w_Mo_linear rm_Mo_linear).room s m args below meth c H locs 0 0 (MQ below (va_Qi (fun r (u : St) => (r, u) = v) (fun u t => va_P D classes (Wm ty h u px) t.heap) A) args s 0 0 A) (F0 m 56 ls []) := by
    intro H locs ls x1 x2 x3 x4 x5 x6 x7 σ hv hk hl hP hD hS
    unfold f_Mo_linear_56 at hv
    unfold k_Mo_linear_56 at hk
    refine lv_iload_n hx hb d_Mo_linear_56 rfl (lv_at hl 2 rfl) ?_
    refine lv_iconst (v := -1) hx hb d_Mo_linear_57 (by decide) ?_
    refine lv_icmp_ne (tgt := 66) hx hb d_Mo_linear_58 (by decide) (fun hc => ?_) (fun hc => ?_)
    · have hv := hv.trans (if_neg hc)
      have hk := hk.2 hc
      exact B66 _ _ _ x1 x2 x3 x4 x5 x6 x7 σ hv hk (lv_sub hl [0, 1, 2, 3, 4, 5, 6, 7] rfl) hP hD hS
    · have hv := hv.trans (if_pos hc)
      have hk := hk.1 hc
      refine lv_iload_n hx hb d_Mo_linear_61 rfl (lv_at hl 3 rfl) ?_
      refine lv_iconst (v := -1) hx hb d_Mo_linear_62 (by decide) ?_
      refine lv_icmp_ne (tgt := 96) hx hb d_Mo_linear_63 (by decide) (fun hc => ?_) (fun hc => ?_)
      · have hv := hv.trans (if_neg hc)
        have hk := hk.2 hc
        exact B96 _ _ _ x7 σ hv hk (lv_sub hl [0, 7] rfl) hP hD hS
      · have hv := hv.trans (if_pos hc)
        have hk := hk.1 hc
        exact B66 _ _ _ x1 x2 x3 x4 x5 x6 x7 σ hv hk (lv_sub hl [0, 1, 2, 3, 4, 5, 6, 7] rfl) hP hD hS
  have B35 : ∀ (H : Heap) (locs : List Loc) (ls : Array Slot) (x1 : Int32) (x2 : Int32) (x3 : Int32) (x4 : Int32) (x5 : Int32) (x6 : Int32) (x7 : Int32) (σ : St), v = f_Mo_linear_35 x1 x2 x3 x4 x5 x6 x7 σ → k_Mo_linear_35 x1 x2 x3 x4 x5 x6 x7 σ → lv_has ls 11 [(0, .ref (h 0)), (1, .int x1), (2, .int x2), (3, .int x3), (4, .int x4), (5, .int x5), (6, .int x6), (7, .int x7)] → va_P D classes (Wm ty h σ px) H → va_D A (Wm ty h σ px) → va_S A s.heap H locs → W p l e (headSpec w_Mo_linear rm_Mo_linear).room s m args below meth c H locs 0 0 (MQ below (va_Qi (fun r (u : St) => (r, u) = v) (fun u t => va_P D classes (Wm ty h u px) t.heap) A) args s 0 0 A) (F0 m 35 ls []) := by
    intro H locs ls x1 x2 x3 x4 x5 x6 x7 σ hv hk hl hP hD hS
    unfold f_Mo_linear_35 at hv
    unfold k_Mo_linear_35 at hk
    refine lv_iload_n hx hb d_Mo_linear_35 rfl (lv_at hl 3 rfl) ?_
    refine lv_iconst (v := -1) hx hb d_Mo_linear_36 (by decide) ?_
    refine lv_icmp_eq (tgt := 56) hx hb d_Mo_linear_37 (by decide) (fun hc => ?_) (fun hc => ?_)
    · have hv := hv.trans (if_pos hc)
      have hk := hk.1 hc
      exact B56 _ _ _ x1 x2 x3 x4 x5 x6 x7 σ hv hk (lv_sub hl [0, 1, 2, 3, 4, 5, 6, 7] rfl) hP hD hS
    · have hv := hv.trans (if_neg hc)
      have hk := hk.2 hc
      refine lv_aload_n hx hb d_Mo_linear_40 rfl (lv_at hl 0 rfl) ?_
      refine lv_iload_n hx hb d_Mo_linear_41 rfl (lv_at hl 3 rfl) ?_
      obtain ⟨hk0, hk⟩ := hk
      refine zz_callV (va_runV (As := [.int x3]) (rest := []) ⟨hx, hb, hml, hown, hg⟩ (c_Mo_isTerm l D ty h px sa σ x3 hk0) ⟨callB_of 1 hg (gw_C m_1519) rfl rfl rfl (hg _ m_13) (hg _ m_1516) hd_Mo_isTerm ⟨Nat.le_of_ble_eq_true rfl, Nat.le_of_ble_eq_true rfl⟩, hg _ m_1518, hg _ ms_64⟩ (zz_preV (hM.at hS) hN hK hP 0 rfl rfl) rfl rfl hl.1 rfl (lv_room (Nat.le_of_ble_eq_true rfl)) d_Mo_linear_42 ⟨Nat.le_of_ble_eq_true rfl, Nat.le_of_ble_eq_true rfl⟩) ?_
      refine lv_if_ne (tgt := 56) hx hb d_Mo_linear_45 (by decide) (fun hc => ?_) (fun hc => ?_)
      · have hv := hv.trans (if_neg hc)
        have hk := hk.2 hc
        exact B56 _ _ _ x1 x2 x3 x4 x5 x6 x7 σ hv hk (lv_sub hl [0, 1, 2, 3, 4, 5, 6, 7] rfl) hP hD hS
      · have hv := hv.trans (if_pos hc)
        have hk := hk.1 hc
        exact B48 _ _ _ x7 σ hv hk (lv_sub hl [0, 7] rfl) hP hD hS
  have B4 : ∀ (H : Heap) (locs : List Loc) (ls : Array Slot) (x1 : Int32) (x2 : Int32) (x3 : Int32) (x4 : Int32) (x5 : Int32) (x6 : Int32) (s0 : Int32) (σ : St), v = f_Mo_linear_4 x1 x2 x3 x4 x5 x6 s0 σ → k_Mo_linear_4 x1 x2 x3 x4 x5 x6 s0 σ → lv_has ls 11 [(0, .ref (h 0)), (1, .int x1), (2, .int x2), (3, .int x3), (4, .int x4), (5, .int x5), (6, .int x6)] → va_P D classes (Wm ty h σ px) H → va_D A (Wm ty h σ px) → va_S A s.heap H locs → W p l e (headSpec w_Mo_linear rm_Mo_linear).room s m args below meth c H locs 0 0 (MQ below (va_Qi (fun r (u : St) => (r, u) = v) (fun u t => va_P D classes (Wm ty h u px) t.heap) A) args s 0 0 A) (F0 m 4 ls [.int s0]) := by
    intro H locs ls x1 x2 x3 x4 x5 x6 s0 σ hv hk hl hP hD hS
    unfold f_Mo_linear_4 at hv
    unfold k_Mo_linear_4 at hk
    refine lv_if_eq (tgt := 9) hx hb d_Mo_linear_4 (by decide) (fun hc => ?_) (fun hc => ?_)
    · have hv := hv.trans (if_pos hc)
      have hk := hk.1 hc
      refine lv_sipush (v := 17185) hx hb d_Mo_linear_9 (by decide) ?_
      refine lv_istore (lv' := [(7, .int 17185), (0, .ref (h 0)), (1, .int x1), (2, .int x2), (3, .int x3), (4, .int x4), (5, .int x5), (6, .int x6)]) hx hb d_Mo_linear_12 hl (by decide) rfl (fun ls hl => ?_)
      refine lv_aload_n hx hb d_Mo_linear_14 rfl (lv_at hl 1 rfl) ?_
      refine lv_iload_n hx hb d_Mo_linear_15 rfl (lv_at hl 2 rfl) ?_
      obtain ⟨hk0, hk⟩ := hk
      refine zz_callV (va_runV (As := [.int x1]) (rest := []) ⟨hx, hb, hml, hown, hg⟩ (c_Mo_isTerm l D ty h px sa σ x1 hk0) ⟨callB_of 1 hg (gw_C m_1519) rfl rfl rfl (hg _ m_13) (hg _ m_1516) hd_Mo_isTerm ⟨Nat.le_of_ble_eq_true rfl, Nat.le_of_ble_eq_true rfl⟩, hg _ m_1518, hg _ ms_64⟩ (zz_preV (hM.at hS) hN hK hP 0 rfl rfl) rfl rfl hl.1 rfl (lv_room (Nat.le_of_ble_eq_true rfl)) d_Mo_linear_16 ⟨Nat.le_of_ble_eq_true rfl, Nat.le_of_ble_eq_true rfl⟩) ?_
      refine lv_if_eq (tgt := 48) hx hb d_Mo_linear_19 (by decide) (fun hc => ?_) (fun hc => ?_)
      · have hv := hv.trans (if_pos hc)
        have hk := hk.1 hc
        exact B48 _ _ _ 17185 σ hv hk (lv_sub hl [1, 0] rfl) hP hD hS
      · have hv := hv.trans (if_neg hc)
        have hk := hk.2 hc
        refine lv_iload_n hx hb d_Mo_linear_22 rfl (lv_at hl 3 rfl) ?_
        refine lv_iconst (v := -1) hx hb d_Mo_linear_23 (by decide) ?_
        refine lv_icmp_eq (tgt := 35) hx hb d_Mo_linear_24 (by decide) (fun hc => ?_) (fun hc => ?_)
        · have hv := hv.trans (if_pos hc)
          have hk := hk.1 hc
          exact B35 _ _ _ x1 x2 x3 x4 x5 x6 17185 σ hv hk (lv_sub hl [1, 2, 3, 4, 5, 6, 7, 0] rfl) hP hD hS
        · have hv := hv.trans (if_neg hc)
          have hk := hk.2 hc
          refine lv_aload_n hx hb d_Mo_linear_27 rfl (lv_at hl 1 rfl) ?_
          refine lv_iload_n hx hb d_Mo_linear_28 rfl (lv_at hl 3 rfl) ?_
          obtain ⟨hk0, hk⟩ := hk
          refine zz_callV (va_runV (As := [.int x2]) (rest := []) ⟨hx, hb, hml, hown, hg⟩ (c_Mo_isTerm l D ty h px sa σ x2 hk0) ⟨callB_of 1 hg (gw_C m_1519) rfl rfl rfl (hg _ m_13) (hg _ m_1516) hd_Mo_isTerm ⟨Nat.le_of_ble_eq_true rfl, Nat.le_of_ble_eq_true rfl⟩, hg _ m_1518, hg _ ms_64⟩ (zz_preV (hM.at hS) hN hK hP 0 rfl rfl) rfl rfl hl.1 rfl (lv_room (Nat.le_of_ble_eq_true rfl)) d_Mo_linear_29 ⟨Nat.le_of_ble_eq_true rfl, Nat.le_of_ble_eq_true rfl⟩) ?_
          refine lv_if_eq (tgt := 48) hx hb d_Mo_linear_32 (by decide) (fun hc => ?_) (fun hc => ?_)
          · have hv := hv.trans (if_pos hc)
            have hk := hk.1 hc
            exact B48 _ _ _ 17185 σ hv hk (lv_sub hl [1, 0] rfl) hP hD hS
          · have hv := hv.trans (if_neg hc)
            have hk := hk.2 hc
            exact B35 _ _ _ x1 x2 x3 x4 x5 x6 17185 σ hv hk (lv_sub hl [1, 2, 3, 4, 5, 6, 7, 0] rfl) hP hD hS
    · have hv := hv.trans (if_neg hc)
      have hk := hk.2 hc
      refine lv_iconst (v := -1) hx hb d_Mo_linear_7 (by decide) ?_
      exact W.iret hx hb hr (fun t ht hW => ⟨⟨_, _, rfl, hv.symm, by dsimp only; rw [ht]; exact hP⟩, hS.F ht⟩) hS.2.2 d_Mo_linear_8
  unfold f_Mo_linear at hv
  unfold k_Mo_linear at hk
  refine lv_aload_n hx hb d_Mo_linear_0 rfl (lv_at hl 0 rfl) ?_
  obtain ⟨hk0, hk⟩ := hk
  refine va_calli (va_runV (As := []) (rest := []) ⟨hx, hb, hml, hown, hg⟩ (c_Mo_begin l D ty h px sa σ s.heap.size  hk0) ⟨callB_of 0 hg (gw_C m_1443) rfl rfl rfl (hg _ m_13) (hg _ m_1440) hd_Mo_begin ⟨Nat.le_of_ble_eq_true rfl, Nat.le_of_ble_eq_true rfl⟩, hg _ m_1442, hg _ ms_49⟩ (zz_preVW hM hS hA hN hK hP hD 0 rfl rfl) rfl rfl hl.1 rfl (lv_room (Nat.le_of_ble_eq_true rfl)) d_Mo_linear_1 ⟨Nat.le_of_ble_eq_true rfl, Nat.le_of_ble_eq_true rfl⟩) hS (fun q _ h => zz_free hD hS hA q h) (zz_free hD hS hA) (fun r1 u1 t H locs ht hvm hp hP1 hz hk1 hS => ?_)
  rw [ht] at hP1
  rw [← hp] at hv hk
  have hD : va_D A (Wm ty h u1 px) := zz_D hD rfl
  have hP := hP1
  exact B4 _ _ _ a1 a2 a3 a4 a5 a6 r1 u1 hv hk (lv_sub hl [0, 1, 2, 3, 4, 5, 6] rfl) hP hD hS

-- ClauseLedgerModel.deepOf(I)I
abbrev b_Mo_deepOf : ByteArray := prog_14_method_55_code
def y_Mo_deepOf : MethodName := ⟨"ClauseLedgerModel", "deepOf", "(I)I"⟩
theorem hd_Mo_deepOf : y_Mo_deepOf.cls ≠ "java/lang/invoke/MethodHandle" ∧ y_Mo_deepOf.cls ≠ "java/lang/invoke/VarHandle" ∧ (parseMethodDescriptor y_Mo_deepOf.desc).map (fun d => d.parameters.length) = some 1 := by decide +kernel
theorem d_Mo_deepOf_0 : decode b_Mo_deepOf 0 = .ok (.iconst 0, 1) := by decide +kernel
theorem d_Mo_deepOf_1 : decode b_Mo_deepOf 1 = .ok (.istore_n 2, 1) := by decide +kernel
theorem d_Mo_deepOf_2 : decode b_Mo_deepOf 2 = .ok (.iload_n 1, 1) := by decide +kernel
theorem d_Mo_deepOf_3 : decode b_Mo_deepOf 3 = .ok (.istore_n 3, 1) := by decide +kernel
theorem d_Mo_deepOf_4 : decode b_Mo_deepOf 4 = .ok (.iload_n 3, 1) := by decide +kernel
theorem d_Mo_deepOf_5 : decode b_Mo_deepOf 5 = .ok (.ifCond .le 16, 3) := by decide +kernel
theorem d_Mo_deepOf_8 : decode b_Mo_deepOf 8 = .ok (.iinc 2 1, 3) := by decide +kernel
theorem d_Mo_deepOf_11 : decode b_Mo_deepOf 11 = .ok (.aload_n 0, 1) := by decide +kernel
theorem d_Mo_deepOf_12 : decode b_Mo_deepOf 12 = .ok (.getfield 66, 3) := by decide +kernel
theorem d_Mo_deepOf_15 : decode b_Mo_deepOf 15 = .ok (.iload_n 3, 1) := by decide +kernel
theorem d_Mo_deepOf_16 : decode b_Mo_deepOf 16 = .ok (.iaload, 1) := by decide +kernel
theorem d_Mo_deepOf_17 : decode b_Mo_deepOf 17 = .ok (.istore_n 3, 1) := by decide +kernel
theorem d_Mo_deepOf_18 : decode b_Mo_deepOf 18 = .ok (.goto (-14), 3) := by decide +kernel
theorem d_Mo_deepOf_21 : decode b_Mo_deepOf 21 = .ok (.iload_n 2, 1) := by decide +kernel
theorem d_Mo_deepOf_22 : decode b_Mo_deepOf 22 = .ok (.ireturn, 1) := by decide +kernel
def f_Mo_deepOf_18 (F4 : (Int32 → Int32 → St → Int32)) (x2 : Int32) (x3 : Int32) (σ : St) : Int32 := F4 x2 x3 σ
def k_Mo_deepOf_18 (K4 : (Int32 → Int32 → St → Prop)) (x2 : Int32) (x3 : Int32) (σ : St) : Prop := K4 x2 x3 σ
def f_Mo_deepOf_4 : Nat → Int32 → Int32 → St → Int32
  | 0, _, _, σ => 0
  | n + 1, x2, x3, σ => if x3 ≤ 0 then x2 else (f_Mo_deepOf_18 (f_Mo_deepOf_4 n) (x2 + 1) (σ.1 18 x3.toNatClampNeg) σ)
def k_Mo_deepOf_4 : Nat → Int32 → Int32 → St → Prop
  | 0, _, _, _ => False
  | n + 1, x2, x3, σ => (x3 ≤ 0 → True) ∧ (¬ x3 ≤ 0 → (vp_in x3 21 ∧ (k_Mo_deepOf_18 (k_Mo_deepOf_4 n) (x2 + 1) (σ.1 18 x3.toNatClampNeg) σ)))
def f_Mo_deepOf (a1 : Int32) (σ : St) : Int32 := f_Mo_deepOf_4 1000 0 a1 σ
def k_Mo_deepOf (a1 : Int32) (σ : St) : Prop := k_Mo_deepOf_4 1000 0 a1 σ
abbrev w_Mo_deepOf : List Cond := Cond.code y_Mo_deepOf b_Mo_deepOf 4 (some .int) :: gw
abbrev rm_Mo_deepOf : Room := { frames := 0, cells := 0, slots := 0, locals := 0 }
set_option maxHeartbeats 4000000 in
set_option maxRecDepth 100000 in
theorem c_Mo_deepOf (l : Launch) (D : va_G) (ty : Nat → ClassId) (h : Nat → Nat) (px : va_W) (sa : Nat → Nat) (σ : St) (a1 : Int32) (hk : k_Mo_deepOf a1 σ) : Met l y_Mo_deepOf w_Mo_deepOf rm_Mo_deepOf (va_Pc [.ref (h 0), .int a1] (fun U => va_P D classes (Wm ty h σ px) U.heap ∧ va_K D classes (Ta ty) U ∧ NW U ∧ MK sa (fun _ => False) U U.heap)) (k2_QcV (.int (f_Mo_deepOf a1 σ))) 0 0 (fun _ => False) := by
  refine Met.ofW (cc := b_Mo_deepOf) (maxL := 4) (ret := (some .int)) (by decide) rfl ?_
  intro p e s m args below meth c s₁ B hml hv
  obtain ⟨ha, hP, hK, hN, hM⟩ := hv
  have hx := B.exec
  have hb := B.bytes
  have hr := B.returns
  have hg : ∀ w ∈ gw, w.before args s = true := fun w h9 => atoms_spec (ws := w_Mo_deepOf) B.pre w (List.mem_cons_of_mem _ h9)
  have hown : s.vm.findClass "ClauseLedgerModel" = some m.cls := findClass_of_methodNamed B.named
  have hlocks := B.notSynchronized
  have he : entryFrame m args 4 = entryFrame m ([.ref (h 0), .int a1] : List Value).toArray 4 := by rw [ha]
  rw [he, lg_entry_eq]
  have hl := lv_entry ([.ref (h 0), .int a1]) (n := 4) (Nat.le_of_ble_eq_true rfl)
  generalize (lg_sl ([.ref (h 0), .int a1]) ++ List.replicate (4 - (lg_sl ([.ref (h 0), .int a1])).length) Slot.unset).toArray = ls at hl ⊢
  have hl : lv_has ls 4 [(0, .ref (h 0)), (1, .int a1)] := hl
  generalize hv : f_Mo_deepOf a1 σ = v
  replace hv := hv.symm
  have B4 : ∀ (n4 : Nat) (ls : Array Slot) (x2 : Int32) (x3 : Int32), v = f_Mo_deepOf_4 n4 x2 x3 σ → k_Mo_deepOf_4 n4 x2 x3 σ → lv_has ls 4 [(0, .ref (h 0)), (2, .int x2), (3, .int x3)] → W p l e (headSpec w_Mo_deepOf rm_Mo_deepOf).room s m args below meth c s.heap [] 0 0 (MQ below (k2_QcV (.int v)) args s 0 0 (fun _ => False)) (F0 m 4 ls []) := by
    intro n4
    induction n4 with
    | zero => intro ls x2 x3 hv hk hl; exact hk.elim
    | succ n4 ih4 =>
      have B18 : ∀ (ls : Array Slot) (x2 : Int32) (x3 : Int32), v = f_Mo_deepOf_18 (f_Mo_deepOf_4 n4) x2 x3 σ → k_Mo_deepOf_18 (k_Mo_deepOf_4 n4) x2 x3 σ → lv_has ls 4 [(0, .ref (h 0)), (2, .int x2), (3, .int x3)] → W p l e (headSpec w_Mo_deepOf rm_Mo_deepOf).room s m args below meth c s.heap [] 0 0 (MQ below (k2_QcV (.int v)) args s 0 0 (fun _ => False)) (F0 m 18 ls []) := by
        intro ls x2 x3 hv hk hl
        unfold f_Mo_deepOf_18 at hv
        unfold k_Mo_deepOf_18 at hk
        refine lv_goto (tgt := 4) hx hb d_Mo_deepOf_18 (by decide) ?_
        exact ih4 _ x2 x3 hv hk (lv_sub hl [0, 1, 2] rfl)
      intro ls x2 x3 hv hk hl
      rw [f_Mo_deepOf_4] at hv
      rw [k_Mo_deepOf_4] at hk
      refine lv_iload_n hx hb d_Mo_deepOf_4 rfl (lv_at hl 2 rfl) ?_
      refine lv_if_le (tgt := 21) hx hb d_Mo_deepOf_5 (by decide) (fun hc => ?_) (fun hc => ?_)
      · have hv := hv.trans (if_pos hc)
        have hk := hk.1 hc
        refine lv_iload_n hx hb d_Mo_deepOf_21 rfl (lv_at hl 1 rfl) ?_
        exact W.iret hx hb hr (fun t ht hW => ⟨by rw [hv], ht⟩) (fun q h => nomatch h) d_Mo_deepOf_22
      · have hv := hv.trans (if_neg hc)
        have hk := hk.2 hc
        refine lv_iinc (k := 1) (v := x2 + 1) (lv' := [(2, .int (x2 + 1)), (0, .ref (h 0)), (3, .int x3)]) hx hb d_Mo_deepOf_8 hl rfl (by first | rfl | simp [lit1, litm1]) (by decide) rfl (fun ls hl => ?_)
        refine lv_aload_n hx hb d_Mo_deepOf_11 rfl (lv_at hl 1 rfl) ?_
        refine va_get (v := .ref (h 18)) (C := R_Mo) (T := T_Mo) (N := 51) hx hb hg in_Mo hown hK hP 0 rfl rfl 26 (by decide) (hg _ m_1285) (fun _ h9 => h9) rfl d_Mo_deepOf_12 ?_
        refine lv_iload_n hx hb d_Mo_deepOf_15 rfl (lv_at hl 2 rfl) ?_
        obtain ⟨hk0, hk⟩ := hk
        refine va_iald hx hb hK hP 18 0 rfl rfl hk0 d_Mo_deepOf_16 ?_
        refine lv_istore_n (lv' := [(3, .int (σ.1 18 x3.toNatClampNeg)), (2, .int (x2 + 1)), (0, .ref (h 0))]) hx hb d_Mo_deepOf_17 rfl hl (by decide) rfl (fun ls hl => ?_)
        exact B18 _ (x2 + 1) (σ.1 18 x3.toNatClampNeg) hv hk (lv_sub hl [2, 1, 0] rfl)
  unfold f_Mo_deepOf at hv
  unfold k_Mo_deepOf at hk
  refine lv_iconst (v := 0) hx hb d_Mo_deepOf_0 (by decide) ?_
  refine lv_istore_n (lv' := [(2, .int 0), (0, .ref (h 0)), (1, .int a1)]) hx hb d_Mo_deepOf_1 rfl hl (by decide) rfl (fun ls hl => ?_)
  refine lv_iload_n hx hb d_Mo_deepOf_2 rfl (lv_at hl 2 rfl) ?_
  refine lv_istore_n (lv' := [(3, .int a1), (2, .int 0), (0, .ref (h 0)), (1, .int a1)]) hx hb d_Mo_deepOf_3 rfl hl (by decide) rfl (fun ls hl => ?_)
  exact B4 1000 _ 0 a1 hv hk (lv_sub hl [2, 1, 0] rfl)

-- ClauseLedgerModel.open()I
abbrev b_Mo_open : ByteArray := prog_14_method_56_code
def y_Mo_open : MethodName := ⟨"ClauseLedgerModel", "open", "()I"⟩
theorem hd_Mo_open : y_Mo_open.cls ≠ "java/lang/invoke/MethodHandle" ∧ y_Mo_open.cls ≠ "java/lang/invoke/VarHandle" ∧ (parseMethodDescriptor y_Mo_open.desc).map (fun d => d.parameters.length) = some 0 := by decide +kernel
theorem d_Mo_open_0 : decode b_Mo_open 0 = .ok (.aload_n 0, 1) := by decide +kernel
theorem d_Mo_open_1 : decode b_Mo_open 1 = .ok (.invokevirtual 201, 3) := by decide +kernel
theorem d_Mo_open_4 : decode b_Mo_open 4 = .ok (.ifCond .eq 5, 3) := by decide +kernel
theorem d_Mo_open_7 : decode b_Mo_open 7 = .ok (.iconst (-1), 1) := by decide +kernel
theorem d_Mo_open_8 : decode b_Mo_open 8 = .ok (.ireturn, 1) := by decide +kernel
theorem d_Mo_open_9 : decode b_Mo_open 9 = .ok (.aload_n 0, 1) := by decide +kernel
theorem d_Mo_open_10 : decode b_Mo_open 10 = .ok (.getfield 291, 3) := by decide +kernel
theorem d_Mo_open_13 : decode b_Mo_open 13 = .ok (.bipush 20, 2) := by decide +kernel
theorem d_Mo_open_15 : decode b_Mo_open 15 = .ok (.if_icmp .ne 10, 3) := by decide +kernel
theorem d_Mo_open_18 : decode b_Mo_open 18 = .ok (.aload_n 0, 1) := by decide +kernel
theorem d_Mo_open_19 : decode b_Mo_open 19 = .ok (.iconst 4, 1) := by decide +kernel
theorem d_Mo_open_20 : decode b_Mo_open 20 = .ok (.iconst 4, 1) := by decide +kernel
theorem d_Mo_open_21 : decode b_Mo_open 21 = .ok (.invokevirtual 133, 3) := by decide +kernel
theorem d_Mo_open_24 : decode b_Mo_open 24 = .ok (.ireturn, 1) := by decide +kernel
theorem d_Mo_open_25 : decode b_Mo_open 25 = .ok (.aload_n 0, 1) := by decide +kernel
theorem d_Mo_open_26 : decode b_Mo_open 26 = .ok (.dup, 1) := by decide +kernel
theorem d_Mo_open_27 : decode b_Mo_open 27 = .ok (.getfield 291, 3) := by decide +kernel
theorem d_Mo_open_30 : decode b_Mo_open 30 = .ok (.iconst 1, 1) := by decide +kernel
theorem d_Mo_open_31 : decode b_Mo_open 31 = .ok (.iadd, 1) := by decide +kernel
theorem d_Mo_open_32 : decode b_Mo_open 32 = .ok (.putfield 291, 3) := by decide +kernel
theorem d_Mo_open_35 : decode b_Mo_open 35 = .ok (.aload_n 0, 1) := by decide +kernel
theorem d_Mo_open_36 : decode b_Mo_open 36 = .ok (.getfield 66, 3) := by decide +kernel
theorem d_Mo_open_39 : decode b_Mo_open 39 = .ok (.aload_n 0, 1) := by decide +kernel
theorem d_Mo_open_40 : decode b_Mo_open 40 = .ok (.getfield 291, 3) := by decide +kernel
theorem d_Mo_open_43 : decode b_Mo_open 43 = .ok (.aload_n 0, 1) := by decide +kernel
theorem d_Mo_open_44 : decode b_Mo_open 44 = .ok (.getfield 214, 3) := by decide +kernel
theorem d_Mo_open_47 : decode b_Mo_open 47 = .ok (.iastore, 1) := by decide +kernel
theorem d_Mo_open_48 : decode b_Mo_open 48 = .ok (.aload_n 0, 1) := by decide +kernel
theorem d_Mo_open_49 : decode b_Mo_open 49 = .ok (.aload_n 0, 1) := by decide +kernel
theorem d_Mo_open_50 : decode b_Mo_open 50 = .ok (.getfield 291, 3) := by decide +kernel
theorem d_Mo_open_53 : decode b_Mo_open 53 = .ok (.putfield 214, 3) := by decide +kernel
theorem d_Mo_open_56 : decode b_Mo_open 56 = .ok (.aload_n 0, 1) := by decide +kernel
theorem d_Mo_open_57 : decode b_Mo_open 57 = .ok (.aload_n 0, 1) := by decide +kernel
theorem d_Mo_open_58 : decode b_Mo_open 58 = .ok (.getfield 214, 3) := by decide +kernel
theorem d_Mo_open_61 : decode b_Mo_open 61 = .ok (.invokevirtual 294, 3) := by decide +kernel
theorem d_Mo_open_64 : decode b_Mo_open 64 = .ok (.ireturn, 1) := by decide +kernel
def f_Mo_open_24 (s0 : Int32) (σ : St) : Int32 × St := (s0, σ)
def k_Mo_open_24 (s0 : Int32) (σ : St) : Prop := True
def f_Mo_open_56 (σ : St) : Int32 × St := (f_Mo_deepOf (σ.1 0 25) σ, σ)
def k_Mo_open_56 (σ : St) : Prop := (k_Mo_deepOf (σ.1 0 25) σ) ∧ True
def f_Mo_open_48 (σ : St) : Int32 × St := f_Mo_open_56 (sF σ 0 25 (σ.1 0 24))
def k_Mo_open_48 (σ : St) : Prop := k_Mo_open_56 (sF σ 0 25 (σ.1 0 24))
def f_Mo_open_35 (σ : St) : Int32 × St := f_Mo_open_48 (sA σ 18 (σ.1 0 24) (σ.1 0 25))
def k_Mo_open_35 (σ : St) : Prop := vp_in (σ.1 0 24) 21 ∧ (k_Mo_open_48 (sA σ 18 (σ.1 0 24) (σ.1 0 25)))
def f_Mo_open_4 (s0 : Int32) (σ : St) : Int32 × St := if s0 = 0 then (if (σ.1 0 24) = 20 then (f_Mo_open_24 ((f_Mo_fails 4 4 σ).1) ((f_Mo_fails 4 4 σ).2)) else (f_Mo_open_35 (sF σ 0 24 ((σ.1 0 24) + 1)))) else ((-1), σ)
def k_Mo_open_4 (s0 : Int32) (σ : St) : Prop := (s0 = 0 → (((σ.1 0 24) = 20 → ((k_Mo_fails 4 4 σ) ∧ (k_Mo_open_24 ((f_Mo_fails 4 4 σ).1) ((f_Mo_fails 4 4 σ).2)))) ∧ (¬ (σ.1 0 24) = 20 → (k_Mo_open_35 (sF σ 0 24 ((σ.1 0 24) + 1)))))) ∧ (¬ s0 = 0 → True)
def f_Mo_open (σ : St) : Int32 × St := f_Mo_open_4 ((f_Mo_begin σ).1) ((f_Mo_begin σ).2)
def k_Mo_open (σ : St) : Prop := (k_Mo_begin σ) ∧ (k_Mo_open_4 ((f_Mo_begin σ).1) ((f_Mo_begin σ).2))
abbrev w_Mo_open : List Cond := Cond.code y_Mo_open b_Mo_open 1 (some .int) :: gw
abbrev rm_Mo_open : Room := { frames := 1, cells := 0, slots := 0, locals := 23 }
set_option maxHeartbeats 4000000 in
set_option maxRecDepth 100000 in
theorem c_Mo_open (l : Launch) (D : va_G) (ty : Nat → ClassId) (h : Nat → Nat) (px : va_W) (sa : Nat → Nat) (σ : St) (sz : Nat) (hk : k_Mo_open σ) : Met l y_Mo_open w_Mo_open rm_Mo_open (va_Pc [.ref (h 0)] (fun U => U.heap.size = sz ∧ va_P D classes (Wm ty h σ px) U.heap ∧ va_K D classes (Ta ty) U ∧ NW U ∧ MK sa (va_A (Wm ty h σ px) sz) U U.heap ∧ va_D (fun _ => True) (Wm ty h σ px))) (va_Qi (fun r (u : St) => (r, u) = f_Mo_open σ) (fun u t => va_P D classes (Wm ty h u px) t.heap) (va_A (Wm ty h σ px) sz)) 0 0 (va_A (Wm ty h σ px) sz) := by
  refine Met.ofW (cc := b_Mo_open) (maxL := 1) (ret := (some .int)) (by decide) rfl ?_
  intro p e s m args below meth c s₁ B hml hv
  obtain ⟨ha, hsz, hP, hK, hN, hM, hD0⟩ := hv
  have hx := B.exec
  have hb := B.bytes
  have hr := B.returns
  have hg : ∀ w ∈ gw, w.before args s = true := fun w h9 => atoms_spec (ws := w_Mo_open) B.pre w (List.mem_cons_of_mem _ h9)
  have hown : s.vm.findClass "ClauseLedgerModel" = some m.cls := findClass_of_methodNamed B.named
  have hlocks := B.notSynchronized
  subst hsz
  have hD := hD0.self (sz := s.heap.size)
  generalize hAe : va_A (Wm ty h σ px) s.heap.size = A at hD hM ⊢
  have hA : ∀ q : Nat, s.heap.size ≤ q → A q := fun q h9 => by rw [← hAe]; exact Or.inr h9
  have hS : va_S A s.heap s.heap [] := va_S.rf
  have he : entryFrame m args 1 = entryFrame m ([.ref (h 0)] : List Value).toArray 1 := by rw [ha]
  rw [he, lg_entry_eq]
  have hl := lv_entry ([.ref (h 0)]) (n := 1) (Nat.le_of_ble_eq_true rfl)
  generalize (lg_sl ([.ref (h 0)]) ++ List.replicate (1 - (lg_sl ([.ref (h 0)])).length) Slot.unset).toArray = ls at hl ⊢
  have hl : lv_has ls 1 [(0, .ref (h 0))] := hl
  generalize hv : f_Mo_open σ = v
  replace hv := hv.symm
  have B24 : ∀ (H : Heap) (locs : List Loc) (ls : Array Slot) (s0 : Int32) (σ : St), v = f_Mo_open_24 s0 σ → k_Mo_open_24 s0 σ → lv_has ls 1 [] → va_P D classes (Wm ty h σ px) H → va_D A (Wm ty h σ px) → va_S A s.heap H locs → W p l e (headSpec w_Mo_open rm_Mo_open).room s m args below meth c H locs 0 0 (MQ below (va_Qi (fun r (u : St) => (r, u) = v) (fun u t => va_P D classes (Wm ty h u px) t.heap) A) args s 0 0 A) (F0 m 24 ls [.int s0]) := by
    intro H locs ls s0 σ hv hk hl hP hD hS
    unfold f_Mo_open_24 at hv
    unfold k_Mo_open_24 at hk
    exact W.iret hx hb hr (fun t ht hW => ⟨⟨_, _, rfl, hv.symm, by dsimp only; rw [ht]; exact hP⟩, hS.F ht⟩) hS.2.2 d_Mo_open_24
  have B56 : ∀ (H : Heap) (locs : List Loc) (ls : Array Slot) (σ : St), v = f_Mo_open_56 σ → k_Mo_open_56 σ → lv_has ls 1 [(0, .ref (h 0))] → va_P D classes (Wm ty h σ px) H → va_D A (Wm ty h σ px) → va_S A s.heap H locs → W p l e (headSpec w_Mo_open rm_Mo_open).room s m args below meth c H locs 0 0 (MQ below (va_Qi (fun r (u : St) => (r, u) = v) (fun u t => va_P D classes (Wm ty h u px) t.heap) A) args s 0 0 A) (F0 m 56 ls []) := by
    intro H locs ls σ hv hk hl hP hD hS
    unfold f_Mo_open_56 at hv
    unfold k_Mo_open_56 at hk
    refine lv_aload_n hx hb d_Mo_open_56 rfl (lv_at hl 0 rfl) ?_
    refine lv_aload_n hx hb d_Mo_open_57 rfl (lv_at hl 0 rfl) ?_
    refine va_get (v := .int (σ.1 0 25)) (C := R_Mo) (T := T_Mo) (N := 51) hx hb hg in_Mo hown hK hP 0 rfl rfl 25 (by decide) (hg _ m_1284) (fun _ h9 => h9) rfl d_Mo_open_58 ?_
    obtain ⟨hk0, hk⟩ := hk
    refine zz_callV (va_runV (As := [.int (σ.1 0 25)]) (rest := []) ⟨hx, hb, hml, hown, hg⟩ (c_Mo_deepOf l D ty h px sa σ (σ.1 0 25) hk0) ⟨callB_of 1 hg (gw_C m_1632) rfl rfl rfl (hg _ m_13) (hg _ m_1629) hd_Mo_deepOf ⟨Nat.le_of_ble_eq_true rfl, Nat.le_of_ble_eq_true rfl⟩, hg _ m_1631, hg _ ms_81⟩ (zz_preV (hM.at hS) hN hK hP 0 rfl rfl) rfl rfl hl.1 rfl (lv_room (Nat.le_of_ble_eq_true rfl)) d_Mo_open_61 ⟨Nat.le_of_ble_eq_true rfl, Nat.le_of_ble_eq_true rfl⟩) ?_
    exact W.iret hx hb hr (fun t ht hW => ⟨⟨_, _, rfl, hv.symm, by dsimp only; rw [ht]; exact hP⟩, hS.F ht⟩) hS.2.2 d_Mo_open_64
  have B48 : ∀ (H : Heap) (locs : List Loc) (ls : Array Slot) (σ : St), v = f_Mo_open_48 σ → k_Mo_open_48 σ → lv_has ls 1 [(0, .ref (h 0))] → va_P D classes (Wm ty h σ px) H → va_D A (Wm ty h σ px) → va_S A s.heap H locs → W p l e (headSpec w_Mo_open rm_Mo_open).room s m args below meth c H locs 0 0 (MQ below (va_Qi (fun r (u : St) => (r, u) = v) (fun u t => va_P D classes (Wm ty h u px) t.heap) A) args s 0 0 A) (F0 m 48 ls []) := by
    intro H locs ls σ hv hk hl hP hD hS
    unfold f_Mo_open_48 at hv
    unfold k_Mo_open_48 at hk
    refine lv_aload_n hx hb d_Mo_open_48 rfl (lv_at hl 0 rfl) ?_
    refine lv_aload_n hx hb d_Mo_open_49 rfl (lv_at hl 0 rfl) ?_
    refine va_get (v := .int (σ.1 0 24)) (C := R_Mo) (T := T_Mo) (N := 51) hx hb hg in_Mo hown hK hP 0 rfl rfl 24 (by decide) (hg _ m_1283) (fun _ h9 => h9) rfl d_Mo_open_50 ?_
    refine va_put (v := .int (σ.1 0 24)) (ty := .int) (C := R_Mo) (T := T_Mo) (N := 51) hx hb hg in_Mo ty_Mo ok_Mo nm_Mo hown hK hP hD hS 0 rfl rfl 25 (by decide) (hg _ m_1284) (fun _ h9 => h9) rfl (by decide +kernel) rfl rfl (Nat.le_of_ble_eq_true rfl) d_Mo_open_53 (fun H locs hP hD hS => ?_)
    have hP : va_P D classes (Wm ty h (sF σ 0 25 (σ.1 0 24)) px) H := hP
    have hD : va_D A (Wm ty h (sF σ 0 25 (σ.1 0 24)) px) := hD
    exact B56 _ _ _  (sF σ 0 25 (σ.1 0 24)) hv hk (lv_sub hl [0] rfl) hP hD hS
  have B35 : ∀ (H : Heap) (locs : List Loc) (ls : Array Slot) (σ : St), v = f_Mo_open_35 σ → k_Mo_open_35 σ → lv_has ls 1 [(0, .ref (h 0))] → va_P D classes (Wm ty h σ px) H → va_D A (Wm ty h σ px) → va_S A s.heap H locs → W p l e (headSpec w_Mo_open rm_Mo_open).room s m args below meth c H locs 0 0 (MQ below (va_Qi (fun r (u : St) => (r, u) = v) (fun u t => va_P D classes (Wm ty h u px) t.heap) A) args s 0 0 A) (F0 m 35 ls []) := by
    intro H locs ls σ hv hk hl hP hD hS
    unfold f_Mo_open_35 at hv
    unfold k_Mo_open_35 at hk
    refine lv_aload_n hx hb d_Mo_open_35 rfl (lv_at hl 0 rfl) ?_
    refine va_get (v := .ref (h 18)) (C := R_Mo) (T := T_Mo) (N := 51) hx hb hg in_Mo hown hK hP 0 rfl rfl 26 (by decide) (hg _ m_1285) (fun _ h9 => h9) rfl d_Mo_open_36 ?_
    refine lv_aload_n hx hb d_Mo_open_39 rfl (lv_at hl 0 rfl) ?_
    refine va_get (v := .int (σ.1 0 24)) (C := R_Mo) (T := T_Mo) (N := 51) hx hb hg in_Mo hown hK hP 0 rfl rfl 24 (by decide) (hg _ m_1283) (fun _ h9 => h9) rfl d_Mo_open_40 ?_
    refine lv_aload_n hx hb d_Mo_open_43 rfl (lv_at hl 0 rfl) ?_
    refine va_get (v := .int (σ.1 0 25)) (C := R_Mo) (T := T_Mo) (N := 51) hx hb hg in_Mo hown hK hP 0 rfl rfl 25 (by decide) (hg _ m_1284) (fun _ h9 => h9) rfl d_Mo_open_44 ?_
    obtain ⟨hk0, hk⟩ := hk
    refine va_iast hx hb hK hP hD hS 18 0 rfl rfl hk0 d_Mo_open_47 (fun H locs hP hD hS => ?_)
    have hP : va_P D classes (Wm ty h (sA σ 18 (σ.1 0 24) (σ.1 0 25)) px) H := hP
    have hD : va_D A (Wm ty h (sA σ 18 (σ.1 0 24) (σ.1 0 25)) px) := hD
    exact B48 _ _ _  (sA σ 18 (σ.1 0 24) (σ.1 0 25)) hv hk (lv_sub hl [0] rfl) hP hD hS
  have B4 : ∀ (H : Heap) (locs : List Loc) (ls : Array Slot) (s0 : Int32) (σ : St), v = f_Mo_open_4 s0 σ → k_Mo_open_4 s0 σ → lv_has ls 1 [(0, .ref (h 0))] → va_P D classes (Wm ty h σ px) H → va_D A (Wm ty h σ px) → va_S A s.heap H locs → W p l e (headSpec w_Mo_open rm_Mo_open).room s m args below meth c H locs 0 0 (MQ below (va_Qi (fun r (u : St) => (r, u) = v) (fun u t => va_P D classes (Wm ty h u px) t.heap) A) args s 0 0 A) (F0 m 4 ls [.int s0]) := by
    intro H locs ls s0 σ hv hk hl hP hD hS
    unfold f_Mo_open_4 at hv
    unfold k_Mo_open_4 at hk
    refine lv_if_eq (tgt := 9) hx hb d_Mo_open_4 (by decide) (fun hc => ?_) (fun hc => ?_)
    · have hv := hv.trans (if_pos hc)
      have hk := hk.1 hc
      refine lv_aload_n hx hb d_Mo_open_9 rfl (lv_at hl 0 rfl) ?_
      refine va_get (v := .int (σ.1 0 24)) (C := R_Mo) (T := T_Mo) (N := 51) hx hb hg in_Mo hown hK hP 0 rfl rfl 24 (by decide) (hg _ m_1283) (fun _ h9 => h9) rfl d_Mo_open_10 ?_
      refine lv_bipush (v := 20) hx hb d_Mo_open_13 (by decide) ?_
      refine lv_icmp_ne (tgt := 25) hx hb d_Mo_open_15 (by decide) (fun hc => ?_) (fun hc => ?_)
      · have hv := hv.trans (if_neg hc)
        have hk := hk.2 hc
        refine lv_aload_n hx hb d_Mo_open_25 rfl (lv_at hl 0 rfl) ?_
        refine lv_dup hx hb d_Mo_open_26 rfl ?_
        refine va_get (v := .int (σ.1 0 24)) (C := R_Mo) (T := T_Mo) (N := 51) hx hb hg in_Mo hown hK hP 0 rfl rfl 24 (by decide) (hg _ m_1283) (fun _ h9 => h9) rfl d_Mo_open_27 ?_
        refine lv_iconst (v := 1) hx hb d_Mo_open_30 (by decide) ?_
        refine lv_iadd hx hb d_Mo_open_31 ?_
        refine va_put (v := .int ((σ.1 0 24) + 1)) (ty := .int) (C := R_Mo) (T := T_Mo) (N := 51) hx hb hg in_Mo ty_Mo ok_Mo nm_Mo hown hK hP hD hS 0 rfl rfl 24 (by decide) (hg _ m_1283) (fun _ h9 => h9) rfl (by decide +kernel) rfl rfl (Nat.le_of_ble_eq_true rfl) d_Mo_open_32 (fun H locs hP hD hS => ?_)
        have hP : va_P D classes (Wm ty h (sF σ 0 24 ((σ.1 0 24) + 1)) px) H := hP
        have hD : va_D A (Wm ty h (sF σ 0 24 ((σ.1 0 24) + 1)) px) := hD
        exact B35 _ _ _  (sF σ 0 24 ((σ.1 0 24) + 1)) hv hk (lv_sub hl [0] rfl) hP hD hS
      · have hv := hv.trans (if_pos hc)
        have hk := hk.1 hc
        refine lv_aload_n hx hb d_Mo_open_18 rfl (lv_at hl 0 rfl) ?_
        refine lv_iconst (v := 4) hx hb d_Mo_open_19 (by decide) ?_
        refine lv_iconst (v := 4) hx hb d_Mo_open_20 (by decide) ?_
        obtain ⟨hk0, hk⟩ := hk
        refine va_calli (va_runV (As := [.int 4, .int 4]) (rest := []) ⟨hx, hb, hml, hown, hg⟩ (c_Mo_fails l D ty h px sa σ H.size 4 4 hk0) ⟨callB_of 2 hg (gw_C m_1507) rfl rfl rfl (hg _ m_13) (hg _ m_1504) hd_Mo_fails ⟨Nat.le_of_ble_eq_true rfl, Nat.le_of_ble_eq_true rfl⟩, hg _ m_1506, hg _ ms_62⟩ (zz_preVW hM hS hA hN hK hP hD 0 rfl rfl) rfl rfl hl.1 rfl (lv_room (Nat.le_of_ble_eq_true rfl)) d_Mo_open_21 ⟨Nat.le_of_ble_eq_true rfl, Nat.le_of_ble_eq_true rfl⟩) hS (fun q _ h => zz_free hD hS hA q h) (zz_free hD hS hA) (fun r21 u21 t H locs ht hvm hp hP1 hz hk1 hS => ?_)
        rw [ht] at hP1
        rw [← hp] at hv hk
        have hD : va_D A (Wm ty h u21 px) := zz_D hD rfl
        have hP := hP1
        exact B24 _ _ _ r21 u21 hv hk (lv_sub hl [] rfl) hP hD hS
    · have hv := hv.trans (if_neg hc)
      have hk := hk.2 hc
      refine lv_iconst (v := -1) hx hb d_Mo_open_7 (by decide) ?_
      exact W.iret hx hb hr (fun t ht hW => ⟨⟨_, _, rfl, hv.symm, by dsimp only; rw [ht]; exact hP⟩, hS.F ht⟩) hS.2.2 d_Mo_open_8
  unfold f_Mo_open at hv
  unfold k_Mo_open at hk
  refine lv_aload_n hx hb d_Mo_open_0 rfl (lv_at hl 0 rfl) ?_
  obtain ⟨hk0, hk⟩ := hk
  refine va_calli (va_runV (As := []) (rest := []) ⟨hx, hb, hml, hown, hg⟩ (c_Mo_begin l D ty h px sa σ s.heap.size  hk0) ⟨callB_of 0 hg (gw_C m_1443) rfl rfl rfl (hg _ m_13) (hg _ m_1440) hd_Mo_begin ⟨Nat.le_of_ble_eq_true rfl, Nat.le_of_ble_eq_true rfl⟩, hg _ m_1442, hg _ ms_49⟩ (zz_preVW hM hS hA hN hK hP hD 0 rfl rfl) rfl rfl hl.1 rfl (lv_room (Nat.le_of_ble_eq_true rfl)) d_Mo_open_1 ⟨Nat.le_of_ble_eq_true rfl, Nat.le_of_ble_eq_true rfl⟩) hS (fun q _ h => zz_free hD hS hA q h) (zz_free hD hS hA) (fun r1 u1 t H locs ht hvm hp hP1 hz hk1 hS => ?_)
  rw [ht] at hP1
  rw [← hp] at hv hk
  have hD : va_D A (Wm ty h u1 px) := zz_D hD rfl
  have hP := hP1
  exact B4 _ _ _ r1 u1 hv hk (lv_sub hl [0] rfl) hP hD hS

