-- ClauseLedger.linear(IIIIII)I
abbrev b_CL_linearB : ByteArray := prog_1_method_15_code
def y_CL_linearB : MethodName := ⟨"ClauseLedger", "linear", "(IIIIII)I"⟩
theorem hd_CL_linearB : y_CL_linearB.cls ≠ "java/lang/invoke/MethodHandle" ∧ y_CL_linearB.cls ≠ "java/lang/invoke/VarHandle" ∧ (parseMethodDescriptor y_CL_linearB.desc).map (fun d => d.parameters.length) = some 6 := by decide +kernel
theorem d_CL_linearB_0 : decode b_CL_linearB 0 = .ok (.aload_n 0, 1) := by decide +kernel
theorem d_CL_linearB_1 : decode b_CL_linearB 1 = .ok (.invokevirtual 102, 3) := by decide +kernel
theorem d_CL_linearB_4 : decode b_CL_linearB 4 = .ok (.ifCond .eq 5, 3) := by decide +kernel
theorem d_CL_linearB_7 : decode b_CL_linearB 7 = .ok (.iconst (-1), 1) := by decide +kernel
theorem d_CL_linearB_8 : decode b_CL_linearB 8 = .ok (.ireturn, 1) := by decide +kernel
theorem d_CL_linearB_9 : decode b_CL_linearB 9 = .ok (.aload_n 0, 1) := by decide +kernel
theorem d_CL_linearB_10 : decode b_CL_linearB 10 = .ok (.getfield 19, 3) := by decide +kernel
theorem d_CL_linearB_13 : decode b_CL_linearB 13 = .ok (.iload_n 1, 1) := by decide +kernel
theorem d_CL_linearB_14 : decode b_CL_linearB 14 = .ok (.invokevirtual 130, 3) := by decide +kernel
theorem d_CL_linearB_17 : decode b_CL_linearB 17 = .ok (.ifCond .eq 19, 3) := by decide +kernel
theorem d_CL_linearB_20 : decode b_CL_linearB 20 = .ok (.aload_n 0, 1) := by decide +kernel
theorem d_CL_linearB_21 : decode b_CL_linearB 21 = .ok (.iload_n 2, 1) := by decide +kernel
theorem d_CL_linearB_22 : decode b_CL_linearB 22 = .ok (.invokevirtual 191, 3) := by decide +kernel
theorem d_CL_linearB_25 : decode b_CL_linearB 25 = .ok (.ifCond .eq 11, 3) := by decide +kernel
theorem d_CL_linearB_28 : decode b_CL_linearB 28 = .ok (.aload_n 0, 1) := by decide +kernel
theorem d_CL_linearB_29 : decode b_CL_linearB 29 = .ok (.iload_n 3, 1) := by decide +kernel
theorem d_CL_linearB_30 : decode b_CL_linearB 30 = .ok (.invokevirtual 191, 3) := by decide +kernel
theorem d_CL_linearB_33 : decode b_CL_linearB 33 = .ok (.ifCond .ne 8, 3) := by decide +kernel
theorem d_CL_linearB_36 : decode b_CL_linearB 36 = .ok (.aload_n 0, 1) := by decide +kernel
theorem d_CL_linearB_37 : decode b_CL_linearB 37 = .ok (.invokevirtual 134, 3) := by decide +kernel
theorem d_CL_linearB_40 : decode b_CL_linearB 40 = .ok (.ireturn, 1) := by decide +kernel
theorem d_CL_linearB_41 : decode b_CL_linearB 41 = .ok (.iload_n 2, 1) := by decide +kernel
theorem d_CL_linearB_42 : decode b_CL_linearB 42 = .ok (.iconst (-1), 1) := by decide +kernel
theorem d_CL_linearB_43 : decode b_CL_linearB 43 = .ok (.if_icmp .ne 8, 3) := by decide +kernel
theorem d_CL_linearB_46 : decode b_CL_linearB 46 = .ok (.iload_n 3, 1) := by decide +kernel
theorem d_CL_linearB_47 : decode b_CL_linearB 47 = .ok (.iconst (-1), 1) := by decide +kernel
theorem d_CL_linearB_48 : decode b_CL_linearB 48 = .ok (.if_icmp .ne 42, 3) := by decide +kernel
theorem d_CL_linearB_51 : decode b_CL_linearB 51 = .ok (.aload_n 0, 1) := by decide +kernel
theorem d_CL_linearB_52 : decode b_CL_linearB 52 = .ok (.getfield 58, 3) := by decide +kernel
theorem d_CL_linearB_55 : decode b_CL_linearB 55 = .ok (.iload_n 1, 1) := by decide +kernel
theorem d_CL_linearB_56 : decode b_CL_linearB 56 = .ok (.iload 4, 2) := by decide +kernel
theorem d_CL_linearB_58 : decode b_CL_linearB 58 = .ok (.invokevirtual 194, 3) := by decide +kernel
theorem d_CL_linearB_61 : decode b_CL_linearB 61 = .ok (.ifCond .eq 29, 3) := by decide +kernel
theorem d_CL_linearB_64 : decode b_CL_linearB 64 = .ok (.aload_n 0, 1) := by decide +kernel
theorem d_CL_linearB_65 : decode b_CL_linearB 65 = .ok (.getfield 58, 3) := by decide +kernel
theorem d_CL_linearB_68 : decode b_CL_linearB 68 = .ok (.iload_n 2, 1) := by decide +kernel
theorem d_CL_linearB_69 : decode b_CL_linearB 69 = .ok (.iload 5, 2) := by decide +kernel
theorem d_CL_linearB_71 : decode b_CL_linearB 71 = .ok (.invokevirtual 194, 3) := by decide +kernel
theorem d_CL_linearB_74 : decode b_CL_linearB 74 = .ok (.ifCond .eq 16, 3) := by decide +kernel
theorem d_CL_linearB_77 : decode b_CL_linearB 77 = .ok (.aload_n 0, 1) := by decide +kernel
theorem d_CL_linearB_78 : decode b_CL_linearB 78 = .ok (.getfield 58, 3) := by decide +kernel
theorem d_CL_linearB_81 : decode b_CL_linearB 81 = .ok (.iload_n 3, 1) := by decide +kernel
theorem d_CL_linearB_82 : decode b_CL_linearB 82 = .ok (.iload 6, 2) := by decide +kernel
theorem d_CL_linearB_84 : decode b_CL_linearB 84 = .ok (.invokevirtual 194, 3) := by decide +kernel
theorem d_CL_linearB_87 : decode b_CL_linearB 87 = .ok (.ifCond .ne 8, 3) := by decide +kernel
theorem d_CL_linearB_90 : decode b_CL_linearB 90 = .ok (.aload_n 0, 1) := by decide +kernel
theorem d_CL_linearB_91 : decode b_CL_linearB 91 = .ok (.invokevirtual 112, 3) := by decide +kernel
theorem d_CL_linearB_94 : decode b_CL_linearB 94 = .ok (.ireturn, 1) := by decide +kernel
theorem d_CL_linearB_95 : decode b_CL_linearB 95 = .ok (.aload_n 0, 1) := by decide +kernel
theorem d_CL_linearB_96 : decode b_CL_linearB 96 = .ok (.getfield 58, 3) := by decide +kernel
theorem d_CL_linearB_99 : decode b_CL_linearB 99 = .ok (.invokevirtual 197, 3) := by decide +kernel
theorem d_CL_linearB_102 : decode b_CL_linearB 102 = .ok (.aload_n 0, 1) := by decide +kernel
theorem d_CL_linearB_103 : decode b_CL_linearB 103 = .ok (.getfield 58, 3) := by decide +kernel
theorem d_CL_linearB_106 : decode b_CL_linearB 106 = .ok (.iload_n 1, 1) := by decide +kernel
theorem d_CL_linearB_107 : decode b_CL_linearB 107 = .ok (.iload 4, 2) := by decide +kernel
theorem d_CL_linearB_109 : decode b_CL_linearB 109 = .ok (.invokevirtual 200, 3) := by decide +kernel
theorem d_CL_linearB_112 : decode b_CL_linearB 112 = .ok (.aload_n 0, 1) := by decide +kernel
theorem d_CL_linearB_113 : decode b_CL_linearB 113 = .ok (.getfield 58, 3) := by decide +kernel
theorem d_CL_linearB_116 : decode b_CL_linearB 116 = .ok (.iload_n 2, 1) := by decide +kernel
theorem d_CL_linearB_117 : decode b_CL_linearB 117 = .ok (.iload 5, 2) := by decide +kernel
theorem d_CL_linearB_119 : decode b_CL_linearB 119 = .ok (.invokevirtual 200, 3) := by decide +kernel
theorem d_CL_linearB_122 : decode b_CL_linearB 122 = .ok (.aload_n 0, 1) := by decide +kernel
theorem d_CL_linearB_123 : decode b_CL_linearB 123 = .ok (.getfield 58, 3) := by decide +kernel
theorem d_CL_linearB_126 : decode b_CL_linearB 126 = .ok (.iload_n 3, 1) := by decide +kernel
theorem d_CL_linearB_127 : decode b_CL_linearB 127 = .ok (.iload 6, 2) := by decide +kernel
theorem d_CL_linearB_129 : decode b_CL_linearB 129 = .ok (.invokevirtual 200, 3) := by decide +kernel
theorem d_CL_linearB_132 : decode b_CL_linearB 132 = .ok (.aload_n 0, 1) := by decide +kernel
theorem d_CL_linearB_133 : decode b_CL_linearB 133 = .ok (.getfield 58, 3) := by decide +kernel
theorem d_CL_linearB_136 : decode b_CL_linearB 136 = .ok (.invokevirtual 203, 3) := by decide +kernel
theorem d_CL_linearB_139 : decode b_CL_linearB 139 = .ok (.ifCond .eq 8, 3) := by decide +kernel
theorem d_CL_linearB_142 : decode b_CL_linearB 142 = .ok (.aload_n 0, 1) := by decide +kernel
theorem d_CL_linearB_143 : decode b_CL_linearB 143 = .ok (.invokevirtual 118, 3) := by decide +kernel
theorem d_CL_linearB_146 : decode b_CL_linearB 146 = .ok (.ireturn, 1) := by decide +kernel
theorem d_CL_linearB_147 : decode b_CL_linearB 147 = .ok (.aload_n 0, 1) := by decide +kernel
theorem d_CL_linearB_148 : decode b_CL_linearB 148 = .ok (.getfield 58, 3) := by decide +kernel
theorem d_CL_linearB_151 : decode b_CL_linearB 151 = .ok (.invokevirtual 206, 3) := by decide +kernel
theorem d_CL_linearB_154 : decode b_CL_linearB 154 = .ok (.ifCond .ne 8, 3) := by decide +kernel
theorem d_CL_linearB_157 : decode b_CL_linearB 157 = .ok (.aload_n 0, 1) := by decide +kernel
theorem d_CL_linearB_158 : decode b_CL_linearB 158 = .ok (.invokevirtual 112, 3) := by decide +kernel
theorem d_CL_linearB_161 : decode b_CL_linearB 161 = .ok (.ireturn, 1) := by decide +kernel
theorem d_CL_linearB_162 : decode b_CL_linearB 162 = .ok (.aload_n 0, 1) := by decide +kernel
theorem d_CL_linearB_163 : decode b_CL_linearB 163 = .ok (.getfield 65, 3) := by decide +kernel
theorem d_CL_linearB_166 : decode b_CL_linearB 166 = .ok (.invokevirtual 140, 3) := by decide +kernel
theorem d_CL_linearB_169 : decode b_CL_linearB 169 = .ok (.aload_n 0, 1) := by decide +kernel
theorem d_CL_linearB_170 : decode b_CL_linearB 170 = .ok (.getfield 65, 3) := by decide +kernel
theorem d_CL_linearB_173 : decode b_CL_linearB 173 = .ok (.iload_n 1, 1) := by decide +kernel
theorem d_CL_linearB_174 : decode b_CL_linearB 174 = .ok (.invokevirtual 141, 3) := by decide +kernel
theorem d_CL_linearB_177 : decode b_CL_linearB 177 = .ok (.aload_n 0, 1) := by decide +kernel
theorem d_CL_linearB_178 : decode b_CL_linearB 178 = .ok (.getfield 65, 3) := by decide +kernel
theorem d_CL_linearB_181 : decode b_CL_linearB 181 = .ok (.iload_n 2, 1) := by decide +kernel
theorem d_CL_linearB_182 : decode b_CL_linearB 182 = .ok (.invokevirtual 141, 3) := by decide +kernel
theorem d_CL_linearB_185 : decode b_CL_linearB 185 = .ok (.aload_n 0, 1) := by decide +kernel
theorem d_CL_linearB_186 : decode b_CL_linearB 186 = .ok (.getfield 65, 3) := by decide +kernel
theorem d_CL_linearB_189 : decode b_CL_linearB 189 = .ok (.iload_n 3, 1) := by decide +kernel
theorem d_CL_linearB_190 : decode b_CL_linearB 190 = .ok (.invokevirtual 141, 3) := by decide +kernel
theorem d_CL_linearB_193 : decode b_CL_linearB 193 = .ok (.aload_n 0, 1) := by decide +kernel
theorem d_CL_linearB_194 : decode b_CL_linearB 194 = .ok (.aload_n 0, 1) := by decide +kernel
theorem d_CL_linearB_195 : decode b_CL_linearB 195 = .ok (.getfield 72, 3) := by decide +kernel
theorem d_CL_linearB_198 : decode b_CL_linearB 198 = .ok (.invokevirtual 145, 3) := by decide +kernel
theorem d_CL_linearB_201 : decode b_CL_linearB 201 = .ok (.iconst 0, 1) := by decide +kernel
theorem d_CL_linearB_202 : decode b_CL_linearB 202 = .ok (.invokevirtual 148, 3) := by decide +kernel
theorem d_CL_linearB_205 : decode b_CL_linearB 205 = .ok (.ireturn, 1) := by decide +kernel
abbrev w_CL_linearB : List Cond := Cond.code y_CL_linearB b_CL_linearB 7 (some .int) :: gw
abbrev rm_CL_linearB (K : Nat) : Room := { frames := 29, cells := 4 * K + 1, slots := 308 * K + 6, locals := 740 }
set_option maxHeartbeats 4000000 in
set_option maxRecDepth 100000 in
theorem c_CL_linearB (l : Launch) (hlt : l.stackTraces = false) (D : va_G) (ty : Nat → ClassId) (h : Nat → Nat) (cA : ClassId) (px : va_W) (sa : Nat → Nat) (σ : St) (G : Nat → Nat → Prop) (Sp : Nat → St → Prop) (hac : ∀ x, k_Te_kindOf x σ ∧ k_Te_firstOf x σ ∧ k_Te_secondOf x σ ∧ k_Te_topOf x σ ∧ k_Te_bottomOf x σ) (C : Cl σ G Sp) (A0 : Nat → Option Nat) (x0 xe xt : Itm) (P : List Itm) (sz : Nat) (a1 a2 a3 a4 a5 a6 : Int32) (K : Nat) (Pe Q0 Q1 Q2 Q3 : St → Prop) (v : XR) (h45 : h 45 = xe.1 0) (h49 : h 49 = xt.1 0) (hBI : BI Sp A0 (x0 :: xe :: xt :: P)) (hPe : Pe xe.2) (hP0 : Q0 (f_Su_wipes xt.2)) (hL1 : LD σ G Sp Pe a1 a4 Q0 Q1) (hL2 : LD σ G Sp Pe a2 a5 Q1 Q2) (hL3 : LD σ G Sp Pe a3 a6 Q2 Q3) (hKK : K = cn (dmL σ a3 (dmL σ a2 (dmL σ a1 (dom A0)))) 100 - cn (dom A0) 100) (hsh : k_CL_isShut σ ∧ f_CL_isShut σ = 0) (hh1 : k_Te_has a1 σ ∧ ¬ f_Te_has a1 σ = 0) (hh2 : k_CL_isTermOrNone a2 σ ∧ ¬ f_CL_isTermOrNone a2 σ = 0) (hh3 : k_CL_isTermOrNone a3 σ ∧ ¬ f_CL_isTermOrNone a3 σ = 0) (h23 : a2 = -1 → a3 = -1) (ht1 : k_Ba_takes a1 a4 σ ∧ ¬ f_Ba_takes a1 a4 σ = 0) (ht2 : k_Ba_takes a2 a5 σ ∧ ¬ f_Ba_takes a2 a5 σ = 0) (ht3 : k_Ba_takes a3 a6 σ ∧ ¬ f_Ba_takes a3 a6 σ = 0) (hfin : ∀ tt, Q3 tt → k_Su_isTooGreats tt ∧ (tt.1 0 4 = 0 → k_Su_signOfConstants tt ∧ k_Su_hasAtoms tt) ∧ fin3 tt a1 a2 a3 (nxt a3 a6 (nxt a2 a5 (nxt a1 a4 (sF σ 24 5 0)))) = v) (hkE : k_Ro_join a1 (f_Ro_wipe (nxt a3 a6 (nxt a2 a5 (nxt a1 a4 (sF σ 24 5 0))))) ∧ k_Ro_join a2 (f_Ro_join a1 (f_Ro_wipe (nxt a3 a6 (nxt a2 a5 (nxt a1 a4 (sF σ 24 5 0)))))) ∧ k_Ro_join a3 (f_Ro_join a2 (f_Ro_join a1 (f_Ro_wipe (nxt a3 a6 (nxt a2 a5 (nxt a1 a4 (sF σ 24 5 0))))))) ∧ k_CL_enterRow (f_Sc_innermost (jn3 a1 a2 a3 (nxt a3 a6 (nxt a2 a5 (nxt a1 a4 (sF σ 24 5 0)))))) 0 (jn3 a1 a2 a3 (nxt a3 a6 (nxt a2 a5 (nxt a1 a4 (sF σ 24 5 0)))))) : xMet l y_CL_linearB w_CL_linearB (rm_CL_linearB K) (va_Pc [.ref (h 0), .int a1, .int a2, .int a3, .int a4, .int a5, .int a6] (fun U => U.heap.size = sz ∧ va_P D classes (WB ty h σ cA A0 px (x0 :: xe :: xt :: P)) U.heap ∧ va_K D classes (TA ty cA) U ∧ NW U ∧ XK sa (va_A (WB ty h σ cA A0 px (x0 :: xe :: xt :: P)) sz) U U.heap ∧ MK sa (va_A (WB ty h σ cA A0 px (x0 :: xe :: xt :: P)) sz) U U.heap ∧ va_D (fun _ => True) (WB ty h σ cA A0 px (x0 :: xe :: xt :: P)))) (RxB D (fun w u => WB ty h u cA w.1 px (x0 :: (xe.1, w.2.1) :: (xt.1, w.2.2.1) :: w.2.2.2)) (fun w => (∃ N, w.2.2.2 = P ++ N) ∧ BI Sp w.1 (x0 :: (xe.1, w.2.1) :: (xt.1, w.2.2.1) :: w.2.2.2) ∧ dom w.1 = dmL σ a3 (dmL σ a2 (dmL σ a1 (dom A0))) ∧ Pe w.2.1 ∧ Q3 w.2.2.1) (va_A (WB ty h σ cA A0 px (x0 :: xe :: xt :: P)) sz) v) (4 * K + 1) (308 * K + 6) (va_A (WB ty h σ cA A0 px (x0 :: xe :: xt :: P)) sz) := by
  refine xMet.ofW (cc := b_CL_linearB) (maxL := 7) (ret := (some .int)) (by decide) rfl ?_
  intro p e s m args below meth c s₁ B hml htab hv
  obtain ⟨ha, hsz, hP, hKA, hN, hX, hM, hD0⟩ := hv
  have hx := B.exec
  have hb := B.bytes
  have hr := B.returns
  have hg : ∀ w ∈ gw, w.before args s = true := fun w h9 => atoms_spec (ws := w_CL_linearB) B.pre w (List.mem_cons_of_mem _ h9)
  have hown : s.vm.findClass "ClauseLedger" = some m.cls := findClass_of_methodNamed B.named
  have hlocks := B.notSynchronized
  subst hsz
  have hD := hD0.self (sz := s.heap.size)
  generalize hAe : va_A (WB ty h σ cA A0 px (x0 :: xe :: xt :: P)) s.heap.size = A at hD hM hX ⊢
  have hA : ∀ q : Nat, s.heap.size ≤ q → A q := fun q h9 => by rw [← hAe]; exact Or.inr h9
  have hS : va_S A s.heap s.heap [] := va_S.rf
  have he : entryFrame m args 7 = entryFrame m ([.ref (h 0), .int a1, .int a2, .int a3, .int a4, .int a5, .int a6] : List Value).toArray 7 := by rw [ha]
  rw [he, lg_entry_eq]
  have hl := lv_entry ([.ref (h 0), .int a1, .int a2, .int a3, .int a4, .int a5, .int a6]) (n := 7) (Nat.le_of_ble_eq_true rfl)
  generalize (lg_sl ([.ref (h 0), .int a1, .int a2, .int a3, .int a4, .int a5, .int a6]) ++ List.replicate (7 - (lg_sl ([.ref (h 0), .int a1, .int a2, .int a3, .int a4, .int a5, .int a6])).length) Slot.unset).toArray = ls at hl ⊢
  have hl : lv_has ls 7 [(0, .ref (h 0)), (1, .int a1), (2, .int a2), (3, .int a3), (4, .int a4), (5, .int a5), (6, .int a6)] := hl
  have hK : va_K D classes (Ta ty) s := hKA.sub [0, 1, 2, 3] rfl
  have m1 := dm_mono σ a1 (dom A0)
  have m2 := dm_mono σ a2 (dmL σ a1 (dom A0))
  have m3 := dm_mono σ a3 (dmL σ a2 (dmL σ a1 (dom A0)))
  have hx1 : dmL σ a1 (dom A0) = dmL σ a1 (dom A0) := rfl
  generalize hX1 : dmL σ a1 (dom A0) = X1 at m1 m2 m3 hKK ⊢
  generalize hX2 : dmL σ a2 X1 = X2 at m2 m3 hKK ⊢
  generalize hX3 : dmL σ a3 X2 = X3 at m3 hKK ⊢
  clear hx1
  have n1 : ∀ d X t, nd (sF σ 24 5 0) d X t = nd σ d X t := fun d X t => nd5 σ 0 d X t
  have n2 : ∀ d X t, nd (nxt a1 a4 (sF σ 24 5 0)) d X t = nd σ d X t := fun d X t => (nd5 _ _ d X t).trans (n1 d X t)
  have n3 : ∀ d X t, nd (nxt a2 a5 (nxt a1 a4 (sF σ 24 5 0))) d X t = nd σ d X t := fun d X t => (nd5 _ _ d X t).trans (n2 d X t)
  have B132 : ∀ (H : Heap) (locs : List Loc) (ls : Array Slot) (A1 : Nat → Option Nat) (e1 t1 : St) (P1 : List Itm), (∃ N, P1 = P ++ N) → BI Sp A1 (x0 :: (xe.1, e1) :: (xt.1, t1) :: P1) → dom A1 = X3 → Pe e1 → Q3 t1 → lv_has ls 7 [(0, .ref (h 0)), (1, .int a1), (2, .int a2), (3, .int a3), (4, .int a4), (5, .int a5), (6, .int a6)] → va_P D classes (WB ty h (nxt a3 a6 (nxt a2 a5 (nxt a1 a4 (sF σ 24 5 0)))) cA A1 px (x0 :: (xe.1, e1) :: (xt.1, t1) :: P1)) H → va_D A (WB ty h (nxt a3 a6 (nxt a2 a5 (nxt a1 a4 (sF σ 24 5 0)))) cA A1 px (x0 :: (xe.1, e1) :: (xt.1, t1) :: P1)) → va_S A s.heap H locs → W p l e (headSpec w_CL_linearB (rm_CL_linearB K)).room s m args below meth c H locs (4 * K) (308 * K) (xMQ below (RxB D (fun w u => WB ty h u cA w.1 px (x0 :: (xe.1, w.2.1) :: (xt.1, w.2.2.1) :: w.2.2.2)) (fun w => (∃ N, w.2.2.2 = P ++ N) ∧ BI Sp w.1 (x0 :: (xe.1, w.2.1) :: (xt.1, w.2.2.1) :: w.2.2.2) ∧ dom w.1 = X3 ∧ Pe w.2.1 ∧ Q3 w.2.2.1) A v) args s (4 * K + 1) (308 * K + 6) A) (F0 m 132 ls []) := by
    intro H locs ls A1 e1 t1 P1 q1 q2 q3 q4 q5 hl hP hD hS
    obtain ⟨kt, kg, hv⟩ := hfin t1 q5
    replace hv := hv.symm
    obtain ⟨kj1, kj2, kj3, kE⟩ := hkE
    obtain ⟨σ4, hσ4⟩ : ∃ y, (nxt a3 a6 (nxt a2 a5 (nxt a1 a4 (sF σ 24 5 0)))) = y := ⟨_, rfl⟩
    rw [hσ4] at hP hD hv kj1 kj2 kj3 kE
    obtain ⟨R, hR⟩ := zp_on (L := (x0 :: (xe.1, e1) :: (xt.1, t1) :: P1)) (i := 2) (x := (xt.1, t1)) rfl
    have p0 : List.Perm (x0 :: (xe.1, e1) :: (xt.1, t1) :: P1) ((xt.1, t1) :: R) := hR (xt.1, t1)
    have hPt := zp_P hP (WB_in p0)
    refine lv_aload_n hx hb d_CL_linearB_132 rfl (lv_at hl 0 rfl) ?_
    refine va_get (v := .ref (h 24)) (C := R_CL) (T := T_CL) (N := 11) hx hb hg in_CL hown hK hP 0 rfl rfl 6 (by decide) (hg _ m_290) (fun _ h9 => h9) rfl d_CL_linearB_133 ?_
    refine zz_callV (va_runV (As := []) (rest := []) ⟨hx, hb, hml, hown, hg⟩ (c_Ba_tooGreat l D ty h xt.1 ((h 40, .inl (cA, (100, .inr (.inr (.inr (.inr A1)))))) :: SW ty px R) sa σ4 t1 h49 kt) ⟨callB_of 0 hg (gw_C m_1152) rfl rfl rfl (hg _ m_8) (hg _ m_1149) hd_Ba_tooGreat ⟨(by simp only [headSpec, rm_CL_linearB, rm_Ba_tooGreat]; omega), (by simp only [headSpec, rm_CL_linearB, rm_Ba_tooGreat]; omega)⟩, hg _ m_1150, hg _ m_1151⟩ (zz_preV (hM.at hS) hN hK hPt 24 rfl rfl) rfl rfl hl.1 rfl (lv_room (Nat.le_of_ble_eq_true rfl)) d_CL_linearB_136 ⟨by show _ ≤ 4 * K + 1; omega, by show _ ≤ 308 * K + 6; omega⟩) ?_
    refine lv_if_eq (tgt := 147) hx hb d_CL_linearB_139 (by decide) (fun hc => ?_) (fun hc => ?_)
    · have hv := hv.trans (if_pos hc)
      obtain ⟨kg1, kg2⟩ := kg hc
      refine lv_aload_n hx hb d_CL_linearB_147 rfl (lv_at hl 0 rfl) ?_
      refine va_get (v := .ref (h 24)) (C := R_CL) (T := T_CL) (N := 11) hx hb hg in_CL hown hK hP 0 rfl rfl 6 (by decide) (hg _ m_290) (fun _ h9 => h9) rfl d_CL_linearB_148 ?_
      refine zz_callV (va_runV (As := []) (rest := []) ⟨hx, hb, hml, hown, hg⟩ (c_Ba_grants l D ty h xt.1 ((h 40, .inl (cA, (100, .inr (.inr (.inr (.inr A1)))))) :: SW ty px R) sa σ4 t1 h49 kg1 kg2) ⟨callB_of 0 hg (gw_C m_1160) rfl rfl rfl (hg _ m_8) (hg _ m_1157) hd_Ba_grants ⟨(by simp only [headSpec, rm_CL_linearB, rm_Ba_grants]; omega), (by simp only [headSpec, rm_CL_linearB, rm_Ba_grants]; omega)⟩, hg _ m_1158, hg _ m_1159⟩ (zz_preV (hM.at hS) hN hK hPt 24 rfl rfl) rfl rfl hl.1 rfl (lv_room (Nat.le_of_ble_eq_true rfl)) d_CL_linearB_151 ⟨by show _ ≤ 4 * K + 1; omega, by show _ ≤ 308 * K + 6; omega⟩) ?_
      refine lv_if_ne (tgt := 162) hx hb d_CL_linearB_154 (by decide) (fun hc2 => ?_) (fun hc2 => ?_)
      · have hv := hv.trans (if_neg hc2)
        refine lv_aload_n hx hb d_CL_linearB_162 rfl (lv_at hl 0 rfl) ?_
        refine va_get (v := .ref (h 25)) (C := R_CL) (T := T_CL) (N := 11) hx hb hg in_CL hown hK hP 0 rfl rfl 7 (by decide) (hg _ m_291) (fun _ h9 => h9) rfl d_CL_linearB_163 ?_
        refine va_callv (va_runV (As := []) (rest := []) ⟨hx, hb, hml, hown, hg⟩ (c_Ro_wipe l D ty h ((h 40, .inl (cA, (100, .inr (.inr (.inr (.inr A1)))))) :: SW ty px (x0 :: (xe.1, e1) :: (xt.1, t1) :: P1)) sa σ4 H.size trivial) ⟨callB_of 0 hg (gw_C m_935) rfl rfl rfl (hg _ m_10) (hg _ m_932) hd_Ro_wipe ⟨(by simp only [headSpec, rm_CL_linearB, rm_Ro_wipe]; omega), (by simp only [headSpec, rm_CL_linearB, rm_Ro_wipe]; omega)⟩, hg _ m_933, hg _ m_934⟩ (zz_preVW hM hS hA hN hK hP hD 25 rfl rfl) rfl rfl hl.1 rfl (lv_room (Nat.le_of_ble_eq_true rfl)) d_CL_linearB_166 ⟨by show _ ≤ 4 * K + 1; omega, by show _ ≤ 308 * K + 6; omega⟩) hS (fun q _ h => zz_free hD hS hA q h) (zz_free hD hS hA) (fun u1 t9 H locs ht9 hvm hp hP1 hz9 hk9 hS9 => ?_)
        rw [ht9] at hP1
        have hDn : va_D A (WB ty h u1 cA A1 px (x0 :: (xe.1, e1) :: (xt.1, t1) :: P1)) := zz_D hD rfl
        clear hP hD hS hz9 hk9
        have hP : va_P D classes (WB ty h u1 cA A1 px (x0 :: (xe.1, e1) :: (xt.1, t1) :: P1)) H := hP1
        have hD := hDn
        have hS := hS9
        subst hp
        refine lv_aload_n hx hb d_CL_linearB_169 rfl (lv_at hl 0 rfl) ?_
        refine va_get (v := .ref (h 25)) (C := R_CL) (T := T_CL) (N := 11) hx hb hg in_CL hown hK hP 0 rfl rfl 7 (by decide) (hg _ m_291) (fun _ h9 => h9) rfl d_CL_linearB_170 ?_
        refine lv_iload_n hx hb d_CL_linearB_173 rfl (lv_at hl 1 rfl) ?_
        refine va_callv (va_runV (As := [.int a1]) (rest := []) ⟨hx, hb, hml, hown, hg⟩ (c_Ro_join l D ty h ((h 40, .inl (cA, (100, .inr (.inr (.inr (.inr A1)))))) :: SW ty px (x0 :: (xe.1, e1) :: (xt.1, t1) :: P1)) sa (f_Ro_wipe σ4) H.size a1 kj1) ⟨callB_of 1 hg (gw_C m_939) rfl rfl rfl (hg _ m_10) (hg _ m_936) hd_Ro_join ⟨(by simp only [headSpec, rm_CL_linearB, rm_Ro_join]; omega), (by simp only [headSpec, rm_CL_linearB, rm_Ro_join]; omega)⟩, hg _ m_937, hg _ m_938⟩ (zz_preVW hM hS hA hN hK hP hD 25 rfl rfl) rfl rfl hl.1 rfl (lv_room (Nat.le_of_ble_eq_true rfl)) d_CL_linearB_174 ⟨by show _ ≤ 4 * K + 1; omega, by show _ ≤ 308 * K + 6; omega⟩) hS (fun q _ h => zz_free hD hS hA q h) (zz_free hD hS hA) (fun u2 t9 H locs ht9 hvm hp hP1 hz9 hk9 hS9 => ?_)
        rw [ht9] at hP1
        have hDn : va_D A (WB ty h u2 cA A1 px (x0 :: (xe.1, e1) :: (xt.1, t1) :: P1)) := zz_D hD rfl
        clear hP hD hS hz9 hk9
        have hP : va_P D classes (WB ty h u2 cA A1 px (x0 :: (xe.1, e1) :: (xt.1, t1) :: P1)) H := hP1
        have hD := hDn
        have hS := hS9
        subst hp
        refine lv_aload_n hx hb d_CL_linearB_177 rfl (lv_at hl 0 rfl) ?_
        refine va_get (v := .ref (h 25)) (C := R_CL) (T := T_CL) (N := 11) hx hb hg in_CL hown hK hP 0 rfl rfl 7 (by decide) (hg _ m_291) (fun _ h9 => h9) rfl d_CL_linearB_178 ?_
        refine lv_iload_n hx hb d_CL_linearB_181 rfl (lv_at hl 2 rfl) ?_
        refine va_callv (va_runV (As := [.int a2]) (rest := []) ⟨hx, hb, hml, hown, hg⟩ (c_Ro_join l D ty h ((h 40, .inl (cA, (100, .inr (.inr (.inr (.inr A1)))))) :: SW ty px (x0 :: (xe.1, e1) :: (xt.1, t1) :: P1)) sa (f_Ro_join a1 (f_Ro_wipe σ4)) H.size a2 kj2) ⟨callB_of 1 hg (gw_C m_939) rfl rfl rfl (hg _ m_10) (hg _ m_936) hd_Ro_join ⟨(by simp only [headSpec, rm_CL_linearB, rm_Ro_join]; omega), (by simp only [headSpec, rm_CL_linearB, rm_Ro_join]; omega)⟩, hg _ m_937, hg _ m_938⟩ (zz_preVW hM hS hA hN hK hP hD 25 rfl rfl) rfl rfl hl.1 rfl (lv_room (Nat.le_of_ble_eq_true rfl)) d_CL_linearB_182 ⟨by show _ ≤ 4 * K + 1; omega, by show _ ≤ 308 * K + 6; omega⟩) hS (fun q _ h => zz_free hD hS hA q h) (zz_free hD hS hA) (fun u3 t9 H locs ht9 hvm hp hP1 hz9 hk9 hS9 => ?_)
        rw [ht9] at hP1
        have hDn : va_D A (WB ty h u3 cA A1 px (x0 :: (xe.1, e1) :: (xt.1, t1) :: P1)) := zz_D hD rfl
        clear hP hD hS hz9 hk9
        have hP : va_P D classes (WB ty h u3 cA A1 px (x0 :: (xe.1, e1) :: (xt.1, t1) :: P1)) H := hP1
        have hD := hDn
        have hS := hS9
        subst hp
        refine lv_aload_n hx hb d_CL_linearB_185 rfl (lv_at hl 0 rfl) ?_
        refine va_get (v := .ref (h 25)) (C := R_CL) (T := T_CL) (N := 11) hx hb hg in_CL hown hK hP 0 rfl rfl 7 (by decide) (hg _ m_291) (fun _ h9 => h9) rfl d_CL_linearB_186 ?_
        refine lv_iload_n hx hb d_CL_linearB_189 rfl (lv_at hl 3 rfl) ?_
        refine va_callv (va_runV (As := [.int a3]) (rest := []) ⟨hx, hb, hml, hown, hg⟩ (c_Ro_join l D ty h ((h 40, .inl (cA, (100, .inr (.inr (.inr (.inr A1)))))) :: SW ty px (x0 :: (xe.1, e1) :: (xt.1, t1) :: P1)) sa (f_Ro_join a2 (f_Ro_join a1 (f_Ro_wipe σ4))) H.size a3 kj3) ⟨callB_of 1 hg (gw_C m_939) rfl rfl rfl (hg _ m_10) (hg _ m_936) hd_Ro_join ⟨(by simp only [headSpec, rm_CL_linearB, rm_Ro_join]; omega), (by simp only [headSpec, rm_CL_linearB, rm_Ro_join]; omega)⟩, hg _ m_937, hg _ m_938⟩ (zz_preVW hM hS hA hN hK hP hD 25 rfl rfl) rfl rfl hl.1 rfl (lv_room (Nat.le_of_ble_eq_true rfl)) d_CL_linearB_190 ⟨by show _ ≤ 4 * K + 1; omega, by show _ ≤ 308 * K + 6; omega⟩) hS (fun q _ h => zz_free hD hS hA q h) (zz_free hD hS hA) (fun u4 t9 H locs ht9 hvm hp hP1 hz9 hk9 hS9 => ?_)
        rw [ht9] at hP1
        have hDn : va_D A (WB ty h u4 cA A1 px (x0 :: (xe.1, e1) :: (xt.1, t1) :: P1)) := zz_D hD rfl
        clear hP hD hS hz9 hk9
        have hP : va_P D classes (WB ty h u4 cA A1 px (x0 :: (xe.1, e1) :: (xt.1, t1) :: P1)) H := hP1
        have hD := hDn
        have hS := hS9
        subst hp
        have hP : va_P D classes (WB ty h (jn3 a1 a2 a3 σ4) cA A1 px (x0 :: (xe.1, e1) :: (xt.1, t1) :: P1)) H := hP
        have hD : va_D A (WB ty h (jn3 a1 a2 a3 σ4) cA A1 px (x0 :: (xe.1, e1) :: (xt.1, t1) :: P1)) := hD
        refine lv_aload_n hx hb d_CL_linearB_193 rfl (lv_at hl 0 rfl) ?_
        refine lv_aload_n hx hb d_CL_linearB_194 rfl (lv_at hl 0 rfl) ?_
        refine va_get (v := .ref (h 27)) (C := R_CL) (T := T_CL) (N := 11) hx hb hg in_CL hown hK hP 0 rfl rfl 8 (by decide) (hg _ m_292) (fun _ h9 => h9) rfl d_CL_linearB_195 ?_
        refine zz_callV (va_runV (As := []) (rest := [.ref (h 0)]) ⟨hx, hb, hml, hown, hg⟩ (c_Sc_innermost l D ty h ((h 40, .inl (cA, (100, .inr (.inr (.inr (.inr A1)))))) :: SW ty px (x0 :: (xe.1, e1) :: (xt.1, t1) :: P1)) sa (jn3 a1 a2 a3 σ4) trivial) ⟨callB_of 0 hg (gw_C m_943) rfl rfl rfl (hg _ m_11) (hg _ m_940) hd_Sc_innermost ⟨(by simp only [headSpec, rm_CL_linearB, rm_Sc_innermost]; omega), (by simp only [headSpec, rm_CL_linearB, rm_Sc_innermost]; omega)⟩, hg _ m_941, hg _ m_942⟩ (zz_preV (hM.at hS) hN hK hP 27 rfl rfl) rfl rfl hl.1 rfl (lv_room (Nat.le_of_ble_eq_true rfl)) d_CL_linearB_198 ⟨by show _ ≤ 4 * K + 1; omega, by show _ ≤ 308 * K + 6; omega⟩) ?_
        refine lv_iconst (v := 0) hx hb d_CL_linearB_201 (by decide) ?_
        refine x_callV (As := [.int (f_Sc_innermost (jn3 a1 a2 a3 σ4)), .int 0]) (rest := []) ⟨hx, hb, hml, hown, hg⟩ (c_CL_enterRow l hlt D ty h ((h 40, .inl (cA, (100, .inr (.inr (.inr (.inr A1)))))) :: SW ty px (x0 :: (xe.1, e1) :: (xt.1, t1) :: P1)) sa (jn3 a1 a2 a3 σ4) H.size (f_Sc_innermost (jn3 a1 a2 a3 σ4)) 0 kE) ⟨callB_of 2 hg (gw_C m_947) rfl rfl rfl (hg _ m_1) (hg _ m_944) hd_CL_enterRow ⟨(by simp only [headSpec, rm_CL_linearB, rm_CL_enterRow]; omega), (by simp only [headSpec, rm_CL_linearB, rm_CL_enterRow]; omega)⟩, hg _ m_946, hg _ ms_30⟩ (zz_preX hM hN hX hS hA hK hP hD 0 rfl rfl) rfl hl.1 rfl (Nat.le_of_ble_eq_true rfl) d_CL_linearB_202 ⟨by show _ ≤ 4 * K + 1; omega, by show _ ≤ 308 * K + 6; omega⟩ (fun r9 st9 t9 L9 h09 hal9 hR9 hL9 => ?_) (fun q9 st9 t9 L9 h09 h19 hal9 hR9 hL9 => ?_)
        · obtain ⟨hF9, hP9, x, rfl, hz9⟩ := hR9
          have hv := hv.trans (xb_l hz9)
          have hS := zz_xS hS h09 hF9 (zz_free hD hS hA) hL9
          have hDv : va_D A (WB ty h v.2 cA A1 px (x0 :: (xe.1, e1) :: (xt.1, t1) :: P1)) := zz_D hD rfl
          refine W.eq (g2 := F0 m 205 ls [.int x]) rfl ?_
          exact x_ret (fun o t hq => by obtain ⟨rfl, ht⟩ := hq; exact ⟨(A1, e1, t1, P1), ⟨q1, q2, q3, q4, q5⟩, hDv, hS.F ht, by rw [ht, hv]; exact hP9, x, rfl, by rw [hv]⟩) (by omega) (by omega) (W.iret (Qc := fun _ _ o t => o = .returned (some (.int x)) ∧ t.heap = t9.heap) hx hb hr (fun t ht hW => ⟨rfl, ht⟩) hS.2.2 d_CL_linearB_205)
        · obtain ⟨hF9, hP9, E9, ce9, hz9, hq9, hn9, hc9⟩ := hR9
          have hv := hv.trans (xb_r hz9)
          have hS := zz_xS hS h09 hF9 (zz_free hD hS hA) hL9
          have hDv : va_D A (WB ty h v.2 cA A1 px (x0 :: (xe.1, e1) :: (xt.1, t1) :: P1)) := zz_D hD rfl
          exact x_out htab hlocks (fun t ht hal => ⟨(A1, e1, t1, P1), ⟨q1, q2, q3, q4, q5⟩, hDv, hS.F ht, by rw [ht, hv]; exact hP9, E9, ce9, by rw [hv], by rw [ht]; exact hq9, hn9, by rw [h19.findClass]; exact hc9⟩) hS.2.2 (by omega) (by omega)
      · have hv := hv.trans (if_pos hc2)
        refine lv_aload_n hx hb d_CL_linearB_157 rfl (lv_at hl 0 rfl) ?_
        refine x_callV (As := []) (rest := []) ⟨hx, hb, hml, hown, hg⟩ (c_CL_throwWrong l hlt D ty h ((h 40, .inl (cA, (100, .inr (.inr (.inr (.inr A1)))))) :: SW ty px (x0 :: (xe.1, e1) :: (xt.1, t1) :: P1)) sa σ4 H.size (kthr2 σ4)) ⟨callB_of 0 hg (gw_C m_774) rfl rfl rfl (hg _ m_1) (hg _ m_771) hd_CL_throwWrong ⟨(by simp only [headSpec, rm_CL_linearB, rm_CL_throwWrong]; omega), (by simp only [headSpec, rm_CL_linearB, rm_CL_throwWrong]; omega)⟩, hg _ m_773, hg _ ms_24⟩ (zz_preX hM hN hX hS hA hK hP hD 0 rfl rfl) rfl hl.1 rfl (Nat.le_of_ble_eq_true rfl) d_CL_linearB_158 ⟨by show _ ≤ 4 * K + 1; omega, by show _ ≤ 308 * K + 6; omega⟩ (fun r9 st9 t9 L9 h09 hal9 hR9 hL9 => ?_) (fun q9 st9 t9 L9 h09 h19 hal9 hR9 hL9 => ?_)
        · obtain ⟨hF9, hP9, x, rfl, hz9⟩ := hR9
          have hv := hv.trans (xb_l hz9)
          have hS := zz_xS hS h09 hF9 (zz_free hD hS hA) hL9
          have hDv : va_D A (WB ty h v.2 cA A1 px (x0 :: (xe.1, e1) :: (xt.1, t1) :: P1)) := zz_D hD rfl
          refine W.eq (g2 := F0 m 161 ls [.int x]) rfl ?_
          exact x_ret (fun o t hq => by obtain ⟨rfl, ht⟩ := hq; exact ⟨(A1, e1, t1, P1), ⟨q1, q2, q3, q4, q5⟩, hDv, hS.F ht, by rw [ht, hv]; exact hP9, x, rfl, by rw [hv]⟩) (by omega) (by omega) (W.iret (Qc := fun _ _ o t => o = .returned (some (.int x)) ∧ t.heap = t9.heap) hx hb hr (fun t ht hW => ⟨rfl, ht⟩) hS.2.2 d_CL_linearB_161)
        · obtain ⟨hF9, hP9, E9, ce9, hz9, hq9, hn9, hc9⟩ := hR9
          have hv := hv.trans (xb_r hz9)
          have hS := zz_xS hS h09 hF9 (zz_free hD hS hA) hL9
          have hDv : va_D A (WB ty h v.2 cA A1 px (x0 :: (xe.1, e1) :: (xt.1, t1) :: P1)) := zz_D hD rfl
          exact x_out htab hlocks (fun t ht hal => ⟨(A1, e1, t1, P1), ⟨q1, q2, q3, q4, q5⟩, hDv, hS.F ht, by rw [ht, hv]; exact hP9, E9, ce9, by rw [hv], by rw [ht]; exact hq9, hn9, by rw [h19.findClass]; exact hc9⟩) hS.2.2 (by omega) (by omega)
    · have hv := hv.trans (if_neg hc)
      refine lv_aload_n hx hb d_CL_linearB_142 rfl (lv_at hl 0 rfl) ?_
      refine x_callV (As := []) (rest := []) ⟨hx, hb, hml, hown, hg⟩ (c_CL_throwTooGreat l hlt D ty h ((h 40, .inl (cA, (100, .inr (.inr (.inr (.inr A1)))))) :: SW ty px (x0 :: (xe.1, e1) :: (xt.1, t1) :: P1)) sa σ4 H.size (kthr3 σ4)) ⟨callB_of 0 hg (gw_C m_858) rfl rfl rfl (hg _ m_1) (hg _ m_855) hd_CL_throwTooGreat ⟨(by simp only [headSpec, rm_CL_linearB, rm_CL_throwTooGreat]; omega), (by simp only [headSpec, rm_CL_linearB, rm_CL_throwTooGreat]; omega)⟩, hg _ m_857, hg _ ms_27⟩ (zz_preX hM hN hX hS hA hK hP hD 0 rfl rfl) rfl hl.1 rfl (Nat.le_of_ble_eq_true rfl) d_CL_linearB_143 ⟨by show _ ≤ 4 * K + 1; omega, by show _ ≤ 308 * K + 6; omega⟩ (fun r9 st9 t9 L9 h09 hal9 hR9 hL9 => ?_) (fun q9 st9 t9 L9 h09 h19 hal9 hR9 hL9 => ?_)
      · obtain ⟨hF9, hP9, x, rfl, hz9⟩ := hR9
        have hv := hv.trans (xb_l hz9)
        have hS := zz_xS hS h09 hF9 (zz_free hD hS hA) hL9
        have hDv : va_D A (WB ty h v.2 cA A1 px (x0 :: (xe.1, e1) :: (xt.1, t1) :: P1)) := zz_D hD rfl
        refine W.eq (g2 := F0 m 146 ls [.int x]) rfl ?_
        exact x_ret (fun o t hq => by obtain ⟨rfl, ht⟩ := hq; exact ⟨(A1, e1, t1, P1), ⟨q1, q2, q3, q4, q5⟩, hDv, hS.F ht, by rw [ht, hv]; exact hP9, x, rfl, by rw [hv]⟩) (by omega) (by omega) (W.iret (Qc := fun _ _ o t => o = .returned (some (.int x)) ∧ t.heap = t9.heap) hx hb hr (fun t ht hW => ⟨rfl, ht⟩) hS.2.2 d_CL_linearB_146)
      · obtain ⟨hF9, hP9, E9, ce9, hz9, hq9, hn9, hc9⟩ := hR9
        have hv := hv.trans (xb_r hz9)
        have hS := zz_xS hS h09 hF9 (zz_free hD hS hA) hL9
        have hDv : va_D A (WB ty h v.2 cA A1 px (x0 :: (xe.1, e1) :: (xt.1, t1) :: P1)) := zz_D hD rfl
        exact x_out htab hlocks (fun t ht hal => ⟨(A1, e1, t1, P1), ⟨q1, q2, q3, q4, q5⟩, hDv, hS.F ht, by rw [ht, hv]; exact hP9, E9, ce9, by rw [hv], by rw [ht]; exact hq9, hn9, by rw [h19.findClass]; exact hc9⟩) hS.2.2 (by omega) (by omega)
  have B122 : ∀ (H : Heap) (locs : List Loc) (ls : Array Slot) (A1 : Nat → Option Nat) (e1 t1 : St) (P1 : List Itm), (∃ N, P1 = P ++ N) → BI Sp A1 (x0 :: (xe.1, e1) :: (xt.1, t1) :: P1) → dom A1 = X2 → Pe e1 → Q2 t1 → lv_has ls 7 [(0, .ref (h 0)), (1, .int a1), (2, .int a2), (3, .int a3), (4, .int a4), (5, .int a5), (6, .int a6)] → va_P D classes (WB ty h (nxt a2 a5 (nxt a1 a4 (sF σ 24 5 0))) cA A1 px (x0 :: (xe.1, e1) :: (xt.1, t1) :: P1)) H → va_D A (WB ty h (nxt a2 a5 (nxt a1 a4 (sF σ 24 5 0))) cA A1 px (x0 :: (xe.1, e1) :: (xt.1, t1) :: P1)) → va_S A s.heap H locs → W p l e (headSpec w_CL_linearB (rm_CL_linearB K)).room s m args below meth c H locs (4 * (cn (X2) 100 - cn (dom A0) 100)) (308 * (cn (X2) 100 - cn (dom A0) 100)) (xMQ below (RxB D (fun w u => WB ty h u cA w.1 px (x0 :: (xe.1, w.2.1) :: (xt.1, w.2.2.1) :: w.2.2.2)) (fun w => (∃ N, w.2.2.2 = P ++ N) ∧ BI Sp w.1 (x0 :: (xe.1, w.2.1) :: (xt.1, w.2.2.1) :: w.2.2.2) ∧ dom w.1 = X3 ∧ Pe w.2.1 ∧ Q3 w.2.2.1) A v) args s (4 * K + 1) (308 * K + 6) A) (F0 m 122 ls []) := by
    intro H locs ls A1 e1 t1 P1 q1 q2 q3 q4 q5 hl hP hD hS
    have hLk : LD (nxt a2 a5 (nxt a1 a4 (sF σ 24 5 0))) G Sp Pe a3 a6 Q2 Q3 := LD5 _ (LD5 _ (LD5 _ hL3))
    have hCk : Cl (nxt a2 a5 (nxt a1 a4 (sF σ 24 5 0))) G Sp := Cl5 _ (Cl5 _ (Cl5 _ C))
    have hak : ∀ x, k_Te_kindOf x (nxt a2 a5 (nxt a1 a4 (sF σ 24 5 0))) ∧ k_Te_firstOf x (nxt a2 a5 (nxt a1 a4 (sF σ 24 5 0))) ∧ k_Te_secondOf x (nxt a2 a5 (nxt a1 a4 (sF σ 24 5 0))) ∧ k_Te_topOf x (nxt a2 a5 (nxt a1 a4 (sF σ 24 5 0))) ∧ k_Te_bottomOf x (nxt a2 a5 (nxt a1 a4 (sF σ 24 5 0))) := ac5 (stM a2 a5 (nxt a1 a4 (sF σ 24 5 0))) (ac5 (stM a1 a4 (sF σ 24 5 0)) (ac5 0 hac))
    have nk := n3
    have dmk : dmL (nxt a2 a5 (nxt a1 a4 (sF σ 24 5 0))) a3 (X2) = X3 := ((dm5 _ _ _ _).trans ((dm5 _ _ _ _).trans (dm5 _ _ _ _))).trans hX3
    obtain ⟨σk, hσk⟩ : ∃ y, (nxt a2 a5 (nxt a1 a4 (sF σ 24 5 0))) = y := ⟨_, rfl⟩
    rw [hσk] at hP hD hLk hCk hak nk dmk
    refine lv_aload_n hx hb d_CL_linearB_122 rfl (lv_at hl 0 rfl) ?_
    refine va_get (v := .ref (h 24)) (C := R_CL) (T := T_CL) (N := 11) hx hb hg in_CL hown hK hP 0 rfl rfl 6 (by decide) (hg _ m_290) (fun _ h9 => h9) rfl d_CL_linearB_123 ?_
    refine lv_iload_n hx hb d_CL_linearB_126 rfl (lv_at hl 3 rfl) ?_
    refine lv_iload hx hb d_CL_linearB_127 (lv_at hl 6 rfl) ?_
    rcases hLk with ⟨z1, z2⟩ | ⟨z1, z2, a, b, z3, z4, z5, z6, z7⟩
    · have e0 : nxt a3 a6 σk = sF σk 24 5 (σk.1 24 5) := by unfold nxt stM; rw [if_pos z1]
      have eX : X3 = X2 := by rw [← dmk]; unfold dmL; rw [if_pos z1]
      have go := B132 H locs ls A1 e1 t1 P1 q1 q2 (q3.trans eX.symm) q4 (z2 t1 q5) hl
      have eN : cn (X3) 100 = cn (X2) 100 := by rw [eX]
      rw [hσk, e0] at go
      rw [z1]
      refine zz_callN (va_runV (As := [.int (-1), .int a6]) (rest := []) ⟨hx, hb, hml, hown, hg⟩ (c_Ba_load0 l D ty h ((h 40, .inl (cA, (100, .inr (.inr (.inr (.inr A1)))))) :: SW ty px (x0 :: (xe.1, e1) :: (xt.1, t1) :: P1)) sa σk a6) ⟨callB_of 2 hg (gw_C m_1105) rfl rfl rfl (hg _ m_8) (hg _ m_1102) hd_Ba_load ⟨(by simp only [headSpec, rm_CL_linearB, rm_Ba_load]; omega), (by simp only [headSpec, rm_CL_linearB, rm_Ba_load]; omega)⟩, hg _ m_1103, hg _ m_1104⟩ (zz_preV (hM.at hS) hN hK hP 24 rfl rfl) rfl rfl hl.1 rfl (lv_room (Nat.le_of_ble_eq_true rfl)) d_CL_linearB_129 ⟨by show _ ≤ 4 * K + 1; omega, by show _ ≤ 308 * K + 6; omega⟩) ?_
      refine W.widen (k := 4 * K) (n := 308 * K) (by omega) (by omega) (go hP hD hS)
    · have e0 : nxt a3 a6 σk = sF σk 24 5 (stL a3 a6 σk) := by unfold nxt stM; rw [if_neg z1]
      have eX : X3 = nd σk 12 (nd σk 12 (dom A1) a) b := by
        have ha9 := (hCk _ _ z5).1
        have hb9 := (hCk _ _ z6).1
        rw [← dmk]; unfold dmL; rw [if_neg z1, z3, z4, nI_clamp (by omega), nI_clamp (by omega), q3]
      have eN : cn (X3) 100 = cn (nd σk 12 (nd σk 12 (dom A1) a) b) 100 := by rw [eX]
      have eM : cn (dom A1) 100 = cn (X2) 100 := by rw [q3]
      refine va_callv (va_runV (As := [.int a3, .int a6]) (rest := []) ⟨hx, hb, hml, hown, hg⟩ (c_Ba_load l D ty h cA px sa σk G Sp hak hCk A1 x0 (xe.1, e1) (xt.1, t1) P1 H.size a3 a6 a b (cn (nd σk 12 (nd σk 12 (dom A1) a) b) 100 - cn (dom A1) 100) (fun e x => Pe e ∧ Q3 x) h45 h49 q2 z1 z2 z3 z4 z5 z6 rfl (z7 e1 t1 q4 q5).1 (fun α β g1 g2 => by obtain ⟨y1, y2, y3, y4⟩ := (z7 e1 t1 q4 q5).2 α β g1 g2; exact ⟨trivial, y1, y2, y3, y4⟩)) ⟨callB_of 2 hg (gw_C m_1105) rfl rfl rfl (hg _ m_8) (hg _ m_1102) hd_Ba_load ⟨(by simp only [headSpec, rm_CL_linearB, rm_Ba_load]; omega), (by simp only [headSpec, rm_CL_linearB, rm_Ba_load]; omega)⟩, hg _ m_1103, hg _ m_1104⟩ (zz_preVW hM hS hA hN hKA hP hD 24 rfl rfl) rfl rfl hl.1 rfl (lv_room (Nat.le_of_ble_eq_true rfl)) d_CL_linearB_129 ⟨by show _ + 4 * _ ≤ 4 * K + 1; omega, by show _ + 308 * _ ≤ 308 * K + 6; omega⟩) hS (fun q _ h => zz_free hD hS hA q h) (zz_free hD hS hA) (fun u9 t9 H locs ht9 hvm hp hB hz9 hk9 hS9 => ?_)
      obtain ⟨A2, e2, t2, P2⟩ := u9
      obtain ⟨⟨N2, eP2⟩, hBI2, hdm2, hQ1, hQ2⟩ := hp
      obtain ⟨hP1, hD1⟩ := hB
      rw [ht9] at hP1
      have hP1 : va_P D classes (WB ty h (sF σk 24 5 (stL a3 a6 σk)) cA A2 px (x0 :: (xe.1, e2) :: (xt.1, t2) :: P2)) H := hP1
      have hD1 : va_D A (WB ty h (sF σk 24 5 (stL a3 a6 σk)) cA A2 px (x0 :: (xe.1, e2) :: (xt.1, t2) :: P2)) := hD1.weaken (fun _ _ _ h9 => zz_free hD hS hA _ h9)
      obtain ⟨N1, eP1⟩ := q1
      have eP2 : P2 = P1 ++ N2 := eP2
      have go := B132 H locs ls A2 e2 t2 P2 ⟨N1 ++ N2, by rw [eP2, eP1, List.append_assoc]⟩ hBI2 (hdm2.trans eX.symm) hQ1 hQ2 hl
      rw [hσk, e0] at go
      refine W.widen (k := 4 * K) (n := 308 * K) ?_ ?_ (go hP1 hD1 hS9)
      · omega
      · omega
  have B112 : ∀ (H : Heap) (locs : List Loc) (ls : Array Slot) (A1 : Nat → Option Nat) (e1 t1 : St) (P1 : List Itm), (∃ N, P1 = P ++ N) → BI Sp A1 (x0 :: (xe.1, e1) :: (xt.1, t1) :: P1) → dom A1 = X1 → Pe e1 → Q1 t1 → lv_has ls 7 [(0, .ref (h 0)), (1, .int a1), (2, .int a2), (3, .int a3), (4, .int a4), (5, .int a5), (6, .int a6)] → va_P D classes (WB ty h (nxt a1 a4 (sF σ 24 5 0)) cA A1 px (x0 :: (xe.1, e1) :: (xt.1, t1) :: P1)) H → va_D A (WB ty h (nxt a1 a4 (sF σ 24 5 0)) cA A1 px (x0 :: (xe.1, e1) :: (xt.1, t1) :: P1)) → va_S A s.heap H locs → W p l e (headSpec w_CL_linearB (rm_CL_linearB K)).room s m args below meth c H locs (4 * (cn (X1) 100 - cn (dom A0) 100)) (308 * (cn (X1) 100 - cn (dom A0) 100)) (xMQ below (RxB D (fun w u => WB ty h u cA w.1 px (x0 :: (xe.1, w.2.1) :: (xt.1, w.2.2.1) :: w.2.2.2)) (fun w => (∃ N, w.2.2.2 = P ++ N) ∧ BI Sp w.1 (x0 :: (xe.1, w.2.1) :: (xt.1, w.2.2.1) :: w.2.2.2) ∧ dom w.1 = X3 ∧ Pe w.2.1 ∧ Q3 w.2.2.1) A v) args s (4 * K + 1) (308 * K + 6) A) (F0 m 112 ls []) := by
    intro H locs ls A1 e1 t1 P1 q1 q2 q3 q4 q5 hl hP hD hS
    have hLk : LD (nxt a1 a4 (sF σ 24 5 0)) G Sp Pe a2 a5 Q1 Q2 := LD5 _ (LD5 _ hL2)
    have hCk : Cl (nxt a1 a4 (sF σ 24 5 0)) G Sp := Cl5 _ (Cl5 _ C)
    have hak : ∀ x, k_Te_kindOf x (nxt a1 a4 (sF σ 24 5 0)) ∧ k_Te_firstOf x (nxt a1 a4 (sF σ 24 5 0)) ∧ k_Te_secondOf x (nxt a1 a4 (sF σ 24 5 0)) ∧ k_Te_topOf x (nxt a1 a4 (sF σ 24 5 0)) ∧ k_Te_bottomOf x (nxt a1 a4 (sF σ 24 5 0)) := ac5 (stM a1 a4 (sF σ 24 5 0)) (ac5 0 hac)
    have nk := n2
    have dmk : dmL (nxt a1 a4 (sF σ 24 5 0)) a2 (X1) = X2 := ((dm5 _ _ _ _).trans (dm5 _ _ _ _)).trans hX2
    obtain ⟨σk, hσk⟩ : ∃ y, (nxt a1 a4 (sF σ 24 5 0)) = y := ⟨_, rfl⟩
    rw [hσk] at hP hD hLk hCk hak nk dmk
    refine lv_aload_n hx hb d_CL_linearB_112 rfl (lv_at hl 0 rfl) ?_
    refine va_get (v := .ref (h 24)) (C := R_CL) (T := T_CL) (N := 11) hx hb hg in_CL hown hK hP 0 rfl rfl 6 (by decide) (hg _ m_290) (fun _ h9 => h9) rfl d_CL_linearB_113 ?_
    refine lv_iload_n hx hb d_CL_linearB_116 rfl (lv_at hl 2 rfl) ?_
    refine lv_iload hx hb d_CL_linearB_117 (lv_at hl 5 rfl) ?_
    rcases hLk with ⟨z1, z2⟩ | ⟨z1, z2, a, b, z3, z4, z5, z6, z7⟩
    · have e0 : nxt a2 a5 σk = sF σk 24 5 (σk.1 24 5) := by unfold nxt stM; rw [if_pos z1]
      have eX : X2 = X1 := by rw [← dmk]; unfold dmL; rw [if_pos z1]
      have go := B122 H locs ls A1 e1 t1 P1 q1 q2 (q3.trans eX.symm) q4 (z2 t1 q5) hl
      have eN : cn (X2) 100 = cn (X1) 100 := by rw [eX]
      rw [hσk, e0] at go
      rw [z1]
      refine zz_callN (va_runV (As := [.int (-1), .int a5]) (rest := []) ⟨hx, hb, hml, hown, hg⟩ (c_Ba_load0 l D ty h ((h 40, .inl (cA, (100, .inr (.inr (.inr (.inr A1)))))) :: SW ty px (x0 :: (xe.1, e1) :: (xt.1, t1) :: P1)) sa σk a5) ⟨callB_of 2 hg (gw_C m_1105) rfl rfl rfl (hg _ m_8) (hg _ m_1102) hd_Ba_load ⟨(by simp only [headSpec, rm_CL_linearB, rm_Ba_load]; omega), (by simp only [headSpec, rm_CL_linearB, rm_Ba_load]; omega)⟩, hg _ m_1103, hg _ m_1104⟩ (zz_preV (hM.at hS) hN hK hP 24 rfl rfl) rfl rfl hl.1 rfl (lv_room (Nat.le_of_ble_eq_true rfl)) d_CL_linearB_119 ⟨by show _ ≤ 4 * K + 1; omega, by show _ ≤ 308 * K + 6; omega⟩) ?_
      refine W.widen (k := 4 * (cn (X2) 100 - cn (dom A0) 100)) (n := 308 * (cn (X2) 100 - cn (dom A0) 100)) (by omega) (by omega) (go hP hD hS)
    · have e0 : nxt a2 a5 σk = sF σk 24 5 (stL a2 a5 σk) := by unfold nxt stM; rw [if_neg z1]
      have eX : X2 = nd σk 12 (nd σk 12 (dom A1) a) b := by
        have ha9 := (hCk _ _ z5).1
        have hb9 := (hCk _ _ z6).1
        rw [← dmk]; unfold dmL; rw [if_neg z1, z3, z4, nI_clamp (by omega), nI_clamp (by omega), q3]
      have eN : cn (X2) 100 = cn (nd σk 12 (nd σk 12 (dom A1) a) b) 100 := by rw [eX]
      have eM : cn (dom A1) 100 = cn (X1) 100 := by rw [q3]
      refine va_callv (va_runV (As := [.int a2, .int a5]) (rest := []) ⟨hx, hb, hml, hown, hg⟩ (c_Ba_load l D ty h cA px sa σk G Sp hak hCk A1 x0 (xe.1, e1) (xt.1, t1) P1 H.size a2 a5 a b (cn (nd σk 12 (nd σk 12 (dom A1) a) b) 100 - cn (dom A1) 100) (fun e x => Pe e ∧ Q2 x) h45 h49 q2 z1 z2 z3 z4 z5 z6 rfl (z7 e1 t1 q4 q5).1 (fun α β g1 g2 => by obtain ⟨y1, y2, y3, y4⟩ := (z7 e1 t1 q4 q5).2 α β g1 g2; exact ⟨trivial, y1, y2, y3, y4⟩)) ⟨callB_of 2 hg (gw_C m_1105) rfl rfl rfl (hg _ m_8) (hg _ m_1102) hd_Ba_load ⟨(by simp only [headSpec, rm_CL_linearB, rm_Ba_load]; omega), (by simp only [headSpec, rm_CL_linearB, rm_Ba_load]; omega)⟩, hg _ m_1103, hg _ m_1104⟩ (zz_preVW hM hS hA hN hKA hP hD 24 rfl rfl) rfl rfl hl.1 rfl (lv_room (Nat.le_of_ble_eq_true rfl)) d_CL_linearB_119 ⟨by show _ + 4 * _ ≤ 4 * K + 1; omega, by show _ + 308 * _ ≤ 308 * K + 6; omega⟩) hS (fun q _ h => zz_free hD hS hA q h) (zz_free hD hS hA) (fun u9 t9 H locs ht9 hvm hp hB hz9 hk9 hS9 => ?_)
      obtain ⟨A2, e2, t2, P2⟩ := u9
      obtain ⟨⟨N2, eP2⟩, hBI2, hdm2, hQ1, hQ2⟩ := hp
      obtain ⟨hP1, hD1⟩ := hB
      rw [ht9] at hP1
      have hP1 : va_P D classes (WB ty h (sF σk 24 5 (stL a2 a5 σk)) cA A2 px (x0 :: (xe.1, e2) :: (xt.1, t2) :: P2)) H := hP1
      have hD1 : va_D A (WB ty h (sF σk 24 5 (stL a2 a5 σk)) cA A2 px (x0 :: (xe.1, e2) :: (xt.1, t2) :: P2)) := hD1.weaken (fun _ _ _ h9 => zz_free hD hS hA _ h9)
      obtain ⟨N1, eP1⟩ := q1
      have eP2 : P2 = P1 ++ N2 := eP2
      have go := B122 H locs ls A2 e2 t2 P2 ⟨N1 ++ N2, by rw [eP2, eP1, List.append_assoc]⟩ hBI2 (hdm2.trans eX.symm) hQ1 hQ2 hl
      rw [hσk, e0] at go
      refine W.widen (k := 4 * (cn (X2) 100 - cn (dom A0) 100)) (n := 308 * (cn (X2) 100 - cn (dom A0) 100)) ?_ ?_ (go hP1 hD1 hS9)
      · omega
      · omega
  have B102 : ∀ (H : Heap) (locs : List Loc) (ls : Array Slot) (A1 : Nat → Option Nat) (e1 t1 : St) (P1 : List Itm), (∃ N, P1 = P ++ N) → BI Sp A1 (x0 :: (xe.1, e1) :: (xt.1, t1) :: P1) → dom A1 = dom A0 → Pe e1 → Q0 t1 → lv_has ls 7 [(0, .ref (h 0)), (1, .int a1), (2, .int a2), (3, .int a3), (4, .int a4), (5, .int a5), (6, .int a6)] → va_P D classes (WB ty h (sF σ 24 5 0) cA A1 px (x0 :: (xe.1, e1) :: (xt.1, t1) :: P1)) H → va_D A (WB ty h (sF σ 24 5 0) cA A1 px (x0 :: (xe.1, e1) :: (xt.1, t1) :: P1)) → va_S A s.heap H locs → W p l e (headSpec w_CL_linearB (rm_CL_linearB K)).room s m args below meth c H locs (4 * (cn (dom A0) 100 - cn (dom A0) 100)) (308 * (cn (dom A0) 100 - cn (dom A0) 100)) (xMQ below (RxB D (fun w u => WB ty h u cA w.1 px (x0 :: (xe.1, w.2.1) :: (xt.1, w.2.2.1) :: w.2.2.2)) (fun w => (∃ N, w.2.2.2 = P ++ N) ∧ BI Sp w.1 (x0 :: (xe.1, w.2.1) :: (xt.1, w.2.2.1) :: w.2.2.2) ∧ dom w.1 = X3 ∧ Pe w.2.1 ∧ Q3 w.2.2.1) A v) args s (4 * K + 1) (308 * K + 6) A) (F0 m 102 ls []) := by
    intro H locs ls A1 e1 t1 P1 q1 q2 q3 q4 q5 hl hP hD hS
    have hLk : LD (sF σ 24 5 0) G Sp Pe a1 a4 Q0 Q1 := LD5 _ hL1
    have hCk : Cl (sF σ 24 5 0) G Sp := Cl5 _ C
    have hak : ∀ x, k_Te_kindOf x (sF σ 24 5 0) ∧ k_Te_firstOf x (sF σ 24 5 0) ∧ k_Te_secondOf x (sF σ 24 5 0) ∧ k_Te_topOf x (sF σ 24 5 0) ∧ k_Te_bottomOf x (sF σ 24 5 0) := ac5 0 hac
    have nk := n1
    have dmk : dmL (sF σ 24 5 0) a1 (dom A0) = X1 := (dm5 _ _ _ _).trans hX1
    obtain ⟨σk, hσk⟩ : ∃ y, (sF σ 24 5 0) = y := ⟨_, rfl⟩
    rw [hσk] at hP hD hLk hCk hak nk dmk
    refine lv_aload_n hx hb d_CL_linearB_102 rfl (lv_at hl 0 rfl) ?_
    refine va_get (v := .ref (h 24)) (C := R_CL) (T := T_CL) (N := 11) hx hb hg in_CL hown hK hP 0 rfl rfl 6 (by decide) (hg _ m_290) (fun _ h9 => h9) rfl d_CL_linearB_103 ?_
    refine lv_iload_n hx hb d_CL_linearB_106 rfl (lv_at hl 1 rfl) ?_
    refine lv_iload hx hb d_CL_linearB_107 (lv_at hl 4 rfl) ?_
    rcases hLk with ⟨z1, z2⟩ | ⟨z1, z2, a, b, z3, z4, z5, z6, z7⟩
    · have e0 : nxt a1 a4 σk = sF σk 24 5 (σk.1 24 5) := by unfold nxt stM; rw [if_pos z1]
      have eX : X1 = dom A0 := by rw [← dmk]; unfold dmL; rw [if_pos z1]
      have go := B112 H locs ls A1 e1 t1 P1 q1 q2 (q3.trans eX.symm) q4 (z2 t1 q5) hl
      have eN : cn (X1) 100 = cn (dom A0) 100 := by rw [eX]
      rw [hσk, e0] at go
      rw [z1]
      refine zz_callN (va_runV (As := [.int (-1), .int a4]) (rest := []) ⟨hx, hb, hml, hown, hg⟩ (c_Ba_load0 l D ty h ((h 40, .inl (cA, (100, .inr (.inr (.inr (.inr A1)))))) :: SW ty px (x0 :: (xe.1, e1) :: (xt.1, t1) :: P1)) sa σk a4) ⟨callB_of 2 hg (gw_C m_1105) rfl rfl rfl (hg _ m_8) (hg _ m_1102) hd_Ba_load ⟨(by simp only [headSpec, rm_CL_linearB, rm_Ba_load]; omega), (by simp only [headSpec, rm_CL_linearB, rm_Ba_load]; omega)⟩, hg _ m_1103, hg _ m_1104⟩ (zz_preV (hM.at hS) hN hK hP 24 rfl rfl) rfl rfl hl.1 rfl (lv_room (Nat.le_of_ble_eq_true rfl)) d_CL_linearB_109 ⟨by show _ ≤ 4 * K + 1; omega, by show _ ≤ 308 * K + 6; omega⟩) ?_
      refine W.widen (k := 4 * (cn (X1) 100 - cn (dom A0) 100)) (n := 308 * (cn (X1) 100 - cn (dom A0) 100)) (by omega) (by omega) (go hP hD hS)
    · have e0 : nxt a1 a4 σk = sF σk 24 5 (stL a1 a4 σk) := by unfold nxt stM; rw [if_neg z1]
      have eX : X1 = nd σk 12 (nd σk 12 (dom A1) a) b := by
        have ha9 := (hCk _ _ z5).1
        have hb9 := (hCk _ _ z6).1
        rw [← dmk]; unfold dmL; rw [if_neg z1, z3, z4, nI_clamp (by omega), nI_clamp (by omega), q3]
      have eN : cn (X1) 100 = cn (nd σk 12 (nd σk 12 (dom A1) a) b) 100 := by rw [eX]
      have eM : cn (dom A1) 100 = cn (dom A0) 100 := by rw [q3]
      refine va_callv (va_runV (As := [.int a1, .int a4]) (rest := []) ⟨hx, hb, hml, hown, hg⟩ (c_Ba_load l D ty h cA px sa σk G Sp hak hCk A1 x0 (xe.1, e1) (xt.1, t1) P1 H.size a1 a4 a b (cn (nd σk 12 (nd σk 12 (dom A1) a) b) 100 - cn (dom A1) 100) (fun e x => Pe e ∧ Q1 x) h45 h49 q2 z1 z2 z3 z4 z5 z6 rfl (z7 e1 t1 q4 q5).1 (fun α β g1 g2 => by obtain ⟨y1, y2, y3, y4⟩ := (z7 e1 t1 q4 q5).2 α β g1 g2; exact ⟨trivial, y1, y2, y3, y4⟩)) ⟨callB_of 2 hg (gw_C m_1105) rfl rfl rfl (hg _ m_8) (hg _ m_1102) hd_Ba_load ⟨(by simp only [headSpec, rm_CL_linearB, rm_Ba_load]; omega), (by simp only [headSpec, rm_CL_linearB, rm_Ba_load]; omega)⟩, hg _ m_1103, hg _ m_1104⟩ (zz_preVW hM hS hA hN hKA hP hD 24 rfl rfl) rfl rfl hl.1 rfl (lv_room (Nat.le_of_ble_eq_true rfl)) d_CL_linearB_109 ⟨by show _ + 4 * _ ≤ 4 * K + 1; omega, by show _ + 308 * _ ≤ 308 * K + 6; omega⟩) hS (fun q _ h => zz_free hD hS hA q h) (zz_free hD hS hA) (fun u9 t9 H locs ht9 hvm hp hB hz9 hk9 hS9 => ?_)
      obtain ⟨A2, e2, t2, P2⟩ := u9
      obtain ⟨⟨N2, eP2⟩, hBI2, hdm2, hQ1, hQ2⟩ := hp
      obtain ⟨hP1, hD1⟩ := hB
      rw [ht9] at hP1
      have hP1 : va_P D classes (WB ty h (sF σk 24 5 (stL a1 a4 σk)) cA A2 px (x0 :: (xe.1, e2) :: (xt.1, t2) :: P2)) H := hP1
      have hD1 : va_D A (WB ty h (sF σk 24 5 (stL a1 a4 σk)) cA A2 px (x0 :: (xe.1, e2) :: (xt.1, t2) :: P2)) := hD1.weaken (fun _ _ _ h9 => zz_free hD hS hA _ h9)
      obtain ⟨N1, eP1⟩ := q1
      have eP2 : P2 = P1 ++ N2 := eP2
      have go := B112 H locs ls A2 e2 t2 P2 ⟨N1 ++ N2, by rw [eP2, eP1, List.append_assoc]⟩ hBI2 (hdm2.trans eX.symm) hQ1 hQ2 hl
      rw [hσk, e0] at go
      refine W.widen (k := 4 * (cn (X1) 100 - cn (dom A0) 100)) (n := 308 * (cn (X1) 100 - cn (dom A0) 100)) ?_ ?_ (go hP1 hD1 hS9)
      · omega
      · omega
  have B95 : ∀ (ls : Array Slot), lv_has ls 7 [(0, .ref (h 0)), (1, .int a1), (2, .int a2), (3, .int a3), (4, .int a4), (5, .int a5), (6, .int a6)] → W p l e (headSpec w_CL_linearB (rm_CL_linearB K)).room s m args below meth c s.heap [] 0 0 (xMQ below (RxB D (fun w u => WB ty h u cA w.1 px (x0 :: (xe.1, w.2.1) :: (xt.1, w.2.2.1) :: w.2.2.2)) (fun w => (∃ N, w.2.2.2 = P ++ N) ∧ BI Sp w.1 (x0 :: (xe.1, w.2.1) :: (xt.1, w.2.2.1) :: w.2.2.2) ∧ dom w.1 = X3 ∧ Pe w.2.1 ∧ Q3 w.2.2.1) A v) args s (4 * K + 1) (308 * K + 6) A) (F0 m 95 ls []) := by
    intro ls hl
    obtain ⟨R, hR⟩ := zp_on (L := (x0 :: xe :: xt :: P)) (i := 2) (x := xt) rfl
    have p0 : List.Perm (x0 :: xe :: xt :: P) (xt :: R) := hR xt
    have hPt := zp_P hP (WB_in p0)
    have hDt := zp_D hD (WB_in p0)
    refine lv_aload_n hx hb d_CL_linearB_95 rfl (lv_at hl 0 rfl) ?_
    refine va_get (v := .ref (h 24)) (C := R_CL) (T := T_CL) (N := 11) hx hb hg in_CL hown hK hP 0 rfl rfl 6 (by decide) (hg _ m_290) (fun _ h9 => h9) rfl d_CL_linearB_96 ?_
    refine va_callv (va_runV (As := []) (rest := []) ⟨hx, hb, hml, hown, hg⟩ (c_Ba_start l D ty h xt.1 ((h 40, .inl (cA, (100, .inr (.inr (.inr (.inr A0)))))) :: SW ty px R) sa σ xt.2 s.heap.size h49) ⟨callB_of 0 hg (gw_C m_1097) rfl rfl rfl (hg _ m_8) (hg _ m_1094) hd_Ba_start ⟨(by simp only [headSpec, rm_CL_linearB, rm_Ba_start]; omega), (by simp only [headSpec, rm_CL_linearB, rm_Ba_start]; omega)⟩, hg _ m_1095, hg _ m_1096⟩ (zz_preVW hM hS hA hN hK hPt hDt 24 rfl rfl) rfl rfl hl.1 rfl (lv_room (Nat.le_of_ble_eq_true rfl)) d_CL_linearB_99 ⟨by show _ ≤ 4 * K + 1; omega, by show _ ≤ 308 * K + 6; omega⟩) hS (fun q _ h => zz_free hDt hS hA q h) (zz_free hDt hS hA) (fun u9 t9 H locs ht9 hvm hp hP1 hz9 hk9 hS9 => ?_)
    obtain ⟨u1, u2⟩ := u9
    cases hp
    rw [ht9] at hP1
    have hD1 : va_D A (Wc ty h (sF σ 24 5 0) (Ws ty xt.1 (f_Su_wipes xt.2) ((h 40, .inl (cA, (100, .inr (.inr (.inr (.inr A0)))))) :: SW ty px R))) := zz_D hDt rfl
    have p1 : List.Perm (x0 :: xe :: (xt.1, f_Su_wipes xt.2) :: P) ((xt.1, f_Su_wipes xt.2) :: R) := hR (xt.1, f_Su_wipes xt.2)
    have hP2 := zp_P hP1 (WB_in (ty := ty) (h := h) (σ := sF σ 24 5 0) (cA := cA) (A := A0) (px := px) p1).symm
    have hD2 := zp_D hD1 (WB_in (ty := ty) (h := h) (σ := sF σ 24 5 0) (cA := cA) (A := A0) (px := px) p1).symm
    have go := B102 H locs ls A0 xe.2 (f_Su_wipes xt.2) P ⟨[], (List.append_nil P).symm⟩ (BI3 hBI) rfl hPe hP0 hl hP2 hD2 hS9
    refine W.widen (k := 4 * (cn (dom A0) 100 - cn (dom A0) 100)) (n := 308 * (cn (dom A0) 100 - cn (dom A0) 100)) (by omega) (by omega) go
  have B51 : ∀ (ls : Array Slot), lv_has ls 7 [(0, .ref (h 0)), (1, .int a1), (2, .int a2), (3, .int a3), (4, .int a4), (5, .int a5), (6, .int a6)] → W p l e (headSpec w_CL_linearB (rm_CL_linearB K)).room s m args below meth c s.heap [] 0 0 (xMQ below (RxB D (fun w u => WB ty h u cA w.1 px (x0 :: (xe.1, w.2.1) :: (xt.1, w.2.2.1) :: w.2.2.2)) (fun w => (∃ N, w.2.2.2 = P ++ N) ∧ BI Sp w.1 (x0 :: (xe.1, w.2.1) :: (xt.1, w.2.2.1) :: w.2.2.2) ∧ dom w.1 = X3 ∧ Pe w.2.1 ∧ Q3 w.2.2.1) A v) args s (4 * K + 1) (308 * K + 6) A) (F0 m 51 ls []) := by
    intro ls hl
    refine lv_aload_n hx hb d_CL_linearB_51 rfl (lv_at hl 0 rfl) ?_
    refine va_get (v := .ref (h 24)) (C := R_CL) (T := T_CL) (N := 11) hx hb hg in_CL hown hK hP 0 rfl rfl 6 (by decide) (hg _ m_290) (fun _ h9 => h9) rfl d_CL_linearB_52 ?_
    refine lv_iload_n hx hb d_CL_linearB_55 rfl (lv_at hl 1 rfl) ?_
    refine lv_iload hx hb d_CL_linearB_56 (lv_at hl 4 rfl) ?_
    refine zz_callV (va_runV (As := [.int a1, .int a4]) (rest := []) ⟨hx, hb, hml, hown, hg⟩ (c_Ba_takes l D ty h ((h 40, .inl (cA, (100, .inr (.inr (.inr (.inr A0)))))) :: SW ty px (x0 :: xe :: xt :: P)) sa σ a1 a4 ht1.1) ⟨callB_of 2 hg (gw_C m_1082) rfl rfl rfl (hg _ m_8) (hg _ m_1079) hd_Ba_takes ⟨(by simp only [headSpec, rm_CL_linearB, rm_Ba_takes]; omega), (by simp only [headSpec, rm_CL_linearB, rm_Ba_takes]; omega)⟩, hg _ m_1080, hg _ m_1081⟩ (zz_preV (hM.at hS) hN hK hP 24 rfl rfl) rfl rfl hl.1 rfl (lv_room (Nat.le_of_ble_eq_true rfl)) d_CL_linearB_58 ⟨by show _ ≤ 4 * K + 1; omega, by show _ ≤ 308 * K + 6; omega⟩) ?_
    refine lv_if_eq (tgt := 90) hx hb d_CL_linearB_61 (by decide) (fun hc => absurd hc ht1.2) (fun _ => ?_)
    refine lv_aload_n hx hb d_CL_linearB_64 rfl (lv_at hl 0 rfl) ?_
    refine va_get (v := .ref (h 24)) (C := R_CL) (T := T_CL) (N := 11) hx hb hg in_CL hown hK hP 0 rfl rfl 6 (by decide) (hg _ m_290) (fun _ h9 => h9) rfl d_CL_linearB_65 ?_
    refine lv_iload_n hx hb d_CL_linearB_68 rfl (lv_at hl 2 rfl) ?_
    refine lv_iload hx hb d_CL_linearB_69 (lv_at hl 5 rfl) ?_
    refine zz_callV (va_runV (As := [.int a2, .int a5]) (rest := []) ⟨hx, hb, hml, hown, hg⟩ (c_Ba_takes l D ty h ((h 40, .inl (cA, (100, .inr (.inr (.inr (.inr A0)))))) :: SW ty px (x0 :: xe :: xt :: P)) sa σ a2 a5 ht2.1) ⟨callB_of 2 hg (gw_C m_1082) rfl rfl rfl (hg _ m_8) (hg _ m_1079) hd_Ba_takes ⟨(by simp only [headSpec, rm_CL_linearB, rm_Ba_takes]; omega), (by simp only [headSpec, rm_CL_linearB, rm_Ba_takes]; omega)⟩, hg _ m_1080, hg _ m_1081⟩ (zz_preV (hM.at hS) hN hK hP 24 rfl rfl) rfl rfl hl.1 rfl (lv_room (Nat.le_of_ble_eq_true rfl)) d_CL_linearB_71 ⟨by show _ ≤ 4 * K + 1; omega, by show _ ≤ 308 * K + 6; omega⟩) ?_
    refine lv_if_eq (tgt := 90) hx hb d_CL_linearB_74 (by decide) (fun hc => absurd hc ht2.2) (fun _ => ?_)
    refine lv_aload_n hx hb d_CL_linearB_77 rfl (lv_at hl 0 rfl) ?_
    refine va_get (v := .ref (h 24)) (C := R_CL) (T := T_CL) (N := 11) hx hb hg in_CL hown hK hP 0 rfl rfl 6 (by decide) (hg _ m_290) (fun _ h9 => h9) rfl d_CL_linearB_78 ?_
    refine lv_iload_n hx hb d_CL_linearB_81 rfl (lv_at hl 3 rfl) ?_
    refine lv_iload hx hb d_CL_linearB_82 (lv_at hl 6 rfl) ?_
    refine zz_callV (va_runV (As := [.int a3, .int a6]) (rest := []) ⟨hx, hb, hml, hown, hg⟩ (c_Ba_takes l D ty h ((h 40, .inl (cA, (100, .inr (.inr (.inr (.inr A0)))))) :: SW ty px (x0 :: xe :: xt :: P)) sa σ a3 a6 ht3.1) ⟨callB_of 2 hg (gw_C m_1082) rfl rfl rfl (hg _ m_8) (hg _ m_1079) hd_Ba_takes ⟨(by simp only [headSpec, rm_CL_linearB, rm_Ba_takes]; omega), (by simp only [headSpec, rm_CL_linearB, rm_Ba_takes]; omega)⟩, hg _ m_1080, hg _ m_1081⟩ (zz_preV (hM.at hS) hN hK hP 24 rfl rfl) rfl rfl hl.1 rfl (lv_room (Nat.le_of_ble_eq_true rfl)) d_CL_linearB_84 ⟨by show _ ≤ 4 * K + 1; omega, by show _ ≤ 308 * K + 6; omega⟩) ?_
    refine lv_if_ne (tgt := 95) hx hb d_CL_linearB_87 (by decide) (fun _ => B95 _ hl) (fun hc => absurd hc ht3.2)
  refine lv_aload_n hx hb d_CL_linearB_0 rfl (lv_at hl 0 rfl) ?_
  refine zz_callV (va_runV (As := []) (rest := []) ⟨hx, hb, hml, hown, hg⟩ (c_CL_isShut l D ty h ((h 40, .inl (cA, (100, .inr (.inr (.inr (.inr A0)))))) :: SW ty px (x0 :: xe :: xt :: P)) sa σ hsh.1) ⟨callB_of 0 hg (gw_C m_571) rfl rfl rfl (hg _ m_1) (hg _ m_568) hd_CL_isShut ⟨(by simp only [headSpec, rm_CL_linearB, rm_CL_isShut]; omega), (by simp only [headSpec, rm_CL_linearB, rm_CL_isShut]; omega)⟩, hg _ m_570, hg _ ms_8⟩ (zz_preV (hM.at hS) hN hK hP 0 rfl rfl) rfl rfl hl.1 rfl (lv_room (Nat.le_of_ble_eq_true rfl)) d_CL_linearB_1 ⟨by show _ ≤ 4 * K + 1; omega, by show _ ≤ 308 * K + 6; omega⟩) ?_
  refine lv_if_eq (tgt := 9) hx hb d_CL_linearB_4 (by decide) (fun _ => ?_) (fun hc => absurd hsh.2 hc)
  refine lv_aload_n hx hb d_CL_linearB_9 rfl (lv_at hl 0 rfl) ?_
  refine va_get (v := .ref (h 6)) (C := R_CL) (T := T_CL) (N := 11) hx hb hg in_CL hown hK hP 0 rfl rfl 1 (by decide) (hg _ m_285) (fun _ h9 => h9) rfl d_CL_linearB_10 ?_
  refine lv_iload_n hx hb d_CL_linearB_13 rfl (lv_at hl 1 rfl) ?_
  refine zz_callV (va_runV (As := [.int a1]) (rest := []) ⟨hx, hb, hml, hown, hg⟩ (c_Te_has l D ty h ((h 40, .inl (cA, (100, .inr (.inr (.inr (.inr A0)))))) :: SW ty px (x0 :: xe :: xt :: P)) sa σ a1 hh1.1) ⟨callB_of 1 hg (gw_C m_430) rfl rfl rfl (hg _ m_3) (hg _ m_427) hd_Te_has ⟨(by simp only [headSpec, rm_CL_linearB, rm_Te_has]; omega), (by simp only [headSpec, rm_CL_linearB, rm_Te_has]; omega)⟩, hg _ m_428, hg _ m_429⟩ (zz_preV (hM.at hS) hN hK hP 6 rfl rfl) rfl rfl hl.1 rfl (lv_room (Nat.le_of_ble_eq_true rfl)) d_CL_linearB_14 ⟨by show _ ≤ 4 * K + 1; omega, by show _ ≤ 308 * K + 6; omega⟩) ?_
  refine lv_if_eq (tgt := 36) hx hb d_CL_linearB_17 (by decide) (fun hc => absurd hc hh1.2) (fun _ => ?_)
  refine lv_aload_n hx hb d_CL_linearB_20 rfl (lv_at hl 0 rfl) ?_
  refine lv_iload_n hx hb d_CL_linearB_21 rfl (lv_at hl 2 rfl) ?_
  refine zz_callV (va_runV (As := [.int a2]) (rest := []) ⟨hx, hb, hml, hown, hg⟩ (c_CL_isTermOrNone l D ty h ((h 40, .inl (cA, (100, .inr (.inr (.inr (.inr A0)))))) :: SW ty px (x0 :: xe :: xt :: P)) sa σ a2 hh2.1) ⟨callB_of 1 hg (gw_C m_1078) rfl rfl rfl (hg _ m_1) (hg _ m_1075) hd_CL_isTermOrNone ⟨(by simp only [headSpec, rm_CL_linearB, rm_CL_isTermOrNone]; omega), (by simp only [headSpec, rm_CL_linearB, rm_CL_isTermOrNone]; omega)⟩, hg _ m_1077, hg _ ms_39⟩ (zz_preV (hM.at hS) hN hK hP 0 rfl rfl) rfl rfl hl.1 rfl (lv_room (Nat.le_of_ble_eq_true rfl)) d_CL_linearB_22 ⟨by show _ ≤ 4 * K + 1; omega, by show _ ≤ 308 * K + 6; omega⟩) ?_
  refine lv_if_eq (tgt := 36) hx hb d_CL_linearB_25 (by decide) (fun hc => absurd hc hh2.2) (fun _ => ?_)
  refine lv_aload_n hx hb d_CL_linearB_28 rfl (lv_at hl 0 rfl) ?_
  refine lv_iload_n hx hb d_CL_linearB_29 rfl (lv_at hl 3 rfl) ?_
  refine zz_callV (va_runV (As := [.int a3]) (rest := []) ⟨hx, hb, hml, hown, hg⟩ (c_CL_isTermOrNone l D ty h ((h 40, .inl (cA, (100, .inr (.inr (.inr (.inr A0)))))) :: SW ty px (x0 :: xe :: xt :: P)) sa σ a3 hh3.1) ⟨callB_of 1 hg (gw_C m_1078) rfl rfl rfl (hg _ m_1) (hg _ m_1075) hd_CL_isTermOrNone ⟨(by simp only [headSpec, rm_CL_linearB, rm_CL_isTermOrNone]; omega), (by simp only [headSpec, rm_CL_linearB, rm_CL_isTermOrNone]; omega)⟩, hg _ m_1077, hg _ ms_39⟩ (zz_preV (hM.at hS) hN hK hP 0 rfl rfl) rfl rfl hl.1 rfl (lv_room (Nat.le_of_ble_eq_true rfl)) d_CL_linearB_30 ⟨by show _ ≤ 4 * K + 1; omega, by show _ ≤ 308 * K + 6; omega⟩) ?_
  refine lv_if_ne (tgt := 41) hx hb d_CL_linearB_33 (by decide) (fun _ => ?_) (fun hc => absurd hc hh3.2)
  refine lv_iload_n hx hb d_CL_linearB_41 rfl (lv_at hl 2 rfl) ?_
  refine lv_iconst (v := -1) hx hb d_CL_linearB_42 (by decide) ?_
  refine lv_icmp_ne (tgt := 51) hx hb d_CL_linearB_43 (by decide) (fun _ => B51 _ hl) (fun hc => ?_)
  refine lv_iload_n hx hb d_CL_linearB_46 rfl (lv_at hl 3 rfl) ?_
  refine lv_iconst (v := -1) hx hb d_CL_linearB_47 (by decide) ?_
  refine lv_icmp_ne (tgt := 90) hx hb d_CL_linearB_48 (by decide) (fun hc2 => absurd (h23 hc) hc2) (fun _ => B51 _ hl)
