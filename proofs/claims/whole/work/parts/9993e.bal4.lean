-- ClauseLedger$Balance.sumOf(II)LClauseLedger$Sum;
abbrev b_Ba_sumOf : ByteArray := prog_2_method_9_code
def y_Ba_sumOf : MethodName := ⟨"ClauseLedger$Balance", "sumOf", "(II)LClauseLedger$Sum;"⟩
theorem hd_Ba_sumOf : y_Ba_sumOf.cls ≠ "java/lang/invoke/MethodHandle" ∧ y_Ba_sumOf.cls ≠ "java/lang/invoke/VarHandle" ∧ (parseMethodDescriptor y_Ba_sumOf.desc).map (fun d => d.parameters.length) = some 2 := by decide +kernel
theorem d_Ba_sumOf_0 : decode b_Ba_sumOf 0 = .ok (.iload_n 1, 1) := by decide +kernel
theorem d_Ba_sumOf_1 : decode b_Ba_sumOf 1 = .ok (.ifCond .lt 18, 3) := by decide +kernel
theorem d_Ba_sumOf_4 : decode b_Ba_sumOf 4 = .ok (.iload_n 1, 1) := by decide +kernel
theorem d_Ba_sumOf_5 : decode b_Ba_sumOf 5 = .ok (.aload_n 0, 1) := by decide +kernel
theorem d_Ba_sumOf_6 : decode b_Ba_sumOf 6 = .ok (.getfield 11, 3) := by decide +kernel
theorem d_Ba_sumOf_9 : decode b_Ba_sumOf 9 = .ok (.arraylength, 1) := by decide +kernel
theorem d_Ba_sumOf_10 : decode b_Ba_sumOf 10 = .ok (.if_icmp .ge 9, 3) := by decide +kernel
theorem d_Ba_sumOf_13 : decode b_Ba_sumOf 13 = .ok (.iload_n 2, 1) := by decide +kernel
theorem d_Ba_sumOf_14 : decode b_Ba_sumOf 14 = .ok (.bipush 12, 2) := by decide +kernel
theorem d_Ba_sumOf_16 : decode b_Ba_sumOf 16 = .ok (.if_icmp .le 8, 3) := by decide +kernel
theorem d_Ba_sumOf_19 : decode b_Ba_sumOf 19 = .ok (.aload_n 0, 1) := by decide +kernel
theorem d_Ba_sumOf_20 : decode b_Ba_sumOf 20 = .ok (.getfield 20, 3) := by decide +kernel
theorem d_Ba_sumOf_23 : decode b_Ba_sumOf 23 = .ok (.areturn, 1) := by decide +kernel
theorem d_Ba_sumOf_24 : decode b_Ba_sumOf 24 = .ok (.aload_n 0, 1) := by decide +kernel
theorem d_Ba_sumOf_25 : decode b_Ba_sumOf 25 = .ok (.getfield 11, 3) := by decide +kernel
theorem d_Ba_sumOf_28 : decode b_Ba_sumOf 28 = .ok (.iload_n 1, 1) := by decide +kernel
theorem d_Ba_sumOf_29 : decode b_Ba_sumOf 29 = .ok (.aaload, 1) := by decide +kernel
theorem d_Ba_sumOf_30 : decode b_Ba_sumOf 30 = .ok (.astore_n 3, 1) := by decide +kernel
theorem d_Ba_sumOf_31 : decode b_Ba_sumOf 31 = .ok (.aload_n 3, 1) := by decide +kernel
theorem d_Ba_sumOf_32 : decode b_Ba_sumOf 32 = .ok (.ifnonnull 17, 3) := by decide +kernel
theorem d_Ba_sumOf_35 : decode b_Ba_sumOf 35 = .ok (.aload_n 0, 1) := by decide +kernel
theorem d_Ba_sumOf_36 : decode b_Ba_sumOf 36 = .ok (.iload_n 1, 1) := by decide +kernel
theorem d_Ba_sumOf_37 : decode b_Ba_sumOf 37 = .ok (.iload_n 2, 1) := by decide +kernel
theorem d_Ba_sumOf_38 : decode b_Ba_sumOf 38 = .ok (.invokevirtual 84, 3) := by decide +kernel
theorem d_Ba_sumOf_41 : decode b_Ba_sumOf 41 = .ok (.astore_n 3, 1) := by decide +kernel
theorem d_Ba_sumOf_42 : decode b_Ba_sumOf 42 = .ok (.aload_n 0, 1) := by decide +kernel
theorem d_Ba_sumOf_43 : decode b_Ba_sumOf 43 = .ok (.getfield 11, 3) := by decide +kernel
theorem d_Ba_sumOf_46 : decode b_Ba_sumOf 46 = .ok (.iload_n 1, 1) := by decide +kernel
theorem d_Ba_sumOf_47 : decode b_Ba_sumOf 47 = .ok (.aload_n 3, 1) := by decide +kernel
theorem d_Ba_sumOf_48 : decode b_Ba_sumOf 48 = .ok (.aastore, 1) := by decide +kernel
theorem d_Ba_sumOf_49 : decode b_Ba_sumOf 49 = .ok (.aload_n 3, 1) := by decide +kernel
theorem d_Ba_sumOf_50 : decode b_Ba_sumOf 50 = .ok (.areturn, 1) := by decide +kernel
abbrev w_Ba_sumOf : List Cond := Cond.code y_Ba_sumOf b_Ba_sumOf 4 (some (.object "ClauseLedger$Sum")) :: gw
-- ClauseLedger$Balance.workOut(II)LClauseLedger$Sum;
abbrev b_Ba_workOut : ByteArray := prog_2_method_10_code
def y_Ba_workOut : MethodName := ⟨"ClauseLedger$Balance", "workOut", "(II)LClauseLedger$Sum;"⟩
theorem hd_Ba_workOut : y_Ba_workOut.cls ≠ "java/lang/invoke/MethodHandle" ∧ y_Ba_workOut.cls ≠ "java/lang/invoke/VarHandle" ∧ (parseMethodDescriptor y_Ba_workOut.desc).map (fun d => d.parameters.length) = some 2 := by decide +kernel
theorem d_Ba_workOut_0 : decode b_Ba_workOut 0 = .ok (.aload_n 0, 1) := by decide +kernel
theorem d_Ba_workOut_1 : decode b_Ba_workOut 1 = .ok (.getfield 34, 3) := by decide +kernel
theorem d_Ba_workOut_4 : decode b_Ba_workOut 4 = .ok (.iload_n 1, 1) := by decide +kernel
theorem d_Ba_workOut_5 : decode b_Ba_workOut 5 = .ok (.invokevirtual 46, 3) := by decide +kernel
theorem d_Ba_workOut_8 : decode b_Ba_workOut 8 = .ok (.iconst 2, 1) := by decide +kernel
theorem d_Ba_workOut_9 : decode b_Ba_workOut 9 = .ok (.if_icmp .ne 24, 3) := by decide +kernel
theorem d_Ba_workOut_12 : decode b_Ba_workOut 12 = .ok (.iconst (-1), 1) := by decide +kernel
theorem d_Ba_workOut_13 : decode b_Ba_workOut 13 = .ok (.aload_n 0, 1) := by decide +kernel
theorem d_Ba_workOut_14 : decode b_Ba_workOut 14 = .ok (.getfield 34, 3) := by decide +kernel
theorem d_Ba_workOut_17 : decode b_Ba_workOut 17 = .ok (.iload_n 1, 1) := by decide +kernel
theorem d_Ba_workOut_18 : decode b_Ba_workOut 18 = .ok (.invokevirtual 87, 3) := by decide +kernel
theorem d_Ba_workOut_21 : decode b_Ba_workOut 21 = .ok (.aload_n 0, 1) := by decide +kernel
theorem d_Ba_workOut_22 : decode b_Ba_workOut 22 = .ok (.getfield 34, 3) := by decide +kernel
theorem d_Ba_workOut_25 : decode b_Ba_workOut 25 = .ok (.iload_n 1, 1) := by decide +kernel
theorem d_Ba_workOut_26 : decode b_Ba_workOut 26 = .ok (.invokevirtual 90, 3) := by decide +kernel
theorem d_Ba_workOut_29 : decode b_Ba_workOut 29 = .ok (.invokestatic 93, 3) := by decide +kernel
theorem d_Ba_workOut_32 : decode b_Ba_workOut 32 = .ok (.areturn, 1) := by decide +kernel
theorem d_Ba_workOut_33 : decode b_Ba_workOut 33 = .ok (.aload_n 0, 1) := by decide +kernel
theorem d_Ba_workOut_34 : decode b_Ba_workOut 34 = .ok (.getfield 34, 3) := by decide +kernel
theorem d_Ba_workOut_37 : decode b_Ba_workOut 37 = .ok (.iload_n 1, 1) := by decide +kernel
theorem d_Ba_workOut_38 : decode b_Ba_workOut 38 = .ok (.invokevirtual 46, 3) := by decide +kernel
theorem d_Ba_workOut_41 : decode b_Ba_workOut 41 = .ok (.iconst 3, 1) := by decide +kernel
theorem d_Ba_workOut_42 : decode b_Ba_workOut 42 = .ok (.if_icmp .eq 22, 3) := by decide +kernel
theorem d_Ba_workOut_45 : decode b_Ba_workOut 45 = .ok (.aload_n 0, 1) := by decide +kernel
theorem d_Ba_workOut_46 : decode b_Ba_workOut 46 = .ok (.getfield 34, 3) := by decide +kernel
theorem d_Ba_workOut_49 : decode b_Ba_workOut 49 = .ok (.iload_n 1, 1) := by decide +kernel
theorem d_Ba_workOut_50 : decode b_Ba_workOut 50 = .ok (.invokevirtual 46, 3) := by decide +kernel
theorem d_Ba_workOut_53 : decode b_Ba_workOut 53 = .ok (.iconst 4, 1) := by decide +kernel
theorem d_Ba_workOut_54 : decode b_Ba_workOut 54 = .ok (.if_icmp .eq 10, 3) := by decide +kernel
theorem d_Ba_workOut_57 : decode b_Ba_workOut 57 = .ok (.iload_n 1, 1) := by decide +kernel
theorem d_Ba_workOut_58 : decode b_Ba_workOut 58 = .ok (.iconst 1, 1) := by decide +kernel
theorem d_Ba_workOut_59 : decode b_Ba_workOut 59 = .ok (.iconst 1, 1) := by decide +kernel
theorem d_Ba_workOut_60 : decode b_Ba_workOut 60 = .ok (.invokestatic 93, 3) := by decide +kernel
theorem d_Ba_workOut_63 : decode b_Ba_workOut 63 = .ok (.areturn, 1) := by decide +kernel
theorem d_Ba_workOut_64 : decode b_Ba_workOut 64 = .ok (.aload_n 0, 1) := by decide +kernel
theorem d_Ba_workOut_65 : decode b_Ba_workOut 65 = .ok (.aload_n 0, 1) := by decide +kernel
theorem d_Ba_workOut_66 : decode b_Ba_workOut 66 = .ok (.getfield 34, 3) := by decide +kernel
theorem d_Ba_workOut_69 : decode b_Ba_workOut 69 = .ok (.iload_n 1, 1) := by decide +kernel
theorem d_Ba_workOut_70 : decode b_Ba_workOut 70 = .ok (.invokevirtual 57, 3) := by decide +kernel
theorem d_Ba_workOut_73 : decode b_Ba_workOut 73 = .ok (.iload_n 2, 1) := by decide +kernel
theorem d_Ba_workOut_74 : decode b_Ba_workOut 74 = .ok (.iconst 1, 1) := by decide +kernel
theorem d_Ba_workOut_75 : decode b_Ba_workOut 75 = .ok (.iadd, 1) := by decide +kernel
theorem d_Ba_workOut_76 : decode b_Ba_workOut 76 = .ok (.invokevirtual 60, 3) := by decide +kernel
theorem d_Ba_workOut_79 : decode b_Ba_workOut 79 = .ok (.astore_n 3, 1) := by decide +kernel
theorem d_Ba_workOut_80 : decode b_Ba_workOut 80 = .ok (.aload_n 0, 1) := by decide +kernel
theorem d_Ba_workOut_81 : decode b_Ba_workOut 81 = .ok (.getfield 34, 3) := by decide +kernel
theorem d_Ba_workOut_84 : decode b_Ba_workOut 84 = .ok (.iload_n 1, 1) := by decide +kernel
theorem d_Ba_workOut_85 : decode b_Ba_workOut 85 = .ok (.invokevirtual 46, 3) := by decide +kernel
theorem d_Ba_workOut_88 : decode b_Ba_workOut 88 = .ok (.iconst 4, 1) := by decide +kernel
theorem d_Ba_workOut_89 : decode b_Ba_workOut 89 = .ok (.if_icmp .ne 17, 3) := by decide +kernel
theorem d_Ba_workOut_92 : decode b_Ba_workOut 92 = .ok (.aload_n 0, 1) := by decide +kernel
theorem d_Ba_workOut_93 : decode b_Ba_workOut 93 = .ok (.aload_n 0, 1) := by decide +kernel
theorem d_Ba_workOut_94 : decode b_Ba_workOut 94 = .ok (.getfield 34, 3) := by decide +kernel
theorem d_Ba_workOut_97 : decode b_Ba_workOut 97 = .ok (.iload_n 1, 1) := by decide +kernel
theorem d_Ba_workOut_98 : decode b_Ba_workOut 98 = .ok (.invokevirtual 54, 3) := by decide +kernel
theorem d_Ba_workOut_101 : decode b_Ba_workOut 101 = .ok (.aload_n 3, 1) := by decide +kernel
theorem d_Ba_workOut_102 : decode b_Ba_workOut 102 = .ok (.invokevirtual 97, 3) := by decide +kernel
theorem d_Ba_workOut_105 : decode b_Ba_workOut 105 = .ok (.areturn, 1) := by decide +kernel
theorem d_Ba_workOut_106 : decode b_Ba_workOut 106 = .ok (.aload_n 0, 1) := by decide +kernel
theorem d_Ba_workOut_107 : decode b_Ba_workOut 107 = .ok (.aload_n 0, 1) := by decide +kernel
theorem d_Ba_workOut_108 : decode b_Ba_workOut 108 = .ok (.getfield 34, 3) := by decide +kernel
theorem d_Ba_workOut_111 : decode b_Ba_workOut 111 = .ok (.iload_n 1, 1) := by decide +kernel
theorem d_Ba_workOut_112 : decode b_Ba_workOut 112 = .ok (.invokevirtual 54, 3) := by decide +kernel
theorem d_Ba_workOut_115 : decode b_Ba_workOut 115 = .ok (.iload_n 2, 1) := by decide +kernel
theorem d_Ba_workOut_116 : decode b_Ba_workOut 116 = .ok (.iconst 1, 1) := by decide +kernel
theorem d_Ba_workOut_117 : decode b_Ba_workOut 117 = .ok (.iadd, 1) := by decide +kernel
theorem d_Ba_workOut_118 : decode b_Ba_workOut 118 = .ok (.invokevirtual 60, 3) := by decide +kernel
theorem d_Ba_workOut_121 : decode b_Ba_workOut 121 = .ok (.astore 4, 2) := by decide +kernel
theorem d_Ba_workOut_123 : decode b_Ba_workOut 123 = .ok (.new 9, 3) := by decide +kernel
theorem d_Ba_workOut_126 : decode b_Ba_workOut 126 = .ok (.dup, 1) := by decide +kernel
theorem d_Ba_workOut_127 : decode b_Ba_workOut 127 = .ok (.aload 4, 2) := by decide +kernel
theorem d_Ba_workOut_129 : decode b_Ba_workOut 129 = .ok (.invokevirtual 101, 3) := by decide +kernel
theorem d_Ba_workOut_132 : decode b_Ba_workOut 132 = .ok (.aload_n 3, 1) := by decide +kernel
theorem d_Ba_workOut_133 : decode b_Ba_workOut 133 = .ok (.invokevirtual 101, 3) := by decide +kernel
theorem d_Ba_workOut_136 : decode b_Ba_workOut 136 = .ok (.iadd, 1) := by decide +kernel
theorem d_Ba_workOut_137 : decode b_Ba_workOut 137 = .ok (.bipush 101, 2) := by decide +kernel
theorem d_Ba_workOut_139 : decode b_Ba_workOut 139 = .ok (.invokestatic 104, 3) := by decide +kernel
theorem d_Ba_workOut_142 : decode b_Ba_workOut 142 = .ok (.invokespecial 17, 3) := by decide +kernel
theorem d_Ba_workOut_145 : decode b_Ba_workOut 145 = .ok (.astore 5, 2) := by decide +kernel
theorem d_Ba_workOut_147 : decode b_Ba_workOut 147 = .ok (.aload 5, 2) := by decide +kernel
theorem d_Ba_workOut_149 : decode b_Ba_workOut 149 = .ok (.aload 4, 2) := by decide +kernel
theorem d_Ba_workOut_151 : decode b_Ba_workOut 151 = .ok (.lconst 1, 1) := by decide +kernel
theorem d_Ba_workOut_152 : decode b_Ba_workOut 152 = .ok (.lconst 1, 1) := by decide +kernel
theorem d_Ba_workOut_153 : decode b_Ba_workOut 153 = .ok (.invokevirtual 64, 3) := by decide +kernel
theorem d_Ba_workOut_156 : decode b_Ba_workOut 156 = .ok (.aload 5, 2) := by decide +kernel
theorem d_Ba_workOut_158 : decode b_Ba_workOut 158 = .ok (.aload_n 3, 1) := by decide +kernel
theorem d_Ba_workOut_159 : decode b_Ba_workOut 159 = .ok (.lconst 1, 1) := by decide +kernel
theorem d_Ba_workOut_160 : decode b_Ba_workOut 160 = .ok (.lconst 1, 1) := by decide +kernel
theorem d_Ba_workOut_161 : decode b_Ba_workOut 161 = .ok (.invokevirtual 64, 3) := by decide +kernel
theorem d_Ba_workOut_164 : decode b_Ba_workOut 164 = .ok (.aload 5, 2) := by decide +kernel
theorem d_Ba_workOut_166 : decode b_Ba_workOut 166 = .ok (.areturn, 1) := by decide +kernel
abbrev w_Ba_workOut : List Cond := Cond.code y_Ba_workOut b_Ba_workOut 6 (some (.object "ClauseLedger$Sum")) :: gw
abbrev rs_Ba_sumOf (d k : Nat) : Room := { frames := 5 + 2 * d, cells := 4 * k, slots := 308 * k, locals := 145 + 48 * d }
abbrev rm_Ba_workOut (d k : Nat) : Room := { frames := 4 + 2 * d, cells := 4 * k, slots := 308 * k, locals := 120 + 48 * d }
def CS (l : Launch) (D : va_G) (ty : Nat → ClassId) (h : Nat → Nat) (cA : ClassId) (px : va_W) (sa : Nat → Nat) (σ : St) (G : Nat → Nat → Prop) (Sp : Nat → St → Prop) (d : Nat) : Prop := ∀ (A : Nat → Option Nat) (L : List Itm) (sz t lv k : Nat), G d t → lv + d ≤ 12 → BI Sp A L → 3 ≤ L.length →  k = cn (nd σ (d + 1) (dom A) t) 100 - cn (dom A) 100 → Met l y_Ba_sumOf w_Ba_sumOf (rs_Ba_sumOf d k) (va_Pc [.ref (h 24), .int (nI t), .int (nI lv)] (fun U => U.heap.size = sz ∧ va_P D classes (WB ty h σ cA A px L) U.heap ∧ va_K D classes (TA ty cA) U ∧ NW U ∧ MK sa (va_A (WB ty h σ cA A px L) sz) U U.heap ∧ va_D (fun _ => True) (WB ty h σ cA A px L))) (va_Qr (fun u : (Nat → Option Nat) × List Itm => (∃ N, u.2 = L ++ N) ∧ BI Sp u.1 u.2 ∧ (∀ j v, A j = some v → u.1 j = some v) ∧ dom u.1 = nd σ (d + 1) (dom A) t) (fun u a t1 => u.1 t = some a ∧ va_P D classes (WB ty h σ cA u.1 px u.2) t1.heap ∧ va_D (va_A (WB ty h σ cA A px L) sz) (WB ty h σ cA u.1 px u.2)) (va_A (WB ty h σ cA A px L) sz)) (4 * k) (308 * k) (va_A (WB ty h σ cA A px L) sz)
set_option maxHeartbeats 4000000 in
set_option maxRecDepth 100000 in
theorem c_Ba_workOut (l : Launch) (D : va_G) (ty : Nat → ClassId) (h : Nat → Nat) (cA : ClassId) (px : va_W) (sa : Nat → Nat) (σ : St) (G : Nat → Nat → Prop) (Sp : Nat → St → Prop) (hac : ∀ x, k_Te_kindOf x σ ∧ k_Te_firstOf x σ ∧ k_Te_secondOf x σ ∧ k_Te_topOf x σ ∧ k_Te_bottomOf x σ) (C : Cl σ G Sp) (d : Nat) (hR : ∀ d', d = d' + 1 → CS l D ty h cA px sa σ G Sp d') : ∀ (A : Nat → Option Nat) (L : List Itm) (sz t lv k : Nat), G d t → lv + d ≤ 12 → BI Sp A L → 3 ≤ L.length →  k = cn (ndp σ d (dom A) t) 100 - cn (dom A) 100 + 1 → Met l y_Ba_workOut w_Ba_workOut (rm_Ba_workOut d k) (va_Pc [.ref (h 24), .int (nI t), .int (nI lv)] (fun U => U.heap.size = sz ∧ va_P D classes (WB ty h σ cA A px L) U.heap ∧ va_K D classes (TA ty cA) U ∧ NW U ∧ MK sa (va_A (WB ty h σ cA A px L) sz) U U.heap ∧ va_D (fun _ => True) (WB ty h σ cA A px L))) (va_Qr (fun u : (Nat → Option Nat) × List Itm => (∃ N, u.2 = L ++ N) ∧ BI Sp u.1 u.2 ∧ (∀ j v, A j = some v → u.1 j = some v) ∧ dom u.1 = ndp σ d (dom A) t) (fun u a t1 => (∃ i x, 3 ≤ i ∧ u.2[i]? = some x ∧ x.1 0 = a ∧ Sp t x.2) ∧ va_P D classes (WB ty h σ cA u.1 px u.2) t1.heap ∧ va_D (va_A (WB ty h σ cA A px L) sz) (WB ty h σ cA u.1 px u.2)) (va_A (WB ty h σ cA A px L) sz)) (4 * k) (308 * k) (va_A (WB ty h σ cA A px L) sz) := by
  intro A0 L sz t lv k hG hlv hBI hL3 hk
  obtain ⟨ht, c2, c1, c4, c3⟩ := C d t hG
  refine Met.ofW (cc := b_Ba_workOut) (maxL := 6) (ret := (some (.object "ClauseLedger$Sum"))) (by decide) rfl ?_
  intro p e s m args below meth c s₁ B hml hv
  obtain ⟨ha, hsz, hP, hK, hN, hM, hD0⟩ := hv
  have hx := B.exec
  have hb := B.bytes
  have hr := B.returns
  have hg : ∀ w ∈ gw, w.before args s = true := fun w h9 => atoms_spec (ws := w_Ba_workOut) B.pre w (List.mem_cons_of_mem _ h9)
  have hown : s.vm.findClass "ClauseLedger$Balance" = some m.cls := findClass_of_methodNamed B.named
  have hlocks := B.notSynchronized
  subst hsz
  have hD := hD0.self (sz := s.heap.size)
  generalize hAe : va_A (WB ty h σ cA A0 px L) s.heap.size = A at hD hM ⊢
  have hA : ∀ q : Nat, s.heap.size ≤ q → A q := fun q h9 => by rw [← hAe]; exact Or.inr h9
  have hS : va_S A s.heap s.heap [] := va_S.rf
  have he : entryFrame m args 6 = entryFrame m ([.ref (h 24), .int (nI t), .int (nI lv)] : List Value).toArray 6 := by rw [ha]
  rw [he, lg_entry_eq]
  have hl := lv_entry ([.ref (h 24), .int (nI t), .int (nI lv)]) (n := 6) (Nat.le_of_ble_eq_true rfl)
  generalize (lg_sl ([.ref (h 24), .int (nI t), .int (nI lv)]) ++ List.replicate (6 - (lg_sl ([.ref (h 24), .int (nI t), .int (nI lv)])).length) Slot.unset).toArray = ls at hl ⊢
  have hl : lv_has ls 6 [(0, .ref (h 24)), (1, .int (nI t)), (2, .int (nI lv))] := hl
  have hKt : va_K D classes (Ta ty) s := hK.sub [0, 1, 2, 3] rfl
  have B64 : ∀ ls : Array Slot, lv_has ls 6 [(0, .ref (h 24)), (1, .int (nI t)), (2, .int (nI lv))] → (f_Te_kindOf (nI t) σ = 3 ∨ f_Te_kindOf (nI t) σ = 4) → W p l e (headSpec w_Ba_workOut (rm_Ba_workOut d k)).room s m args below meth c s.heap [] 0 0 (MQ below (va_Qr (fun u : (Nat → Option Nat) × List Itm => (∃ N, u.2 = L ++ N) ∧ BI Sp u.1 u.2 ∧ (∀ j v, A0 j = some v → u.1 j = some v) ∧ dom u.1 = ndp σ d (dom A0) t) (fun u a t1 => (∃ i x, 3 ≤ i ∧ u.2[i]? = some x ∧ x.1 0 = a ∧ Sp t x.2) ∧ va_P D classes (WB ty h σ cA u.1 px u.2) t1.heap ∧ va_D A (WB ty h σ cA u.1 px u.2)) A) args s (4 * k) (308 * k) A) (F0 m 64 ls []) := by
    intro ls hl h34
    obtain ⟨d', b, hd, hb2, hbt, hGb⟩ : ∃ d' b, d = d' + 1 ∧ f_Te_secondOf (nI t) σ = nI b ∧ b < t ∧ G d' b := by
      rcases h34 with z | z
      · obtain ⟨d', a, b, w1, w2, w3, w4, w5, w6, w7, -⟩ := c3 z; exact ⟨d', b, w1, w3, w5, w7⟩
      · obtain ⟨d', b, w1, w2, w3, w4, -⟩ := c4 z; exact ⟨d', b, w1, w2, w3, w4⟩
    have R0 := hR d' hd
    have hcb : (nI b).toNatClampNeg = b := nI_clamp (by omega)
    have m1 := cn_nd (σ := σ) (d' + 1) (dom A0) b
    have hk1 : cn (nd σ (d' + 1) (dom A0) b) 100 - cn (dom A0) 100 + 1 ≤ k := by
      rw [hk, ← hd]; unfold ndp
      rcases h34 with z | z
      · have n4 : ¬ f_Te_kindOf (nI t) σ = 4 := by rw [z]; decide
        rw [if_neg n4, if_pos z, hb2, hcb]
        have := cn_nd (σ := σ) d (nd σ d (dom A0) b) (f_Te_firstOf (nI t) σ).toNatClampNeg
        omega
      · rw [if_pos z, hb2, hcb]; exact Nat.le_refl _
    refine lv_aload_n hx hb d_Ba_workOut_64 rfl (lv_at hl 0 rfl) ?_
    refine lv_aload_n hx hb d_Ba_workOut_65 rfl (lv_at hl 0 rfl) ?_
    refine va_get (v := .ref (h 6)) (C := R_Ba) (T := T_Ba) (N := 6) hx hb hg in_Ba hown hK hP 24 rfl rfl 0 (by decide) (hg _ m_207) (fun _ h9 => h9) rfl d_Ba_workOut_66 ?_
    refine lv_iload_n hx hb d_Ba_workOut_69 rfl (lv_at hl 1 rfl) ?_
    refine zz_callV (va_runV (As := [.int (nI t)]) (rest := [.ref (h 24)]) ⟨hx, hb, hml, hown, hg⟩ (c_Te_secondOf l D ty h ((h 40, .inl (cA, (100, .inr (.inr (.inr (.inr A0)))))) :: SW ty px L) sa σ (nI t) (hac (nI t)).2.2.1) ⟨callB_of 1 hg (gw_C m_451) rfl rfl rfl (hg _ m_3) (hg _ m_1106) hd_Te_secondOf ⟨(by simp only [headSpec, rm_Ba_workOut, rm_Te_secondOf]; omega), (by simp only [headSpec, rm_Ba_workOut, rm_Te_secondOf]; omega)⟩, hg _ m_449, hg _ m_450⟩ (zz_preV (hM.at hS) hN hKt hP 6 rfl rfl) rfl rfl hl.1 rfl (lv_room (Nat.le_of_ble_eq_true rfl)) d_Ba_workOut_70 ⟨by show _ ≤ 4 * k; omega, by show _ ≤ 308 * k; omega⟩) ?_
    rw [hb2]
    refine lv_iload_n hx hb d_Ba_workOut_73 rfl (lv_at hl 2 rfl) ?_
    refine lv_iconst (v := 1) hx hb d_Ba_workOut_74 (by decide) ?_
    refine lv_iadd hx hb d_Ba_workOut_75 ?_
    rw [← nI_succ]
    refine va_callr (va_runV (As := [.int (nI b), .int (nI (lv + 1))]) (rest := []) ⟨hx, hb, hml, hown, hg⟩ (R0 A0 L s.heap.size b (lv + 1) _ hGb (by omega) hBI hL3 rfl) ⟨callB_of 2 hg (gw_C m_1110) rfl rfl rfl (hg _ m_8) (hg _ m_1107) hd_Ba_sumOf ⟨(by simp only [headSpec, rm_Ba_workOut, rs_Ba_sumOf]; omega), (by simp only [headSpec, rm_Ba_workOut, rs_Ba_sumOf]; omega)⟩, hg _ m_1109, hg _ ms_42⟩ (zz_preVW hM hS hA hN hK hP hD 24 rfl rfl) rfl rfl hl.1 rfl (lv_room (Nat.le_of_ble_eq_true rfl)) d_Ba_workOut_76 ⟨by show 0 + 4 * _ ≤ 4 * k; subst hd; omega, by show 0 + 308 * _ ≤ 308 * k; subst hd; omega⟩) hS (fun q _ h => zz_free hD hS hA q h) (zz_free hD hS hA) (fun u1 a1 t9 H locs ht9 hvm hp hB hz hk9 hS9 => ?_)
    obtain ⟨A1, L1⟩ := u1
    obtain ⟨⟨N1, eL1⟩, hBI1, hex1, hdm1⟩ := hp
    obtain ⟨hA1, hP1, hD1⟩ := hB
    rw [ht9] at hP1
    have eL1 : L1 = L ++ N1 := eL1
    have hBI1 : BI Sp A1 L1 := hBI1
    have hdm1 : dom A1 = nd σ (d' + 1) (dom A0) b := hdm1
    have hA1 : A1 b = some a1 := hA1
    have hD1 : va_D A (WB ty h σ cA A1 px L1) := hD1.weaken (fun _ _ _ h9 => zz_free hD hS hA _ h9)
    have hL31 : 3 ≤ L1.length := by rw [eL1, List.length_append]; omega
    clear hP hD hS hk9 hz
    have hP := hP1
    have hD := hD1
    have hS := hS9
    refine lv_astore_n (lv' := [(3, .ref a1), (0, .ref (h 24)), (1, .int (nI t)), (2, .int (nI lv))]) hx hb d_Ba_workOut_79 rfl hl (by decide) rfl (fun ls hl => ?_)
    refine lv_aload_n hx hb d_Ba_workOut_80 rfl (lv_at hl 1 rfl) ?_
    refine va_get (v := .ref (h 6)) (C := R_Ba) (T := T_Ba) (N := 6) hx hb hg in_Ba hown hK hP 24 rfl rfl 0 (by decide) (hg _ m_207) (fun _ h9 => h9) rfl d_Ba_workOut_81 ?_
    refine lv_iload_n hx hb d_Ba_workOut_84 rfl (lv_at hl 2 rfl) ?_
    refine zz_callV (va_runV (As := [.int (nI t)]) (rest := []) ⟨hx, hb, hml, hown, hg⟩ (c_Te_kindOf l D ty h ((h 40, .inl (cA, (100, .inr (.inr (.inr (.inr A1)))))) :: SW ty px L1) sa σ (nI t) (hac (nI t)).1) ⟨callB_of 1 hg (gw_C m_434) rfl rfl rfl (hg _ m_3) (hg _ m_1091) hd_Te_kindOf ⟨(by simp only [headSpec, rm_Ba_workOut, rm_Te_kindOf]; omega), (by simp only [headSpec, rm_Ba_workOut, rm_Te_kindOf]; omega)⟩, hg _ m_432, hg _ m_433⟩ (zz_preV (hM.at hS) hN hKt hP 6 rfl rfl) rfl rfl hl.1 rfl (lv_room (Nat.le_of_ble_eq_true rfl)) d_Ba_workOut_85 ⟨by show _ ≤ 4 * k; omega, by show _ ≤ 308 * k; omega⟩) ?_
    refine lv_iconst (v := 4) hx hb d_Ba_workOut_88 (by decide) ?_
    refine lv_icmp_ne (tgt := 106) hx hb d_Ba_workOut_89 (by decide) (fun hn4 => ?_) (fun he4 => ?_)
    · have h3 : f_Te_kindOf (nI t) σ = 3 := h34.resolve_right hn4
      obtain ⟨d2, a, b2, w1, w2, w3, w4, w5, w6, w7, w8⟩ := c3 h3
      obtain rfl : d2 = d' := by omega
      obtain rfl : b2 = b := (nI_eq (by omega) (by omega)).mp (w3.symm.trans hb2)
      have hca : (nI a).toNatClampNeg = a := nI_clamp (by omega)
      have hk2 : k = (cn (nd σ (d2 + 1) (dom A1) a) 100 - cn (dom A1) 100) + (cn (nd σ (d2 + 1) (dom A0) b2) 100 - cn (dom A0) 100) + 1 := by
        rw [hk, hdm1]; unfold ndp
        rw [if_neg hn4, if_pos h3, w2, hb2, hca, hcb, hd]
        have := cn_nd (σ := σ) (d2 + 1) (nd σ (d2 + 1) (dom A0) b2) a
        omega
      refine lv_aload_n hx hb d_Ba_workOut_106 rfl (lv_at hl 1 rfl) ?_
      refine lv_aload_n hx hb d_Ba_workOut_107 rfl (lv_at hl 1 rfl) ?_
      refine va_get (v := .ref (h 6)) (C := R_Ba) (T := T_Ba) (N := 6) hx hb hg in_Ba hown hK hP 24 rfl rfl 0 (by decide) (hg _ m_207) (fun _ h9 => h9) rfl d_Ba_workOut_108 ?_
      refine lv_iload_n hx hb d_Ba_workOut_111 rfl (lv_at hl 2 rfl) ?_
      refine zz_callV (va_runV (As := [.int (nI t)]) (rest := [.ref (h 24)]) ⟨hx, hb, hml, hown, hg⟩ (c_Te_firstOf l D ty h ((h 40, .inl (cA, (100, .inr (.inr (.inr (.inr A1)))))) :: SW ty px L1) sa σ (nI t) (hac (nI t)).2.1) ⟨callB_of 1 hg (gw_C m_447) rfl rfl rfl (hg _ m_3) (hg _ m_1092) hd_Te_firstOf ⟨(by simp only [headSpec, rm_Ba_workOut, rm_Te_firstOf]; omega), (by simp only [headSpec, rm_Ba_workOut, rm_Te_firstOf]; omega)⟩, hg _ m_445, hg _ m_446⟩ (zz_preV (hM.at hS) hN hKt hP 6 rfl rfl) rfl rfl hl.1 rfl (lv_room (Nat.le_of_ble_eq_true rfl)) d_Ba_workOut_112 ⟨by show _ ≤ 4 * k; omega, by show _ ≤ 308 * k; omega⟩) ?_
      rw [w2]
      refine lv_iload_n hx hb d_Ba_workOut_115 rfl (lv_at hl 3 rfl) ?_
      refine lv_iconst (v := 1) hx hb d_Ba_workOut_116 (by decide) ?_
      refine lv_iadd hx hb d_Ba_workOut_117 ?_
      rw [← nI_succ]
      refine va_callr (va_runV (As := [.int (nI a), .int (nI (lv + 1))]) (rest := []) ⟨hx, hb, hml, hown, hg⟩ (R0 A1 L1 H.size a (lv + 1) _ w6 (by omega) hBI1 hL31 rfl) ⟨callB_of 2 hg (gw_C m_1110) rfl rfl rfl (hg _ m_8) (hg _ m_1107) hd_Ba_sumOf ⟨(by simp only [headSpec, rm_Ba_workOut, rs_Ba_sumOf]; omega), (by simp only [headSpec, rm_Ba_workOut, rs_Ba_sumOf]; omega)⟩, hg _ m_1109, hg _ ms_42⟩ (zz_preVW hM hS hA hN hK hP hD 24 rfl rfl) rfl rfl hl.1 rfl (lv_room (Nat.le_of_ble_eq_true rfl)) d_Ba_workOut_118 ⟨by show 0 + 4 * _ + 4 * _ ≤ 4 * k; omega, by show 0 + 308 * _ + 308 * _ ≤ 308 * k; omega⟩) hS (fun q _ h => zz_free hD hS hA q h) (zz_free hD hS hA) (fun u2 a2 t9 H locs ht9 hvm hp hB hz hk9 hS9 => ?_)
      obtain ⟨A2, L2⟩ := u2
      obtain ⟨⟨N2, eL2⟩, hBI2, hex2, hdm2⟩ := hp
      obtain ⟨hA2, hP1, hD1⟩ := hB
      rw [ht9] at hP1
      have eL2 : L2 = L1 ++ N2 := eL2
      have hBI2 : BI Sp A2 L2 := hBI2
      have hdm2 : dom A2 = nd σ (d2 + 1) (dom A1) a := hdm2
      have hA2 : A2 a = some a2 := hA2
      have hD1 : va_D A (WB ty h σ cA A2 px L2) := hD1.weaken (fun _ _ _ h9 => zz_free hD hS hA _ h9)
      have hL32 : 3 ≤ L2.length := by rw [eL2, List.length_append]; omega
      have e0 : ndp σ d (dom A0) t = dom A2 := by unfold ndp; rw [if_neg hn4, if_pos h3, w2, hb2, hca, hcb, hd, hdm2, hdm1]
      clear hP hD hS hk9 hz
      have hP := hP1
      have hD := hD1
      have hS := hS9
      obtain ⟨ia, xa, hia3, hia, hxa, hSa⟩ := hBI2 a a2 hA2
      obtain ⟨ib, xb, hib3, hib, hxb, hSb⟩ := hBI2 b2 a1 (hex2 b2 a1 hA1)
      subst hxa
      subst hxb
      obtain ⟨n, hn, hmin, hk5, hk6, hSn⟩ := w8 xa.2 xb.2 hSa hSb
      obtain ⟨Ra, hRa⟩ := zp_on hia
      have pa := hRa xa
      rw [zp_set hia] at pa
      obtain ⟨Rb, hRb⟩ := zp_on hib
      have pb := hRb xb
      rw [zp_set hib] at pb
      refine lv_astore (lv' := [(4, .ref (xa.1 0)), (3, .ref (xb.1 0)), (0, .ref (h 24)), (1, .int (nI t)), (2, .int (nI lv))]) hx hb d_Ba_workOut_121 hl (by decide) rfl (fun ls hl => ?_)
      refine va_new (ci := 8) (fs := [.null, .null, .null, .int 0, .int 0]) (C := R_Su) (T := T_Su) (N := 5) hx hb hg in_Su ty_Su ok_Su hown (hg _ m_184) (hg _ m_186) (hg _ m_9) hK hP hD hS hA rfl (fun j hj => by match j, hj with | 0, _ => rfl | 1, _ => rfl | 2, _ => rfl | 3, _ => rfl | 4, _ => rfl) (by show _ + 1 ≤ 4 * k; omega) (by show _ + 5 ≤ 308 * k; omega) d_Ba_workOut_123 (fun q0 H hP hD hS => ?_)
      refine lv_dup hx hb d_Ba_workOut_126 rfl ?_
      refine lv_aload hx hb d_Ba_workOut_127 (lv_at hl 0 rfl) ?_
      have hPs_xa : va_P D classes (Ws ty xa.1 xa.2 (WB ty h σ cA A2 px Ra ++ [(q0, .inr (8, [.null, .null, .null, .int 0, .int 0]))])) H := zp_P hP ((WB_on pa).append_right _)
      refine zz_callV (va_runV (As := []) (rest := [.ref q0, .ref q0]) ⟨hx, hb, hml, hown, hg⟩ (c_Su_sizes l D ty xa.1 (WB ty h σ cA A2 px Ra ++ [(q0, .inr (8, [.null, .null, .null, .int 0, .int 0]))]) sa xa.2 trivial) ⟨callB_of 0 hg (gw_C m_1141) rfl rfl rfl (hg _ m_9) (hg _ m_1138) hd_Su_sizes ⟨(by simp only [headSpec, rm_Ba_workOut, rm_Su_sizes]; omega), (by simp only [headSpec, rm_Ba_workOut, rm_Su_sizes]; omega)⟩, hg _ m_1139, hg _ m_1140⟩ (zz_preV (hM.at hS) hN hKt hPs_xa 0 rfl rfl) rfl rfl hl.1 rfl (lv_room (Nat.le_of_ble_eq_true rfl)) d_Ba_workOut_129 ⟨by show _ ≤ 4 * k; omega, by show _ ≤ 308 * k; omega⟩) ?_
      refine lv_aload_n hx hb d_Ba_workOut_132 rfl (lv_at hl 1 rfl) ?_
      have hPs_xb : va_P D classes (Ws ty xb.1 xb.2 (WB ty h σ cA A2 px Rb ++ [(q0, .inr (8, [.null, .null, .null, .int 0, .int 0]))])) H := zp_P hP ((WB_on pb).append_right _)
      refine zz_callV (va_runV (As := []) (rest := [.int (f_Su_sizes xa.2), .ref q0, .ref q0]) ⟨hx, hb, hml, hown, hg⟩ (c_Su_sizes l D ty xb.1 (WB ty h σ cA A2 px Rb ++ [(q0, .inr (8, [.null, .null, .null, .int 0, .int 0]))]) sa xb.2 trivial) ⟨callB_of 0 hg (gw_C m_1141) rfl rfl rfl (hg _ m_9) (hg _ m_1138) hd_Su_sizes ⟨(by simp only [headSpec, rm_Ba_workOut, rm_Su_sizes]; omega), (by simp only [headSpec, rm_Ba_workOut, rm_Su_sizes]; omega)⟩, hg _ m_1139, hg _ m_1140⟩ (zz_preV (hM.at hS) hN hKt hPs_xb 0 rfl rfl) rfl rfl hl.1 rfl (lv_room (Nat.le_of_ble_eq_true rfl)) d_Ba_workOut_133 ⟨by show _ ≤ 4 * k; omega, by show _ ≤ 308 * k; omega⟩) ?_
      refine lv_iadd hx hb d_Ba_workOut_136 ?_
      refine lv_bipush (v := 101) hx hb d_Ba_workOut_137 (by decide) ?_
      refine va_mmin hx hb (hml.trans hl.1.symm) hown (hg _ m_1147) (hg _ m_640) (hg _ m_14) (hg _ m_641) (by show 1 ≤ 4 + 2 * d; omega) (by show 2 + 13 ≤ 120 + 48 * d; omega) (by show _ ≤ 4 * k; omega) (by show _ ≤ 308 * k; omega) d_Ba_workOut_139 ?_
      have hmin2 : (if (101 : Int32) < f_Su_sizes xa.2 + f_Su_sizes xb.2 then 101 else f_Su_sizes xa.2 + f_Su_sizes xb.2) = nI n := hmin
      rw [hmin2]
      have hPq : va_P D classes ([(q0, .inr (8, [.null, .null, .null, .int 0, .int 0]))] ++ (WB ty h σ cA A2 px L2)) H := zp_P hP List.perm_append_comm
      have hDq : va_D A ([(q0, .inr (8, [.null, .null, .null, .int 0, .int 0]))] ++ (WB ty h σ cA A2 px L2)) := zp_D hD List.perm_append_comm
      have hPc : va_P D classes [(q0, .inr (8, [.null, .null, .null, .int 0, .int 0]))] H := hPq.sub [0] rfl
      have hDc : va_D A [(q0, .inr (8, [.null, .null, .null, .int 0, .int 0]))] := hDq.sub [0] (by decide) rfl
      have hFc := va_free (wc := [(q0, .inr (8, [.null, .null, .null, .int 0, .int 0]))]) hDq hS hA [0] rfl
      refine va_callv (va_runI (As := [.int (nI n)]) (rest := [.ref q0]) ⟨hx, hb, hml, hown, hg⟩ (c_Su_init l D ty q0 H.size n hn) ⟨callB_of 1 hg (gw_C m_189) rfl rfl rfl (hg _ m_9) (hg _ m_187) hd_Su_init ⟨(by simp only [headSpec, rm_Ba_workOut, rm_Su_init]; omega), (by simp only [headSpec, rm_Ba_workOut, rm_Su_init]; omega)⟩, rfl, hg _ m_188⟩ (zz_preC hKt hPc hDc) rfl rfl hl.1 rfl (lv_room (Nat.le_of_ble_eq_true rfl)) d_Ba_workOut_142 ⟨by show _ + 3 ≤ 4 * k; omega, by show _ + (0 + n + n + n) ≤ 308 * k; omega⟩) hS (fun q _ h => hFc q h) hFc (fun u8 t8 H1 locs ht8 hvm hw hB hz hk1 hS => ?_)
      obtain ⟨hP1, hD1⟩ := hB
      rw [ht8] at hP1
      obtain ⟨hP, hD⟩ := va_joinQ (X := [(q0, .inr (8, [.null, .null, .null, .int 0, .int 0]))]) (pl := WB ty h σ cA A2 px L2) (cx := [(q0, .inr (8, [.null, .null, .null, .int 0, .int 0]))]) (wr := []) (w1 := at_Su_init ty q0 n u8) hPq hDq [0] [] rfl rfl (by decide) (by decide) hk1 hFc hP1 hD1
      have hP : va_P D classes (Ws ty (ad4 q0 u8) (s0 n) (WB ty h σ cA A2 px L2)) H1 := by rw [← at_new ty q0 n u8 hn]; exact hP
      have hD : va_D A (Ws ty (ad4 q0 u8) (s0 n) (WB ty h σ cA A2 px L2)) := by rw [← at_new ty q0 n u8 hn]; exact hD
      generalize H1 = H at hP hS ⊢
      refine lv_astore (lv' := [(5, .ref q0), (4, .ref (xa.1 0)), (3, .ref (xb.1 0)), (0, .ref (h 24)), (1, .int (nI t)), (2, .int (nI lv))]) hx hb d_Ba_workOut_145 hl (by decide) rfl (fun ls hl => ?_)
      refine lv_aload hx hb d_Ba_workOut_147 (lv_at hl 0 rfl) ?_
      refine lv_aload hx hb d_Ba_workOut_149 (lv_at hl 1 rfl) ?_
      refine lv_lconst (v := 1) hx hb d_Ba_workOut_151 (by decide) ?_
      refine lv_lconst (v := 1) hx hb d_Ba_workOut_152 (by decide) ?_
      have q_u6 : List.Perm (Ws ty (ad4 q0 u8) (s0 n) (WB ty h σ cA A2 px L2)) (Ws ty (ad4 q0 u8) (s0 n) (Ws ty xa.1 xa.2 (WB ty h σ cA A2 px Ra))) := ((((WB_on pa).cons _).cons _).cons _).cons _
      have hPt := zp_P hP q_u6
      have hDt := zp_D hD q_u6
      refine va_callv (va_runV (b := ad4 q0 u8 0) (As := [.ref (xa.1 0), .long 1, .long 1]) (rest := []) ⟨hx, hb, hml, hown, hg⟩ (c_Su_addTimes l D ty (ad4 q0 u8) xa.1 (WB ty h σ cA A2 px Ra) sa (s0 n) xa.2 H.size 1 1 hk5) ⟨callB_of 3 hg (gw_C m_1145) rfl rfl rfl (hg _ m_9) (hg _ m_1142) hd_Su_addTimes ⟨(by simp only [headSpec, rm_Ba_workOut, rm_Su_addTimes]; omega), (by simp only [headSpec, rm_Ba_workOut, rm_Su_addTimes]; omega)⟩, hg _ m_1143, hg _ m_1144⟩ (zz_preVW hM hS hA hN hKt hPt hDt 0 rfl rfl) rfl rfl hl.1 rfl (lv_room (Nat.le_of_ble_eq_true rfl)) d_Ba_workOut_153 ⟨by show _ ≤ 4 * k; omega, by show _ ≤ 308 * k; omega⟩) hS (fun q _ h => zz_free hDt hS hA q h) (zz_free hDt hS hA) (fun u6 t9 H locs ht9 hvm hp hP1 hz9 hk9 hS9 => ?_)
      rw [ht9] at hP1
      have hD1 : va_D A (Ws ty (ad4 q0 u8) u6 (Ws ty xa.1 xa.2 (WB ty h σ cA A2 px Ra))) := zz_D hDt rfl
      have r_u6 : List.Perm (Ws ty (ad4 q0 u8) u6 (Ws ty xa.1 xa.2 (WB ty h σ cA A2 px Ra))) (Ws ty (ad4 q0 u8) u6 (WB ty h σ cA A2 px L2)) := ((((WB_on pa).symm.cons _).cons _).cons _).cons _
      clear hP hD hS hk9 hz9
      have hP := zp_P hP1 r_u6
      have hD := zp_D hD1 r_u6
      have hS := hS9
      subst hp
      refine lv_aload hx hb d_Ba_workOut_156 (lv_at hl 0 rfl) ?_
      refine lv_aload_n hx hb d_Ba_workOut_158 rfl (lv_at hl 2 rfl) ?_
      refine lv_lconst (v := 1) hx hb d_Ba_workOut_159 (by decide) ?_
      refine lv_lconst (v := 1) hx hb d_Ba_workOut_160 (by decide) ?_
      have q_u7 : List.Perm (Ws ty (ad4 q0 u8) (f_at xa.2 1 1 (s0 n)) (WB ty h σ cA A2 px L2)) (Ws ty (ad4 q0 u8) (f_at xa.2 1 1 (s0 n)) (Ws ty xb.1 xb.2 (WB ty h σ cA A2 px Rb))) := ((((WB_on pb).cons _).cons _).cons _).cons _
      have hPt := zp_P hP q_u7
      have hDt := zp_D hD q_u7
      refine va_callv (va_runV (b := ad4 q0 u8 0) (As := [.ref (xb.1 0), .long 1, .long 1]) (rest := []) ⟨hx, hb, hml, hown, hg⟩ (c_Su_addTimes l D ty (ad4 q0 u8) xb.1 (WB ty h σ cA A2 px Rb) sa (f_at xa.2 1 1 (s0 n)) xb.2 H.size 1 1 hk6) ⟨callB_of 3 hg (gw_C m_1145) rfl rfl rfl (hg _ m_9) (hg _ m_1142) hd_Su_addTimes ⟨(by simp only [headSpec, rm_Ba_workOut, rm_Su_addTimes]; omega), (by simp only [headSpec, rm_Ba_workOut, rm_Su_addTimes]; omega)⟩, hg _ m_1143, hg _ m_1144⟩ (zz_preVW hM hS hA hN hKt hPt hDt 0 rfl rfl) rfl rfl hl.1 rfl (lv_room (Nat.le_of_ble_eq_true rfl)) d_Ba_workOut_161 ⟨by show _ ≤ 4 * k; omega, by show _ ≤ 308 * k; omega⟩) hS (fun q _ h => zz_free hDt hS hA q h) (zz_free hDt hS hA) (fun u7 t9 H locs ht9 hvm hp hP1 hz9 hk9 hS9 => ?_)
      rw [ht9] at hP1
      have hD1 : va_D A (Ws ty (ad4 q0 u8) u7 (Ws ty xb.1 xb.2 (WB ty h σ cA A2 px Rb))) := zz_D hDt rfl
      have r_u7 : List.Perm (Ws ty (ad4 q0 u8) u7 (Ws ty xb.1 xb.2 (WB ty h σ cA A2 px Rb))) (Ws ty (ad4 q0 u8) u7 (WB ty h σ cA A2 px L2)) := ((((WB_on pb).symm.cons _).cons _).cons _).cons _
      clear hP hD hS hk9 hz9
      have hP := zp_P hP1 r_u7
      have hD := zp_D hD1 r_u7
      have hS := hS9
      subst hp
      refine lv_aload hx hb d_Ba_workOut_164 (lv_at hl 0 rfl) ?_
      have pe := WB_end (ty := ty) (h := h) (σ := σ) (cA := cA) (A := A2) (px := px) (L := L2) (z := (ad4 q0 u8, f_at xb.2 1 1 (f_at xa.2 1 1 (s0 n))))
      have hP2 := zp_P hP pe
      have hD2 := zp_D hD pe
      refine W.widen (k := 4 * k) (n := 308 * k) (by omega) (by omega) ?_
      exact W.aret hx hb hr (Or.inl ⟨_, rfl⟩) (Or.inr ⟨_, rfl⟩) (fun t1 ht1 hW => ⟨⟨(A2, L2 ++ [(ad4 q0 u8, f_at xb.2 1 1 (f_at xa.2 1 1 (s0 n)))]), q0, rfl, ⟨by rw [eL2, eL1, List.append_assoc L N1 N2]; exact pfx, hBI2.app, fun j v h9 => hex2 j v (hex1 j v h9), e0.symm⟩, ⟨L2.length, _, hL32, List.getElem?_concat_length, rfl, hSn⟩, by rw [ht1]; exact hP2, hD2⟩, hS.F ht1⟩) hS.2.2 d_Ba_workOut_166
    · obtain ⟨d2, b2, w1, w2, w3, w4, w5⟩ := c4 he4
      obtain rfl : b2 = b := by
        have := (C _ _ w4).1
        exact (nI_eq (by omega) (by omega)).mp (w2.symm.trans hb2)
      obtain ⟨i, x, hi3, hix, hxa, hSpx⟩ := hBI1 b2 a1 hA1
      obtain ⟨n, hn, hsn, hkn, hSn⟩ := w5 x.2 hSpx
      subst hxa
      obtain ⟨R, hRp⟩ := zp_on hix
      have pR := hRp x
      rw [zp_set hix] at pR
      have e0 : ndp σ d (dom A0) t = dom A1 := by unfold ndp; rw [if_pos he4, hb2, hcb, hd]; exact hdm1.symm
      refine lv_aload_n hx hb d_Ba_workOut_92 rfl (lv_at hl 1 rfl) ?_
      refine lv_aload_n hx hb d_Ba_workOut_93 rfl (lv_at hl 1 rfl) ?_
      refine va_get (v := .ref (h 6)) (C := R_Ba) (T := T_Ba) (N := 6) hx hb hg in_Ba hown hK hP 24 rfl rfl 0 (by decide) (hg _ m_207) (fun _ h9 => h9) rfl d_Ba_workOut_94 ?_
      refine lv_iload_n hx hb d_Ba_workOut_97 rfl (lv_at hl 2 rfl) ?_
      refine zz_callV (va_runV (As := [.int (nI t)]) (rest := [.ref (h 24)]) ⟨hx, hb, hml, hown, hg⟩ (c_Te_firstOf l D ty h ((h 40, .inl (cA, (100, .inr (.inr (.inr (.inr A1)))))) :: SW ty px L1) sa σ (nI t) (hac (nI t)).2.1) ⟨callB_of 1 hg (gw_C m_447) rfl rfl rfl (hg _ m_3) (hg _ m_1092) hd_Te_firstOf ⟨(by simp only [headSpec, rm_Ba_workOut, rm_Te_firstOf]; omega), (by simp only [headSpec, rm_Ba_workOut, rm_Te_firstOf]; omega)⟩, hg _ m_445, hg _ m_446⟩ (zz_preV (hM.at hS) hN hKt hP 6 rfl rfl) rfl rfl hl.1 rfl (lv_room (Nat.le_of_ble_eq_true rfl)) d_Ba_workOut_98 ⟨by show _ ≤ 4 * k; omega, by show _ ≤ 308 * k; omega⟩) ?_
      refine lv_aload_n hx hb d_Ba_workOut_101 rfl (lv_at hl 0 rfl) ?_
      have hPp := zp_P hP (WB_in pR)
      have hDp := zp_D hD (WB_in pR)
      refine va_callr (va_runV (As := [.int (f_Te_firstOf (nI t) σ), .ref (x.1 0)]) (rest := []) ⟨hx, hb, hml, hown, hg⟩ (c_Ba_product l D ty h x.1 ((h 40, .inl (cA, (100, .inr (.inr (.inr (.inr A1)))))) :: SW ty px R) sa σ x.2 H.size (f_Te_firstOf (nI t) σ) n hn hsn (hac _).2.2.2.1 (hac _).2.2.2.2 hkn) ⟨callB_of 2 hg (gw_C m_1137) rfl rfl rfl (hg _ m_8) (hg _ m_1134) hd_Ba_product ⟨(by simp only [headSpec, rm_Ba_workOut, rm_Ba_product]; omega), (by simp only [headSpec, rm_Ba_workOut, rm_Ba_product]; omega)⟩, hg _ m_1136, hg _ ms_45⟩ (zz_preVW hM hS hA hN hKt hPp hDp 24 rfl rfl) rfl rfl hl.1 rfl (lv_room (Nat.le_of_ble_eq_true rfl)) d_Ba_workOut_102 ⟨by show _ + 4 ≤ 4 * k; omega, by show _ + (5 + (0 + n + n + n)) ≤ 308 * k; omega⟩) hS (fun q _ h => zz_free hDp hS hA q h) (zz_free hDp hS hA) (fun u9 ra t9 H locs ht9 hvm hp hB hz hk9 hS9 => ?_)
      obtain ⟨ea, hP1, hD1⟩ := hB
      rw [ht9] at hP1
      subst ea
      have pb := (Wc_Ws.trans (((((WB_in pR).symm.cons _).cons _).cons _).cons _)).trans (WB_end (ty := ty) (h := h) (σ := σ) (cA := cA) (A := A1) (px := px) (L := L1) (z := (u9, f_at x.2 (f_Te_topOf (f_Te_firstOf (nI t) σ) σ).toInt64 (f_Te_bottomOf (f_Te_firstOf (nI t) σ) σ).toInt64 (s0 n))))
      have hP2 := zp_P hP1 pb
      have hD2 := zp_D (hD1.weaken (fun _ _ _ h9 => zz_free hDp hS hA _ h9)) pb
      refine W.widen (k := 4 * k) (n := 308 * k) (by omega) (by omega) ?_
      exact W.aret hx hb hr (Or.inl ⟨_, rfl⟩) (Or.inr ⟨_, rfl⟩) (fun t1 ht1 hW => ⟨⟨(A1, L1 ++ [(u9, f_at x.2 (f_Te_topOf (f_Te_firstOf (nI t) σ) σ).toInt64 (f_Te_bottomOf (f_Te_firstOf (nI t) σ) σ).toInt64 (s0 n))]), u9 0, rfl, ⟨by rw [eL1]; exact pfx, hBI1.app, hex1, e0.symm⟩, ⟨L1.length, _, hL31, List.getElem?_concat_length, rfl, hSn⟩, by rw [ht1]; exact hP2, hD2⟩, hS9.F ht1⟩) hS9.2.2 d_Ba_workOut_105
  refine lv_aload_n hx hb d_Ba_workOut_0 rfl (lv_at hl 0 rfl) ?_
  refine va_get (v := .ref (h 6)) (C := R_Ba) (T := T_Ba) (N := 6) hx hb hg in_Ba hown hK hP 24 rfl rfl 0 (by decide) (hg _ m_207) (fun _ h9 => h9) rfl d_Ba_workOut_1 ?_
  refine lv_iload_n hx hb d_Ba_workOut_4 rfl (lv_at hl 1 rfl) ?_
  refine zz_callV (va_runV (As := [.int (nI t)]) (rest := []) ⟨hx, hb, hml, hown, hg⟩ (c_Te_kindOf l D ty h ((h 40, .inl (cA, (100, .inr (.inr (.inr (.inr A0)))))) :: SW ty px L) sa σ (nI t) (hac (nI t)).1) ⟨callB_of 1 hg (gw_C m_434) rfl rfl rfl (hg _ m_3) (hg _ m_1091) hd_Te_kindOf ⟨(by simp only [headSpec, rm_Ba_workOut, rm_Te_kindOf]; omega), (by simp only [headSpec, rm_Ba_workOut, rm_Te_kindOf]; omega)⟩, hg _ m_432, hg _ m_433⟩ (zz_preV (hM.at hS) hN hKt hP 6 rfl rfl) rfl rfl hl.1 rfl (lv_room (Nat.le_of_ble_eq_true rfl)) d_Ba_workOut_5 ⟨by show _ ≤ 4 * k; omega, by show _ ≤ 308 * k; omega⟩) ?_
  refine lv_iconst (v := 2) hx hb d_Ba_workOut_8 (by decide) ?_
  refine lv_icmp_ne (tgt := 33) hx hb d_Ba_workOut_9 (by decide) (fun hn2 => ?_) (fun he2 => ?_)
  · refine lv_aload_n hx hb d_Ba_workOut_33 rfl (lv_at hl 0 rfl) ?_
    refine va_get (v := .ref (h 6)) (C := R_Ba) (T := T_Ba) (N := 6) hx hb hg in_Ba hown hK hP 24 rfl rfl 0 (by decide) (hg _ m_207) (fun _ h9 => h9) rfl d_Ba_workOut_34 ?_
    refine lv_iload_n hx hb d_Ba_workOut_37 rfl (lv_at hl 1 rfl) ?_
    refine zz_callV (va_runV (As := [.int (nI t)]) (rest := []) ⟨hx, hb, hml, hown, hg⟩ (c_Te_kindOf l D ty h ((h 40, .inl (cA, (100, .inr (.inr (.inr (.inr A0)))))) :: SW ty px L) sa σ (nI t) (hac (nI t)).1) ⟨callB_of 1 hg (gw_C m_434) rfl rfl rfl (hg _ m_3) (hg _ m_1091) hd_Te_kindOf ⟨(by simp only [headSpec, rm_Ba_workOut, rm_Te_kindOf]; omega), (by simp only [headSpec, rm_Ba_workOut, rm_Te_kindOf]; omega)⟩, hg _ m_432, hg _ m_433⟩ (zz_preV (hM.at hS) hN hKt hP 6 rfl rfl) rfl rfl hl.1 rfl (lv_room (Nat.le_of_ble_eq_true rfl)) d_Ba_workOut_38 ⟨by show _ ≤ 4 * k; omega, by show _ ≤ 308 * k; omega⟩) ?_
    refine lv_iconst (v := 3) hx hb d_Ba_workOut_41 (by decide) ?_
    refine lv_icmp_eq (tgt := 64) hx hb d_Ba_workOut_42 (by decide) (fun he3 => ?_) (fun hn3 => ?_)
    · exact B64 _ hl (Or.inl he3)
    · refine lv_aload_n hx hb d_Ba_workOut_45 rfl (lv_at hl 0 rfl) ?_
      refine va_get (v := .ref (h 6)) (C := R_Ba) (T := T_Ba) (N := 6) hx hb hg in_Ba hown hK hP 24 rfl rfl 0 (by decide) (hg _ m_207) (fun _ h9 => h9) rfl d_Ba_workOut_46 ?_
      refine lv_iload_n hx hb d_Ba_workOut_49 rfl (lv_at hl 1 rfl) ?_
      refine zz_callV (va_runV (As := [.int (nI t)]) (rest := []) ⟨hx, hb, hml, hown, hg⟩ (c_Te_kindOf l D ty h ((h 40, .inl (cA, (100, .inr (.inr (.inr (.inr A0)))))) :: SW ty px L) sa σ (nI t) (hac (nI t)).1) ⟨callB_of 1 hg (gw_C m_434) rfl rfl rfl (hg _ m_3) (hg _ m_1091) hd_Te_kindOf ⟨(by simp only [headSpec, rm_Ba_workOut, rm_Te_kindOf]; omega), (by simp only [headSpec, rm_Ba_workOut, rm_Te_kindOf]; omega)⟩, hg _ m_432, hg _ m_433⟩ (zz_preV (hM.at hS) hN hKt hP 6 rfl rfl) rfl rfl hl.1 rfl (lv_room (Nat.le_of_ble_eq_true rfl)) d_Ba_workOut_50 ⟨by show _ ≤ 4 * k; omega, by show _ ≤ 308 * k; omega⟩) ?_
      refine lv_iconst (v := 4) hx hb d_Ba_workOut_53 (by decide) ?_
      refine lv_icmp_eq (tgt := 64) hx hb d_Ba_workOut_54 (by decide) (fun he4 => ?_) (fun hn4 => ?_)
      · exact B64 _ hl (Or.inr he4)
      · have e0 : ndp σ d (dom A0) t = dom A0 := by unfold ndp; rw [if_neg hn4, if_neg hn3]
        rw [e0] at hk ⊢
        refine lv_iload_n hx hb d_Ba_workOut_57 rfl (lv_at hl 1 rfl) ?_
        refine lv_iconst (v := 1) hx hb d_Ba_workOut_58 (by decide) ?_
        refine lv_iconst (v := 1) hx hb d_Ba_workOut_59 (by decide) ?_
        refine va_callr (va_runS (As := [.int (nI t), .int 1, .int 1]) (rest := []) ⟨hx, hb, hml, hown, hg⟩ (c_Ba_single l D ty (WB ty h σ cA A0 px L) sa s.heap.size (nI t) 1 1 (c1 hn2 hn3 hn4).1) ⟨callB_of 3 hg (gw_C m_1119) rfl rfl rfl (hg _ m_8) (hg _ m_1117) hd_Ba_single ⟨(by simp only [headSpec, rm_Ba_workOut, rm_Ba_single]; omega), (by simp only [headSpec, rm_Ba_workOut, rm_Ba_single]; omega)⟩, hg _ m_1118⟩ (zz_preSW hM hS hA hN hKt hP hD) rfl rfl hl.1 rfl (lv_room (Nat.le_of_ble_eq_true rfl)) d_Ba_workOut_60 ⟨by show _ ≤ 4 * k; omega, by show _ ≤ 308 * k; omega⟩) hS (fun q _ h => zz_free hD hS hA q h) (zz_free hD hS hA) (fun u9 ra t9 H locs ht9 hvm hp hB hz hk1 hS9 => ?_)
        obtain ⟨ea, hP1, hD1⟩ := hB
        rw [ht9] at hP1
        subst ea
        obtain ⟨fs, hfs⟩ : ∃ fs, f_single (nI t) 1 1 = fs := ⟨_, rfl⟩
        have hSfs := (c1 hn2 hn3 hn4).2
        rw [hfs] at hP1 hD1 hSfs
        have pe := WB_end (ty := ty) (h := h) (σ := σ) (cA := cA) (A := A0) (px := px) (L := L) (z := (u9, fs))
        have hP2 := zp_P hP1 pe
        have hD2 := zp_D (hD1.weaken (fun _ _ _ h9 => zz_free hD hS hA _ h9)) pe
        refine W.widen (k := 4 * k) (n := 308 * k) (by omega) (by omega) ?_
        exact W.aret hx hb hr (Or.inl ⟨_, rfl⟩) (Or.inr ⟨_, rfl⟩) (fun t1 ht1 hW => ⟨⟨(A0, L ++ [(u9, fs)]), u9 0, rfl, ⟨⟨_, rfl⟩, hBI.app, fun _ _ h9 => h9, rfl⟩, ⟨L.length, (u9, fs), hL3, List.getElem?_concat_length, rfl, hSfs⟩, by rw [ht1]; exact hP2, hD2⟩, hS9.F ht1⟩) hS9.2.2 d_Ba_workOut_63
  · have n4 : ¬ f_Te_kindOf (nI t) σ = 4 := by rw [he2]; decide
    have n3 : ¬ f_Te_kindOf (nI t) σ = 3 := by rw [he2]; decide
    have e0 : ndp σ d (dom A0) t = dom A0 := by unfold ndp; rw [if_neg n4, if_neg n3]
    rw [e0] at hk ⊢
    refine lv_iconst (v := -1) hx hb d_Ba_workOut_12 (by decide) ?_
    refine lv_aload_n hx hb d_Ba_workOut_13 rfl (lv_at hl 0 rfl) ?_
    refine va_get (v := .ref (h 6)) (C := R_Ba) (T := T_Ba) (N := 6) hx hb hg in_Ba hown hK hP 24 rfl rfl 0 (by decide) (hg _ m_207) (fun _ h9 => h9) rfl d_Ba_workOut_14 ?_
    refine lv_iload_n hx hb d_Ba_workOut_17 rfl (lv_at hl 1 rfl) ?_
    refine zz_callV (va_runV (As := [.int (nI t)]) (rest := [.int (-1)]) ⟨hx, hb, hml, hown, hg⟩ (c_Te_topOf l D ty h ((h 40, .inl (cA, (100, .inr (.inr (.inr (.inr A0)))))) :: SW ty px L) sa σ (nI t) (hac (nI t)).2.2.2.1) ⟨callB_of 1 hg (gw_C m_540) rfl rfl rfl (hg _ m_3) (hg _ m_1115) hd_Te_topOf ⟨(by simp only [headSpec, rm_Ba_workOut, rm_Te_topOf]; omega), (by simp only [headSpec, rm_Ba_workOut, rm_Te_topOf]; omega)⟩, hg _ m_538, hg _ m_539⟩ (zz_preV (hM.at hS) hN hKt hP 6 rfl rfl) rfl rfl hl.1 rfl (lv_room (Nat.le_of_ble_eq_true rfl)) d_Ba_workOut_18 ⟨by show _ ≤ 4 * k; omega, by show _ ≤ 308 * k; omega⟩) ?_
    refine lv_aload_n hx hb d_Ba_workOut_21 rfl (lv_at hl 0 rfl) ?_
    refine va_get (v := .ref (h 6)) (C := R_Ba) (T := T_Ba) (N := 6) hx hb hg in_Ba hown hK hP 24 rfl rfl 0 (by decide) (hg _ m_207) (fun _ h9 => h9) rfl d_Ba_workOut_22 ?_
    refine lv_iload_n hx hb d_Ba_workOut_25 rfl (lv_at hl 1 rfl) ?_
    refine zz_callV (va_runV (As := [.int (nI t)]) (rest := [.int (f_Te_topOf (nI t) σ), .int (-1)]) ⟨hx, hb, hml, hown, hg⟩ (c_Te_bottomOf l D ty h ((h 40, .inl (cA, (100, .inr (.inr (.inr (.inr A0)))))) :: SW ty px L) sa σ (nI t) (hac (nI t)).2.2.2.2) ⟨callB_of 1 hg (gw_C m_544) rfl rfl rfl (hg _ m_3) (hg _ m_1116) hd_Te_bottomOf ⟨(by simp only [headSpec, rm_Ba_workOut, rm_Te_bottomOf]; omega), (by simp only [headSpec, rm_Ba_workOut, rm_Te_bottomOf]; omega)⟩, hg _ m_542, hg _ m_543⟩ (zz_preV (hM.at hS) hN hKt hP 6 rfl rfl) rfl rfl hl.1 rfl (lv_room (Nat.le_of_ble_eq_true rfl)) d_Ba_workOut_26 ⟨by show _ ≤ 4 * k; omega, by show _ ≤ 308 * k; omega⟩) ?_
    refine va_callr (va_runS (As := [.int (-1), .int (f_Te_topOf (nI t) σ), .int (f_Te_bottomOf (nI t) σ)]) (rest := []) ⟨hx, hb, hml, hown, hg⟩ (c_Ba_single l D ty (WB ty h σ cA A0 px L) sa s.heap.size (-1) (f_Te_topOf (nI t) σ) (f_Te_bottomOf (nI t) σ) (c2 he2).1) ⟨callB_of 3 hg (gw_C m_1119) rfl rfl rfl (hg _ m_8) (hg _ m_1117) hd_Ba_single ⟨(by simp only [headSpec, rm_Ba_workOut, rm_Ba_single]; omega), (by simp only [headSpec, rm_Ba_workOut, rm_Ba_single]; omega)⟩, hg _ m_1118⟩ (zz_preSW hM hS hA hN hKt hP hD) rfl rfl hl.1 rfl (lv_room (Nat.le_of_ble_eq_true rfl)) d_Ba_workOut_29 ⟨by show _ ≤ 4 * k; omega, by show _ ≤ 308 * k; omega⟩) hS (fun q _ h => zz_free hD hS hA q h) (zz_free hD hS hA) (fun u9 ra t9 H locs ht9 hvm hp hB hz hk1 hS9 => ?_)
    obtain ⟨ea, hP1, hD1⟩ := hB
    rw [ht9] at hP1
    subst ea
    obtain ⟨fs, hfs⟩ : ∃ fs, f_single (-1) (f_Te_topOf (nI t) σ) (f_Te_bottomOf (nI t) σ) = fs := ⟨_, rfl⟩
    have hSfs := (c2 he2).2
    rw [hfs] at hP1 hD1 hSfs
    have pe := WB_end (ty := ty) (h := h) (σ := σ) (cA := cA) (A := A0) (px := px) (L := L) (z := (u9, fs))
    have hP2 := zp_P hP1 pe
    have hD2 := zp_D (hD1.weaken (fun _ _ _ h9 => zz_free hD hS hA _ h9)) pe
    refine W.widen (k := 4 * k) (n := 308 * k) (by omega) (by omega) ?_
    exact W.aret hx hb hr (Or.inl ⟨_, rfl⟩) (Or.inr ⟨_, rfl⟩) (fun t1 ht1 hW => ⟨⟨(A0, L ++ [(u9, fs)]), u9 0, rfl, ⟨⟨_, rfl⟩, hBI.app, fun _ _ h9 => h9, rfl⟩, ⟨L.length, (u9, fs), hL3, List.getElem?_concat_length, rfl, hSfs⟩, by rw [ht1]; exact hP2, hD2⟩, hS9.F ht1⟩) hS9.2.2 d_Ba_workOut_32

set_option maxHeartbeats 4000000 in
set_option maxRecDepth 100000 in
theorem c_Ba_sumOf (l : Launch) (D : va_G) (ty : Nat → ClassId) (h : Nat → Nat) (cA : ClassId) (px : va_W) (sa : Nat → Nat) (σ : St) (G : Nat → Nat → Prop) (Sp : Nat → St → Prop) (hac : ∀ x, k_Te_kindOf x σ ∧ k_Te_firstOf x σ ∧ k_Te_secondOf x σ ∧ k_Te_topOf x σ ∧ k_Te_bottomOf x σ) (C : Cl σ G Sp) (d : Nat) (hR : ∀ d', d = d' + 1 → CS l D ty h cA px sa σ G Sp d') : CS l D ty h cA px sa σ G Sp d := by
  intro A0 L sz t lv k hG hlv hBI hL3 hk
  have ht := (C d t hG).1
  have hct : (nI t).toNatClampNeg = t := nI_clamp (by omega)
  refine Met.ofW (cc := b_Ba_sumOf) (maxL := 4) (ret := (some (.object "ClauseLedger$Sum"))) (by decide) rfl ?_
  intro p e s m args below meth c s₁ B hml hv
  obtain ⟨ha, hsz, hP, hK, hN, hM, hD0⟩ := hv
  have hx := B.exec
  have hb := B.bytes
  have hr := B.returns
  have hg : ∀ w ∈ gw, w.before args s = true := fun w h9 => atoms_spec (ws := w_Ba_sumOf) B.pre w (List.mem_cons_of_mem _ h9)
  have hown : s.vm.findClass "ClauseLedger$Balance" = some m.cls := findClass_of_methodNamed B.named
  have hlocks := B.notSynchronized
  subst hsz
  have hD := hD0.self (sz := s.heap.size)
  generalize hAe : va_A (WB ty h σ cA A0 px L) s.heap.size = A at hD hM ⊢
  have hA : ∀ q : Nat, s.heap.size ≤ q → A q := fun q h9 => by rw [← hAe]; exact Or.inr h9
  have hS : va_S A s.heap s.heap [] := va_S.rf
  have he : entryFrame m args 4 = entryFrame m ([.ref (h 24), .int (nI t), .int (nI lv)] : List Value).toArray 4 := by rw [ha]
  rw [he, lg_entry_eq]
  have hl := lv_entry ([.ref (h 24), .int (nI t), .int (nI lv)]) (n := 4) (Nat.le_of_ble_eq_true rfl)
  generalize (lg_sl ([.ref (h 24), .int (nI t), .int (nI lv)]) ++ List.replicate (4 - (lg_sl ([.ref (h 24), .int (nI t), .int (nI lv)])).length) Slot.unset).toArray = ls at hl ⊢
  have hl : lv_has ls 4 [(0, .ref (h 24)), (1, .int (nI t)), (2, .int (nI lv))] := hl
  refine lv_iload_n hx hb d_Ba_sumOf_0 rfl (lv_at hl 1 rfl) ?_
  refine lv_if_lt (tgt := 19) hx hb d_Ba_sumOf_1 (by decide) (fun hc => absurd hc (nI_pos (by omega))) (fun _ => ?_)
  refine lv_iload_n hx hb d_Ba_sumOf_4 rfl (lv_at hl 1 rfl) ?_
  refine lv_aload_n hx hb d_Ba_sumOf_5 rfl (lv_at hl 0 rfl) ?_
  refine va_get (v := .ref (h 40)) (C := R_Ba) (T := T_Ba) (N := 6) hx hb hg in_Ba hown hK hP 24 rfl rfl 1 (by decide) (hg _ m_208) (fun _ h9 => h9) rfl d_Ba_sumOf_6 ?_
  refine va_alen (v := 100) hx hb hK hP 36 4 rfl rfl rfl d_Ba_sumOf_9 ?_
  refine lv_icmp_ge (tgt := 19) hx hb d_Ba_sumOf_10 (by decide) (fun hc => absurd ((nI_leI (a := 100) (by omega) (by omega)).mp hc) (by omega)) (fun _ => ?_)
  refine lv_iload_n hx hb d_Ba_sumOf_13 rfl (lv_at hl 2 rfl) ?_
  refine lv_bipush (v := 12) hx hb d_Ba_sumOf_14 (by decide) ?_
  refine lv_icmp_le (tgt := 24) hx hb d_Ba_sumOf_16 (by decide) (fun _ => ?_) (fun hc => absurd ((nI_leI (b := 12) (by omega) (by omega)).mpr (by omega)) hc)
  refine lv_aload_n hx hb d_Ba_sumOf_24 rfl (lv_at hl 0 rfl) ?_
  refine va_get (v := .ref (h 40)) (C := R_Ba) (T := T_Ba) (N := 6) hx hb hg in_Ba hown hK hP 24 rfl rfl 1 (by decide) (hg _ m_208) (fun _ h9 => h9) rfl d_Ba_sumOf_25 ?_
  refine lv_iload_n hx hb d_Ba_sumOf_28 rfl (lv_at hl 1 rfl) ?_
  refine va_aldq hx hb hK hP 36 4 rfl rfl (show vp_in (nI t) 100 from by rw [in_iff, i_nI (by omega)]; omega) d_Ba_sumOf_29 ?_
  rw [hct]
  cases hAt : A0 t with
  | some a =>
    have hX : dom A0 t = true := by show (A0 t).isSome = true; rw [hAt]; rfl
    have e0 : nd σ (d + 1) (dom A0) t = dom A0 := by rw [nd_s, if_pos hX]
    rw [e0] at hk ⊢
    refine lv_astore_n (x := a) (lv' := [(3, .ref a), (0, .ref (h 24)), (1, .int (nI t)), (2, .int (nI lv))]) hx hb d_Ba_sumOf_30 rfl hl (by decide) rfl (fun ls hl => ?_)
    refine lv_aload_n hx hb d_Ba_sumOf_31 rfl (lv_at hl 0 rfl) ?_
    refine lv_ifnonnull (tgt := 49) hx hb d_Ba_sumOf_32 (by decide) ?_
    refine lv_aload_n hx hb d_Ba_sumOf_49 rfl (lv_at hl 0 rfl) ?_
    refine W.widen (k := 4 * k) (n := 308 * k) (by omega) (by omega) ?_
    exact W.aret hx hb hr (Or.inl ⟨_, rfl⟩) (Or.inr ⟨_, rfl⟩) (fun t1 ht1 hW => ⟨⟨(A0, L), a, rfl, ⟨⟨[], (List.append_nil L).symm⟩, hBI, fun _ _ h9 => h9, rfl⟩, hAt, by rw [ht1]; exact hP, hD⟩, hS.F ht1⟩) hS.2.2 d_Ba_sumOf_50
  | none =>
    have hX : ¬ dom A0 t = true := by show ¬ (A0 t).isSome = true; rw [hAt]; decide
    have hkn := cn_new C hG hX
    have hmo : cn (dom A0) 100 ≤ cn (ndp σ d (dom A0) t) 100 := cn_mono (fun j hj => by
      have h1 := nd_in (σ := σ) (d + 1) (dom A0) t j hj
      rw [nd_s, if_neg hX] at h1
      unfold up at h1
      by_cases z : j = t
      · rw [z] at hj; exact absurd hj hX
      · rw [if_neg z] at h1; exact h1) 100
    refine lv_astore_nN (lv' := [(3, .null), (0, .ref (h 24)), (1, .int (nI t)), (2, .int (nI lv))]) hx hb d_Ba_sumOf_30 rfl hl (by decide) rfl (fun ls hl => ?_)
    refine lv_aload_nN hx hb d_Ba_sumOf_31 rfl (lv_at hl 0 rfl) ?_
    refine lv_ifnonnullN hx hb d_Ba_sumOf_32 ?_
    refine lv_aload_n hx hb d_Ba_sumOf_35 rfl (lv_at hl 1 rfl) ?_
    refine lv_iload_n hx hb d_Ba_sumOf_36 rfl (lv_at hl 2 rfl) ?_
    refine lv_iload_n hx hb d_Ba_sumOf_37 rfl (lv_at hl 3 rfl) ?_
    refine va_callr (va_runV (As := [.int (nI t), .int (nI lv)]) (rest := []) ⟨hx, hb, hml, hown, hg⟩ (c_Ba_workOut l D ty h cA px sa σ G Sp hac C d hR A0 L s.heap.size t lv k hG hlv hBI hL3 (by omega)) ⟨callB_of 2 hg (gw_C m_1114) rfl rfl rfl (hg _ m_8) (hg _ m_1111) hd_Ba_workOut ⟨(by simp only [headSpec, rm_Ba_workOut, rs_Ba_sumOf]; omega), (by simp only [headSpec, rm_Ba_workOut, rs_Ba_sumOf]; omega)⟩, hg _ m_1113, hg _ ms_43⟩ (zz_preVW hM hS hA hN hK hP hD 24 rfl rfl) rfl rfl hl.1 rfl (lv_room (Nat.le_of_ble_eq_true rfl)) d_Ba_sumOf_38 ⟨by show _ ≤ 4 * k; omega, by show _ ≤ 308 * k; omega⟩) hS (fun q _ h => zz_free hD hS hA q h) (zz_free hD hS hA) (fun u1 a t9 H locs ht9 hvm hp hB hz hk9 hS9 => ?_)
    obtain ⟨A1, L1⟩ := u1
    obtain ⟨⟨N1, eL1⟩, hBI1, hex1, hdm1⟩ := hp
    obtain ⟨⟨i, x, hi3, hix, hxa, hSx⟩, hP1, hD1⟩ := hB
    rw [ht9] at hP1
    have hix : L1[i]? = some x := hix
    have hBI1 : BI Sp A1 L1 := hBI1
    have hdm1 : dom A1 = ndp σ d (dom A0) t := hdm1
    have hD1 : va_D A (WB ty h σ cA A1 px L1) := hD1.weaken (fun _ _ _ h9 => zz_free hD hS hA _ h9)
    clear hP hD hS hk9 hz
    have hP := hP1
    have hD := hD1
    have hS := hS9
    subst hxa
    obtain ⟨R, hRp⟩ := zp_on hix
    have pR := hRp x
    rw [zp_set hix] at pR
    obtain ⟨qk, hqk⟩ := List.mem_iff_getElem?.mp ((WB_on (ty := ty) (h := h) (σ := σ) (cA := cA) (A := A1) (px := px) pR).mem_iff.mpr List.mem_cons_self)
    refine lv_astore_n (lv' := [(3, .ref (x.1 0)), (0, .ref (h 24)), (1, .int (nI t)), (2, .int (nI lv))]) hx hb d_Ba_sumOf_41 rfl hl (by decide) rfl (fun ls hl => ?_)
    refine lv_aload_n hx hb d_Ba_sumOf_42 rfl (lv_at hl 1 rfl) ?_
    refine va_get (v := .ref (h 40)) (C := R_Ba) (T := T_Ba) (N := 6) hx hb hg in_Ba hown hK hP 24 rfl rfl 1 (by decide) (hg _ m_208) (fun _ h9 => h9) rfl d_Ba_sumOf_43 ?_
    refine lv_iload_n hx hb d_Ba_sumOf_46 rfl (lv_at hl 2 rfl) ?_
    refine lv_aload_n hx hb d_Ba_sumOf_47 rfl (lv_at hl 0 rfl) ?_
    refine va_astq hx hb hK hP hD hS 36 4 qk 8 rfl rfl hqk rfl (show vp_in (nI t) 100 from by rw [in_iff, i_nI (by omega)]; omega) d_Ba_sumOf_48 (fun H1 locs1 hP hD hS => ?_)
    rw [hct] at hP hD
    have hP : va_P D classes (WB ty h σ cA (va_up A1 t (some (x.1 0))) px L1) H1 := hP
    have hD : va_D A (WB ty h σ cA (va_up A1 t (some (x.1 0))) px L1) := hD
    have hup : ∀ j, va_up A1 t (some (x.1 0)) j = if j = t then some (x.1 0) else A1 j := fun j => rfl
    have hBI2 : BI Sp (va_up A1 t (some (x.1 0))) L1 := fun j v e => by
      rw [hup] at e
      by_cases z : j = t
      · rw [if_pos z] at e; cases e; rw [z]; exact ⟨i, x, hi3, hix, rfl, hSx⟩
      · rw [if_neg z] at e; exact hBI1 j v e
    have hdm2 : dom (va_up A1 t (some (x.1 0))) = nd σ (d + 1) (dom A0) t := by
      rw [nd_s, if_neg hX, ← hdm1]
      funext j
      show (va_up A1 t (some (x.1 0)) j).isSome = up (dom A1) t j
      rw [hup]; unfold up
      by_cases z : j = t
      · rw [if_pos z, if_pos z]; rfl
      · rw [if_neg z, if_neg z]
    have hex2 : ∀ j v, A0 j = some v → va_up A1 t (some (x.1 0)) j = some v := fun j v e => by
      rw [hup]
      by_cases z : j = t
      · rw [z, hAt] at e; cases e
      · rw [if_neg z]; exact hex1 j v e
    refine lv_aload_n hx hb d_Ba_sumOf_49 rfl (lv_at hl 0 rfl) ?_
    refine W.widen (k := 4 * k) (n := 308 * k) (by omega) (by omega) ?_
    exact W.aret hx hb hr (Or.inl ⟨_, rfl⟩) (Or.inr ⟨_, rfl⟩) (fun t1 ht1 hW => ⟨⟨(va_up A1 t (some (x.1 0)), L1), x.1 0, rfl, ⟨⟨N1, eL1⟩, hBI2, hex2, hdm2⟩, (by show va_up A1 t (some (x.1 0)) t = _; rw [hup, if_pos rfl]), by rw [ht1]; exact hP, hD⟩, hS.F ht1⟩) hS.2.2 d_Ba_sumOf_50
theorem C_Ba_sumOf (l : Launch) (D : va_G) (ty : Nat → ClassId) (h : Nat → Nat) (cA : ClassId) (px : va_W) (sa : Nat → Nat) (σ : St) (G : Nat → Nat → Prop) (Sp : Nat → St → Prop) (hac : ∀ x, k_Te_kindOf x σ ∧ k_Te_firstOf x σ ∧ k_Te_secondOf x σ ∧ k_Te_topOf x σ ∧ k_Te_bottomOf x σ) (C : Cl σ G Sp) : ∀ d, CS l D ty h cA px sa σ G Sp d := by
  intro d
  induction d with
  | zero => exact c_Ba_sumOf l D ty h cA px sa σ G Sp hac C 0 (fun d' z => by omega)
  | succ d ih => exact c_Ba_sumOf l D ty h cA px sa σ G Sp hac C (d + 1) (fun d' z => (Nat.succ.inj z) ▸ ih)
