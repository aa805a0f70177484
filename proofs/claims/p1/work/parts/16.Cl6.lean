-- ClauseLedger.linear(IIIIII)I
abbrev b_CL_linear : ByteArray := prog_1_method_15_code
def y_CL_linear : MethodName := ⟨"ClauseLedger", "linear", "(IIIIII)I"⟩
theorem hd_CL_linear : y_CL_linear.cls ≠ "java/lang/invoke/MethodHandle" ∧ y_CL_linear.cls ≠ "java/lang/invoke/VarHandle" ∧ (parseMethodDescriptor y_CL_linear.desc).map (fun d => d.parameters.length) = some 6 := by decide +kernel
theorem d_CL_linear_0 : decode b_CL_linear 0 = .ok (.aload_n 0, 1) := by decide +kernel
theorem d_CL_linear_1 : decode b_CL_linear 1 = .ok (.invokevirtual 102, 3) := by decide +kernel
theorem d_CL_linear_4 : decode b_CL_linear 4 = .ok (.ifCond .eq 5, 3) := by decide +kernel
theorem d_CL_linear_7 : decode b_CL_linear 7 = .ok (.iconst (-1), 1) := by decide +kernel
theorem d_CL_linear_8 : decode b_CL_linear 8 = .ok (.ireturn, 1) := by decide +kernel
theorem d_CL_linear_9 : decode b_CL_linear 9 = .ok (.aload_n 0, 1) := by decide +kernel
theorem d_CL_linear_10 : decode b_CL_linear 10 = .ok (.getfield 19, 3) := by decide +kernel
theorem d_CL_linear_13 : decode b_CL_linear 13 = .ok (.iload_n 1, 1) := by decide +kernel
theorem d_CL_linear_14 : decode b_CL_linear 14 = .ok (.invokevirtual 130, 3) := by decide +kernel
theorem d_CL_linear_17 : decode b_CL_linear 17 = .ok (.ifCond .eq 19, 3) := by decide +kernel
theorem d_CL_linear_20 : decode b_CL_linear 20 = .ok (.aload_n 0, 1) := by decide +kernel
theorem d_CL_linear_21 : decode b_CL_linear 21 = .ok (.iload_n 2, 1) := by decide +kernel
theorem d_CL_linear_22 : decode b_CL_linear 22 = .ok (.invokevirtual 191, 3) := by decide +kernel
theorem d_CL_linear_25 : decode b_CL_linear 25 = .ok (.ifCond .eq 11, 3) := by decide +kernel
theorem d_CL_linear_28 : decode b_CL_linear 28 = .ok (.aload_n 0, 1) := by decide +kernel
theorem d_CL_linear_29 : decode b_CL_linear 29 = .ok (.iload_n 3, 1) := by decide +kernel
theorem d_CL_linear_30 : decode b_CL_linear 30 = .ok (.invokevirtual 191, 3) := by decide +kernel
theorem d_CL_linear_33 : decode b_CL_linear 33 = .ok (.ifCond .ne 8, 3) := by decide +kernel
theorem d_CL_linear_36 : decode b_CL_linear 36 = .ok (.aload_n 0, 1) := by decide +kernel
theorem d_CL_linear_37 : decode b_CL_linear 37 = .ok (.invokevirtual 134, 3) := by decide +kernel
theorem d_CL_linear_40 : decode b_CL_linear 40 = .ok (.ireturn, 1) := by decide +kernel
theorem d_CL_linear_41 : decode b_CL_linear 41 = .ok (.iload_n 2, 1) := by decide +kernel
theorem d_CL_linear_42 : decode b_CL_linear 42 = .ok (.iconst (-1), 1) := by decide +kernel
theorem d_CL_linear_43 : decode b_CL_linear 43 = .ok (.if_icmp .ne 8, 3) := by decide +kernel
theorem d_CL_linear_46 : decode b_CL_linear 46 = .ok (.iload_n 3, 1) := by decide +kernel
theorem d_CL_linear_47 : decode b_CL_linear 47 = .ok (.iconst (-1), 1) := by decide +kernel
theorem d_CL_linear_48 : decode b_CL_linear 48 = .ok (.if_icmp .ne 42, 3) := by decide +kernel
theorem d_CL_linear_51 : decode b_CL_linear 51 = .ok (.aload_n 0, 1) := by decide +kernel
theorem d_CL_linear_52 : decode b_CL_linear 52 = .ok (.getfield 58, 3) := by decide +kernel
theorem d_CL_linear_55 : decode b_CL_linear 55 = .ok (.iload_n 1, 1) := by decide +kernel
theorem d_CL_linear_56 : decode b_CL_linear 56 = .ok (.iload 4, 2) := by decide +kernel
theorem d_CL_linear_58 : decode b_CL_linear 58 = .ok (.invokevirtual 194, 3) := by decide +kernel
theorem d_CL_linear_61 : decode b_CL_linear 61 = .ok (.ifCond .eq 29, 3) := by decide +kernel
theorem d_CL_linear_64 : decode b_CL_linear 64 = .ok (.aload_n 0, 1) := by decide +kernel
theorem d_CL_linear_65 : decode b_CL_linear 65 = .ok (.getfield 58, 3) := by decide +kernel
theorem d_CL_linear_68 : decode b_CL_linear 68 = .ok (.iload_n 2, 1) := by decide +kernel
theorem d_CL_linear_69 : decode b_CL_linear 69 = .ok (.iload 5, 2) := by decide +kernel
theorem d_CL_linear_71 : decode b_CL_linear 71 = .ok (.invokevirtual 194, 3) := by decide +kernel
theorem d_CL_linear_74 : decode b_CL_linear 74 = .ok (.ifCond .eq 16, 3) := by decide +kernel
theorem d_CL_linear_77 : decode b_CL_linear 77 = .ok (.aload_n 0, 1) := by decide +kernel
theorem d_CL_linear_78 : decode b_CL_linear 78 = .ok (.getfield 58, 3) := by decide +kernel
theorem d_CL_linear_81 : decode b_CL_linear 81 = .ok (.iload_n 3, 1) := by decide +kernel
theorem d_CL_linear_82 : decode b_CL_linear 82 = .ok (.iload 6, 2) := by decide +kernel
theorem d_CL_linear_84 : decode b_CL_linear 84 = .ok (.invokevirtual 194, 3) := by decide +kernel
theorem d_CL_linear_87 : decode b_CL_linear 87 = .ok (.ifCond .ne 8, 3) := by decide +kernel
theorem d_CL_linear_90 : decode b_CL_linear 90 = .ok (.aload_n 0, 1) := by decide +kernel
theorem d_CL_linear_91 : decode b_CL_linear 91 = .ok (.invokevirtual 112, 3) := by decide +kernel
theorem d_CL_linear_94 : decode b_CL_linear 94 = .ok (.ireturn, 1) := by decide +kernel
theorem d_CL_linear_95 : decode b_CL_linear 95 = .ok (.aload_n 0, 1) := by decide +kernel
theorem d_CL_linear_96 : decode b_CL_linear 96 = .ok (.getfield 58, 3) := by decide +kernel
theorem d_CL_linear_99 : decode b_CL_linear 99 = .ok (.invokevirtual 197, 3) := by decide +kernel
theorem d_CL_linear_102 : decode b_CL_linear 102 = .ok (.aload_n 0, 1) := by decide +kernel
theorem d_CL_linear_103 : decode b_CL_linear 103 = .ok (.getfield 58, 3) := by decide +kernel
theorem d_CL_linear_106 : decode b_CL_linear 106 = .ok (.iload_n 1, 1) := by decide +kernel
theorem d_CL_linear_107 : decode b_CL_linear 107 = .ok (.iload 4, 2) := by decide +kernel
theorem d_CL_linear_109 : decode b_CL_linear 109 = .ok (.invokevirtual 200, 3) := by decide +kernel
theorem d_CL_linear_112 : decode b_CL_linear 112 = .ok (.aload_n 0, 1) := by decide +kernel
theorem d_CL_linear_113 : decode b_CL_linear 113 = .ok (.getfield 58, 3) := by decide +kernel
theorem d_CL_linear_116 : decode b_CL_linear 116 = .ok (.iload_n 2, 1) := by decide +kernel
theorem d_CL_linear_117 : decode b_CL_linear 117 = .ok (.iload 5, 2) := by decide +kernel
theorem d_CL_linear_119 : decode b_CL_linear 119 = .ok (.invokevirtual 200, 3) := by decide +kernel
theorem d_CL_linear_122 : decode b_CL_linear 122 = .ok (.aload_n 0, 1) := by decide +kernel
theorem d_CL_linear_123 : decode b_CL_linear 123 = .ok (.getfield 58, 3) := by decide +kernel
theorem d_CL_linear_126 : decode b_CL_linear 126 = .ok (.iload_n 3, 1) := by decide +kernel
theorem d_CL_linear_127 : decode b_CL_linear 127 = .ok (.iload 6, 2) := by decide +kernel
theorem d_CL_linear_129 : decode b_CL_linear 129 = .ok (.invokevirtual 200, 3) := by decide +kernel
theorem d_CL_linear_132 : decode b_CL_linear 132 = .ok (.aload_n 0, 1) := by decide +kernel
theorem d_CL_linear_133 : decode b_CL_linear 133 = .ok (.getfield 58, 3) := by decide +kernel
theorem d_CL_linear_136 : decode b_CL_linear 136 = .ok (.invokevirtual 203, 3) := by decide +kernel
theorem d_CL_linear_139 : decode b_CL_linear 139 = .ok (.ifCond .eq 8, 3) := by decide +kernel
theorem d_CL_linear_142 : decode b_CL_linear 142 = .ok (.aload_n 0, 1) := by decide +kernel
theorem d_CL_linear_143 : decode b_CL_linear 143 = .ok (.invokevirtual 118, 3) := by decide +kernel
theorem d_CL_linear_146 : decode b_CL_linear 146 = .ok (.ireturn, 1) := by decide +kernel
theorem d_CL_linear_147 : decode b_CL_linear 147 = .ok (.aload_n 0, 1) := by decide +kernel
theorem d_CL_linear_148 : decode b_CL_linear 148 = .ok (.getfield 58, 3) := by decide +kernel
theorem d_CL_linear_151 : decode b_CL_linear 151 = .ok (.invokevirtual 206, 3) := by decide +kernel
theorem d_CL_linear_154 : decode b_CL_linear 154 = .ok (.ifCond .ne 8, 3) := by decide +kernel
theorem d_CL_linear_157 : decode b_CL_linear 157 = .ok (.aload_n 0, 1) := by decide +kernel
theorem d_CL_linear_158 : decode b_CL_linear 158 = .ok (.invokevirtual 112, 3) := by decide +kernel
theorem d_CL_linear_161 : decode b_CL_linear 161 = .ok (.ireturn, 1) := by decide +kernel
theorem d_CL_linear_162 : decode b_CL_linear 162 = .ok (.aload_n 0, 1) := by decide +kernel
theorem d_CL_linear_163 : decode b_CL_linear 163 = .ok (.getfield 65, 3) := by decide +kernel
theorem d_CL_linear_166 : decode b_CL_linear 166 = .ok (.invokevirtual 140, 3) := by decide +kernel
theorem d_CL_linear_169 : decode b_CL_linear 169 = .ok (.aload_n 0, 1) := by decide +kernel
theorem d_CL_linear_170 : decode b_CL_linear 170 = .ok (.getfield 65, 3) := by decide +kernel
theorem d_CL_linear_173 : decode b_CL_linear 173 = .ok (.iload_n 1, 1) := by decide +kernel
theorem d_CL_linear_174 : decode b_CL_linear 174 = .ok (.invokevirtual 141, 3) := by decide +kernel
theorem d_CL_linear_177 : decode b_CL_linear 177 = .ok (.aload_n 0, 1) := by decide +kernel
theorem d_CL_linear_178 : decode b_CL_linear 178 = .ok (.getfield 65, 3) := by decide +kernel
theorem d_CL_linear_181 : decode b_CL_linear 181 = .ok (.iload_n 2, 1) := by decide +kernel
theorem d_CL_linear_182 : decode b_CL_linear 182 = .ok (.invokevirtual 141, 3) := by decide +kernel
theorem d_CL_linear_185 : decode b_CL_linear 185 = .ok (.aload_n 0, 1) := by decide +kernel
theorem d_CL_linear_186 : decode b_CL_linear 186 = .ok (.getfield 65, 3) := by decide +kernel
theorem d_CL_linear_189 : decode b_CL_linear 189 = .ok (.iload_n 3, 1) := by decide +kernel
theorem d_CL_linear_190 : decode b_CL_linear 190 = .ok (.invokevirtual 141, 3) := by decide +kernel
theorem d_CL_linear_193 : decode b_CL_linear 193 = .ok (.aload_n 0, 1) := by decide +kernel
theorem d_CL_linear_194 : decode b_CL_linear 194 = .ok (.aload_n 0, 1) := by decide +kernel
theorem d_CL_linear_195 : decode b_CL_linear 195 = .ok (.getfield 72, 3) := by decide +kernel
theorem d_CL_linear_198 : decode b_CL_linear 198 = .ok (.invokevirtual 145, 3) := by decide +kernel
theorem d_CL_linear_201 : decode b_CL_linear 201 = .ok (.iconst 0, 1) := by decide +kernel
theorem d_CL_linear_202 : decode b_CL_linear 202 = .ok (.invokevirtual 148, 3) := by decide +kernel
theorem d_CL_linear_205 : decode b_CL_linear 205 = .ok (.ireturn, 1) := by decide +kernel
def f_CL_linear_40 (s0 : Int32) (σ : St) : XR := (.inl s0, σ)
def k_CL_linear_40 (s0 : Int32) (σ : St) : Prop := True
def f_CL_linear_36 (σ : St) : XR := xb (f_CL_throwMissing σ) (fun x u => f_CL_linear_40 x u)
def k_CL_linear_36 (σ : St) : Prop := (k_CL_throwMissing σ) ∧ (∀ x, (f_CL_throwMissing σ).1 = .inl x → (k_CL_linear_40 x ((f_CL_throwMissing σ).2)))
def f_CL_linear_94 (s0 : Int32) (σ : St) : XR := (.inl s0, σ)
def k_CL_linear_94 (s0 : Int32) (σ : St) : Prop := True
def f_CL_linear_90 (σ : St) : XR := xb (f_CL_throwWrong σ) (fun x u => f_CL_linear_94 x u)
def k_CL_linear_90 (σ : St) : Prop := (k_CL_throwWrong σ) ∧ (∀ x, (f_CL_throwWrong σ).1 = .inl x → (k_CL_linear_94 x ((f_CL_throwWrong σ).2)))
def f_CL_linear_51 (x1 : Int32) (x2 : Int32) (x3 : Int32) (x4 : Int32) (x5 : Int32) (x6 : Int32) (σ : St) : XR := if (f_Ba_takes x1 x4 σ) = 0 then (f_CL_linear_90 σ) else (if (f_Ba_takes x2 x5 σ) = 0 then (f_CL_linear_90 σ) else (if (f_Ba_takes x3 x6 σ) = 0 then (f_CL_linear_90 σ) else (.inl 0, σ)))
def k_CL_linear_51 (x1 : Int32) (x2 : Int32) (x3 : Int32) (x4 : Int32) (x5 : Int32) (x6 : Int32) (σ : St) : Prop := (k_Ba_takes x1 x4 σ) ∧ (((f_Ba_takes x1 x4 σ) = 0 → (k_CL_linear_90 σ)) ∧ (¬ (f_Ba_takes x1 x4 σ) = 0 → ((k_Ba_takes x2 x5 σ) ∧ (((f_Ba_takes x2 x5 σ) = 0 → (k_CL_linear_90 σ)) ∧ (¬ (f_Ba_takes x2 x5 σ) = 0 → ((k_Ba_takes x3 x6 σ) ∧ (((f_Ba_takes x3 x6 σ) = 0 → (k_CL_linear_90 σ)) ∧ (¬ (f_Ba_takes x3 x6 σ) = 0 → (False ∧ True)))))))))
def f_CL_linear (a1 : Int32) (a2 : Int32) (a3 : Int32) (a4 : Int32) (a5 : Int32) (a6 : Int32) (σ : St) : XR := if (f_CL_isShut σ) = 0 then (if (f_Te_has a1 σ) = 0 then (f_CL_linear_36 σ) else (if (f_CL_isTermOrNone a2 σ) = 0 then (f_CL_linear_36 σ) else (if (f_CL_isTermOrNone a3 σ) = 0 then (f_CL_linear_36 σ) else (if a2 = (-1) then (if a3 = (-1) then (f_CL_linear_51 a1 a2 a3 a4 a5 a6 σ) else (f_CL_linear_90 σ)) else (f_CL_linear_51 a1 a2 a3 a4 a5 a6 σ))))) else (.inl (-1), σ)
def k_CL_linear (a1 : Int32) (a2 : Int32) (a3 : Int32) (a4 : Int32) (a5 : Int32) (a6 : Int32) (σ : St) : Prop := (k_CL_isShut σ) ∧ (((f_CL_isShut σ) = 0 → ((k_Te_has a1 σ) ∧ (((f_Te_has a1 σ) = 0 → (k_CL_linear_36 σ)) ∧ (¬ (f_Te_has a1 σ) = 0 → ((k_CL_isTermOrNone a2 σ) ∧ (((f_CL_isTermOrNone a2 σ) = 0 → (k_CL_linear_36 σ)) ∧ (¬ (f_CL_isTermOrNone a2 σ) = 0 → ((k_CL_isTermOrNone a3 σ) ∧ (((f_CL_isTermOrNone a3 σ) = 0 → (k_CL_linear_36 σ)) ∧ (¬ (f_CL_isTermOrNone a3 σ) = 0 → ((a2 = (-1) → ((a3 = (-1) → (k_CL_linear_51 a1 a2 a3 a4 a5 a6 σ)) ∧ (¬ a3 = (-1) → (k_CL_linear_90 σ)))) ∧ (¬ a2 = (-1) → (k_CL_linear_51 a1 a2 a3 a4 a5 a6 σ))))))))))))) ∧ (¬ (f_CL_isShut σ) = 0 → True))
abbrev w_CL_linear : List Cond := Cond.code y_CL_linear b_CL_linear 7 (some .int) :: gw
abbrev rm_CL_linear : Room := { frames := 8, cells := 1, slots := 6, locals := 142 }
set_option maxHeartbeats 4000000 in
set_option maxRecDepth 100000 in
theorem c_CL_linear (l : Launch) (hlt : l.stackTraces = false) (D : va_G) (ty : Nat → ClassId) (h : Nat → Nat) (px : va_W) (sa : Nat → Nat) (σ : St) (sz : Nat) (a1 : Int32) (a2 : Int32) (a3 : Int32) (a4 : Int32) (a5 : Int32) (a6 : Int32) (hk : k_CL_linear a1 a2 a3 a4 a5 a6 σ) : xMet l y_CL_linear w_CL_linear rm_CL_linear (va_Pc [.ref (h 0), .int a1, .int a2, .int a3, .int a4, .int a5, .int a6] (fun U => U.heap.size = sz ∧ va_P D classes (Wc ty h σ px) U.heap ∧ va_K D classes (Ta ty) U ∧ NW U ∧ XK sa (va_A (Wc ty h σ px) sz) U U.heap ∧ MK sa (va_A (Wc ty h σ px) sz) U U.heap ∧ va_D (fun _ => True) (Wc ty h σ px))) (Rx D classes (fun u => Wc ty h u px) (va_A (Wc ty h σ px) sz) (f_CL_linear a1 a2 a3 a4 a5 a6 σ)) 1 6 (va_A (Wc ty h σ px) sz) := by
  refine xMet.ofW (cc := b_CL_linear) (maxL := 7) (ret := (some .int)) (by decide) rfl ?_
  intro p e s m args below meth c s₁ B hml htab hv
  obtain ⟨ha, hsz, hP, hK, hN, hX, hM, hD0⟩ := hv
  have hx := B.exec
  have hb := B.bytes
  have hr := B.returns
  have hg : ∀ w ∈ gw, w.before args s = true := fun w h9 => atoms_spec (ws := w_CL_linear) B.pre w (List.mem_cons_of_mem _ h9)
  have hown : s.vm.findClass "ClauseLedger" = some m.cls := findClass_of_methodNamed B.named
  have hlocks := B.notSynchronized
  subst hsz
  have hD := hD0.self (sz := s.heap.size)
  generalize hAe : va_A (Wc ty h σ px) s.heap.size = A at hD hM hX ⊢
  have hA : ∀ q : Nat, s.heap.size ≤ q → A q := fun q h9 => by rw [← hAe]; exact Or.inr h9
  have hS : va_S A s.heap s.heap [] := va_S.rf
  have he : entryFrame m args 7 = entryFrame m ([.ref (h 0), .int a1, .int a2, .int a3, .int a4, .int a5, .int a6] : List Value).toArray 7 := by rw [ha]
  rw [he, lg_entry_eq]
  have hl := lv_entry ([.ref (h 0), .int a1, .int a2, .int a3, .int a4, .int a5, .int a6]) (n := 7) (Nat.le_of_ble_eq_true rfl)
  generalize (lg_sl ([.ref (h 0), .int a1, .int a2, .int a3, .int a4, .int a5, .int a6]) ++ List.replicate (7 - (lg_sl ([.ref (h 0), .int a1, .int a2, .int a3, .int a4, .int a5, .int a6])).length) Slot.unset).toArray = ls at hl ⊢
  have hl : lv_has ls 7 [(0, .ref (h 0)), (1, .int a1), (2, .int a2), (3, .int a3), (4, .int a4), (5, .int a5), (6, .int a6)] := hl
  generalize hv : f_CL_linear a1 a2 a3 a4 a5 a6 σ = v
  replace hv := hv.symm
  have B40 : ∀ (H : Heap) (locs : List Loc) (ls : Array Slot) (s0 : Int32) (σ : St), v = f_CL_linear_40 s0 σ → k_CL_linear_40 s0 σ → lv_has ls 7 [] → va_P D classes (Wc ty h σ px) H → va_D A (Wc ty h σ px) → va_S A s.heap H locs → W p l e (headSpec w_CL_linear rm_CL_linear).room s m args below meth c H locs 1 6 (xMQ below (Rx D classes (fun u => Wc ty h u px) A v) args s 1 6 A) (F0 m 40 ls [.int s0]) := by
    intro H locs ls s0 σ hv hk hl hP hD hS
    unfold f_CL_linear_40 at hv
    unfold k_CL_linear_40 at hk
    exact x_ret (fun o t hq => by obtain ⟨rfl, ht⟩ := hq; exact ⟨hS.F ht, by rw [ht, hv]; exact hP, _, rfl, by rw [hv]⟩) (Nat.le_of_ble_eq_true rfl) (Nat.le_of_ble_eq_true rfl) (W.iret (Qc := fun _ _ o t => o = .returned (some (.int s0)) ∧ t.heap = H) hx hb hr (fun t ht hW => ⟨rfl, ht⟩) hS.2.2 d_CL_linear_40)
  have B36 : ∀ (H : Heap) (locs : List Loc) (ls : Array Slot) (σ : St), v = f_CL_linear_36 σ → k_CL_linear_36 σ → lv_has ls 7 [(0, .ref (h 0))] → va_P D classes (Wc ty h σ px) H → va_D A (Wc ty h σ px) → va_S A s.heap H locs → W p l e (headSpec w_CL_linear rm_CL_linear).room s m args below meth c H locs 0 0 (xMQ below (Rx D classes (fun u => Wc ty h u px) A v) args s 1 6 A) (F0 m 36 ls []) := by
    intro H locs ls σ hv hk hl hP hD hS
    unfold f_CL_linear_36 at hv
    unfold k_CL_linear_36 at hk
    refine lv_aload_n hx hb d_CL_linear_36 rfl (lv_at hl 0 rfl) ?_
    obtain ⟨hk0, hk⟩ := hk
    refine x_callV (As := []) (rest := []) ⟨hx, hb, hml, hown, hg⟩ (c_CL_throwMissing l hlt D ty h px sa σ H.size  hk0) ⟨callB_of 0 hg (gw_C m_914) rfl rfl rfl (hg _ m_1) (hg _ m_911) hd_CL_throwMissing ⟨Nat.le_of_ble_eq_true rfl, Nat.le_of_ble_eq_true rfl⟩, hg _ m_913, hg _ ms_29⟩ (zz_preX hM hN hX hS hA hK hP hD 0 rfl rfl) rfl hl.1 rfl (Nat.le_of_ble_eq_true rfl) d_CL_linear_37 ⟨Nat.le_of_ble_eq_true rfl, Nat.le_of_ble_eq_true rfl⟩ (fun r9 st9 t9 L9 h09 hal9 hR9 hL9 => ?_) (fun q9 st9 t9 L9 h09 h19 hal9 hR9 hL9 => ?_)
    · obtain ⟨hF9, hP9, x, rfl, hz9⟩ := hR9
      have hv := hv.trans (xb_l hz9)
      have hk := hk _ hz9
      have hS := zz_xS hS h09 hF9 (zz_free hD hS hA) hL9
      have hD : va_D A (Wc ty h (f_CL_throwMissing σ).2 px) := zz_D hD rfl
      exact B40 _ _ _ x (f_CL_throwMissing σ).2 hv hk (lv_sub hl [] rfl) hP9 hD hS
    · obtain ⟨hF9, hP9, E9, ce9, hz9, hq9, hn9, hc9⟩ := hR9
      have hv := hv.trans (xb_r hz9)
      have hS := zz_xS hS h09 hF9 (zz_free hD hS hA) hL9
      exact x_out htab hlocks (fun t ht hal => ⟨hS.F ht, by rw [ht, hv]; exact hP9, E9, ce9, by rw [hv], by rw [ht]; exact hq9, hn9, by rw [h19.findClass]; exact hc9⟩) hS.2.2 (Nat.le_of_ble_eq_true rfl) (Nat.le_of_ble_eq_true rfl)
  have B94 : ∀ (H : Heap) (locs : List Loc) (ls : Array Slot) (s0 : Int32) (σ : St), v = f_CL_linear_94 s0 σ → k_CL_linear_94 s0 σ → lv_has ls 7 [] → va_P D classes (Wc ty h σ px) H → va_D A (Wc ty h σ px) → va_S A s.heap H locs → W p l e (headSpec w_CL_linear rm_CL_linear).room s m args below meth c H locs 1 6 (xMQ below (Rx D classes (fun u => Wc ty h u px) A v) args s 1 6 A) (F0 m 94 ls [.int s0]) := by
    intro H locs ls s0 σ hv hk hl hP hD hS
    unfold f_CL_linear_94 at hv
    unfold k_CL_linear_94 at hk
    exact x_ret (fun o t hq => by obtain ⟨rfl, ht⟩ := hq; exact ⟨hS.F ht, by rw [ht, hv]; exact hP, _, rfl, by rw [hv]⟩) (Nat.le_of_ble_eq_true rfl) (Nat.le_of_ble_eq_true rfl) (W.iret (Qc := fun _ _ o t => o = .returned (some (.int s0)) ∧ t.heap = H) hx hb hr (fun t ht hW => ⟨rfl, ht⟩) hS.2.2 d_CL_linear_94)
  have B90 : ∀ (H : Heap) (locs : List Loc) (ls : Array Slot) (σ : St), v = f_CL_linear_90 σ → k_CL_linear_90 σ → lv_has ls 7 [(0, .ref (h 0))] → va_P D classes (Wc ty h σ px) H → va_D A (Wc ty h σ px) → va_S A s.heap H locs → W p l e (headSpec w_CL_linear rm_CL_linear).room s m args below meth c H locs 0 0 (xMQ below (Rx D classes (fun u => Wc ty h u px) A v) args s 1 6 A) (F0 m 90 ls []) := by
    intro H locs ls σ hv hk hl hP hD hS
    unfold f_CL_linear_90 at hv
    unfold k_CL_linear_90 at hk
    refine lv_aload_n hx hb d_CL_linear_90 rfl (lv_at hl 0 rfl) ?_
    obtain ⟨hk0, hk⟩ := hk
    refine x_callV (As := []) (rest := []) ⟨hx, hb, hml, hown, hg⟩ (c_CL_throwWrong l hlt D ty h px sa σ H.size  hk0) ⟨callB_of 0 hg (gw_C m_774) rfl rfl rfl (hg _ m_1) (hg _ m_771) hd_CL_throwWrong ⟨Nat.le_of_ble_eq_true rfl, Nat.le_of_ble_eq_true rfl⟩, hg _ m_773, hg _ ms_24⟩ (zz_preX hM hN hX hS hA hK hP hD 0 rfl rfl) rfl hl.1 rfl (Nat.le_of_ble_eq_true rfl) d_CL_linear_91 ⟨Nat.le_of_ble_eq_true rfl, Nat.le_of_ble_eq_true rfl⟩ (fun r9 st9 t9 L9 h09 hal9 hR9 hL9 => ?_) (fun q9 st9 t9 L9 h09 h19 hal9 hR9 hL9 => ?_)
    · obtain ⟨hF9, hP9, x, rfl, hz9⟩ := hR9
      have hv := hv.trans (xb_l hz9)
      have hk := hk _ hz9
      have hS := zz_xS hS h09 hF9 (zz_free hD hS hA) hL9
      have hD : va_D A (Wc ty h (f_CL_throwWrong σ).2 px) := zz_D hD rfl
      exact B94 _ _ _ x (f_CL_throwWrong σ).2 hv hk (lv_sub hl [] rfl) hP9 hD hS
    · obtain ⟨hF9, hP9, E9, ce9, hz9, hq9, hn9, hc9⟩ := hR9
      have hv := hv.trans (xb_r hz9)
      have hS := zz_xS hS h09 hF9 (zz_free hD hS hA) hL9
      exact x_out htab hlocks (fun t ht hal => ⟨hS.F ht, by rw [ht, hv]; exact hP9, E9, ce9, by rw [hv], by rw [ht]; exact hq9, hn9, by rw [h19.findClass]; exact hc9⟩) hS.2.2 (Nat.le_of_ble_eq_true rfl) (Nat.le_of_ble_eq_true rfl)
  have B51 : ∀ (H : Heap) (locs : List Loc) (ls : Array Slot) (x1 : Int32) (x2 : Int32) (x3 : Int32) (x4 : Int32) (x5 : Int32) (x6 : Int32) (σ : St), v = f_CL_linear_51 x1 x2 x3 x4 x5 x6 σ → k_CL_linear_51 x1 x2 x3 x4 x5 x6 σ → lv_has ls 7 [(0, .ref (h 0)), (1, .int x1), (2, .int x2), (3, .int x3), (4, .int x4), (5, .int x5), (6, .int x6)] → va_P D classes (Wc ty h σ px) H → va_D A (Wc ty h σ px) → va_S A s.heap H locs → W p l e (headSpec w_CL_linear rm_CL_linear).room s m args below meth c H locs 0 0 (xMQ below (Rx D classes (fun u => Wc ty h u px) A v) args s 1 6 A) (F0 m 51 ls []) := by
    intro H locs ls x1 x2 x3 x4 x5 x6 σ hv hk hl hP hD hS
    unfold f_CL_linear_51 at hv
    unfold k_CL_linear_51 at hk
    refine lv_aload_n hx hb d_CL_linear_51 rfl (lv_at hl 0 rfl) ?_
    refine va_get (v := .ref (h 24)) (C := R_CL) (T := T_CL) (N := 11) hx hb hg in_CL hown hK hP 0 rfl rfl 6 (by decide) (hg _ m_290) (fun _ h9 => h9) rfl d_CL_linear_52 ?_
    refine lv_iload_n hx hb d_CL_linear_55 rfl (lv_at hl 1 rfl) ?_
    refine lv_iload hx hb d_CL_linear_56 (lv_at hl 4 rfl) ?_
    obtain ⟨hk0, hk⟩ := hk
    refine zz_callV (va_runV (As := [.int x1, .int x4]) (rest := []) ⟨hx, hb, hml, hown, hg⟩ (c_Ba_takes l D ty h px sa σ x1 x4 hk0) ⟨callB_of 2 hg (gw_C m_1082) rfl rfl rfl (hg _ m_8) (hg _ m_1079) hd_Ba_takes ⟨Nat.le_of_ble_eq_true rfl, Nat.le_of_ble_eq_true rfl⟩, hg _ m_1080, hg _ m_1081⟩ (zz_preV (hM.at hS) hN hK hP 24 rfl rfl) rfl rfl hl.1 rfl (lv_room (Nat.le_of_ble_eq_true rfl)) d_CL_linear_58 ⟨Nat.le_of_ble_eq_true rfl, Nat.le_of_ble_eq_true rfl⟩) ?_
    refine lv_if_eq (tgt := 90) hx hb d_CL_linear_61 (by decide) (fun hc => ?_) (fun hc => ?_)
    · have hv := hv.trans (if_pos hc)
      have hk := hk.1 hc
      exact B90 _ _ _  σ hv hk (lv_sub hl [0] rfl) hP hD hS
    · have hv := hv.trans (if_neg hc)
      have hk := hk.2 hc
      refine lv_aload_n hx hb d_CL_linear_64 rfl (lv_at hl 0 rfl) ?_
      refine va_get (v := .ref (h 24)) (C := R_CL) (T := T_CL) (N := 11) hx hb hg in_CL hown hK hP 0 rfl rfl 6 (by decide) (hg _ m_290) (fun _ h9 => h9) rfl d_CL_linear_65 ?_
      refine lv_iload_n hx hb d_CL_linear_68 rfl (lv_at hl 2 rfl) ?_
      refine lv_iload hx hb d_CL_linear_69 (lv_at hl 5 rfl) ?_
      obtain ⟨hk0, hk⟩ := hk
      refine zz_callV (va_runV (As := [.int x2, .int x5]) (rest := []) ⟨hx, hb, hml, hown, hg⟩ (c_Ba_takes l D ty h px sa σ x2 x5 hk0) ⟨callB_of 2 hg (gw_C m_1082) rfl rfl rfl (hg _ m_8) (hg _ m_1079) hd_Ba_takes ⟨Nat.le_of_ble_eq_true rfl, Nat.le_of_ble_eq_true rfl⟩, hg _ m_1080, hg _ m_1081⟩ (zz_preV (hM.at hS) hN hK hP 24 rfl rfl) rfl rfl hl.1 rfl (lv_room (Nat.le_of_ble_eq_true rfl)) d_CL_linear_71 ⟨Nat.le_of_ble_eq_true rfl, Nat.le_of_ble_eq_true rfl⟩) ?_
      refine lv_if_eq (tgt := 90) hx hb d_CL_linear_74 (by decide) (fun hc => ?_) (fun hc => ?_)
      · have hv := hv.trans (if_pos hc)
        have hk := hk.1 hc
        exact B90 _ _ _  σ hv hk (lv_sub hl [0] rfl) hP hD hS
      · have hv := hv.trans (if_neg hc)
        have hk := hk.2 hc
        refine lv_aload_n hx hb d_CL_linear_77 rfl (lv_at hl 0 rfl) ?_
        refine va_get (v := .ref (h 24)) (C := R_CL) (T := T_CL) (N := 11) hx hb hg in_CL hown hK hP 0 rfl rfl 6 (by decide) (hg _ m_290) (fun _ h9 => h9) rfl d_CL_linear_78 ?_
        refine lv_iload_n hx hb d_CL_linear_81 rfl (lv_at hl 3 rfl) ?_
        refine lv_iload hx hb d_CL_linear_82 (lv_at hl 6 rfl) ?_
        obtain ⟨hk0, hk⟩ := hk
        refine zz_callV (va_runV (As := [.int x3, .int x6]) (rest := []) ⟨hx, hb, hml, hown, hg⟩ (c_Ba_takes l D ty h px sa σ x3 x6 hk0) ⟨callB_of 2 hg (gw_C m_1082) rfl rfl rfl (hg _ m_8) (hg _ m_1079) hd_Ba_takes ⟨Nat.le_of_ble_eq_true rfl, Nat.le_of_ble_eq_true rfl⟩, hg _ m_1080, hg _ m_1081⟩ (zz_preV (hM.at hS) hN hK hP 24 rfl rfl) rfl rfl hl.1 rfl (lv_room (Nat.le_of_ble_eq_true rfl)) d_CL_linear_84 ⟨Nat.le_of_ble_eq_true rfl, Nat.le_of_ble_eq_true rfl⟩) ?_
        refine lv_if_ne (tgt := 95) hx hb d_CL_linear_87 (by decide) (fun hc => ?_) (fun hc => ?_)
        · have hv := hv.trans (if_neg hc)
          have hk := hk.2 hc
          refine lv_aload_n hx hb d_CL_linear_95 rfl (lv_at hl 0 rfl) ?_
          refine va_get (v := .ref (h 24)) (C := R_CL) (T := T_CL) (N := 11) hx hb hg in_CL hown hK hP 0 rfl rfl 6 (by decide) (hg _ m_290) (fun _ h9 => h9) rfl d_CL_linear_96 ?_
          obtain ⟨hk0, hk⟩ := hk
          exact hk0.elim
        · have hv := hv.trans (if_pos hc)
          have hk := hk.1 hc
          exact B90 _ _ _  σ hv hk (lv_sub hl [0] rfl) hP hD hS
  unfold f_CL_linear at hv
  unfold k_CL_linear at hk
  refine lv_aload_n hx hb d_CL_linear_0 rfl (lv_at hl 0 rfl) ?_
  obtain ⟨hk0, hk⟩ := hk
  refine zz_callV (va_runV (As := []) (rest := []) ⟨hx, hb, hml, hown, hg⟩ (c_CL_isShut l D ty h px sa σ  hk0) ⟨callB_of 0 hg (gw_C m_571) rfl rfl rfl (hg _ m_1) (hg _ m_568) hd_CL_isShut ⟨Nat.le_of_ble_eq_true rfl, Nat.le_of_ble_eq_true rfl⟩, hg _ m_570, hg _ ms_8⟩ (zz_preV (hM.at hS) hN hK hP 0 rfl rfl) rfl rfl hl.1 rfl (lv_room (Nat.le_of_ble_eq_true rfl)) d_CL_linear_1 ⟨Nat.le_of_ble_eq_true rfl, Nat.le_of_ble_eq_true rfl⟩) ?_
  refine lv_if_eq (tgt := 9) hx hb d_CL_linear_4 (by decide) (fun hc => ?_) (fun hc => ?_)
  · have hv := hv.trans (if_pos hc)
    have hk := hk.1 hc
    refine lv_aload_n hx hb d_CL_linear_9 rfl (lv_at hl 0 rfl) ?_
    refine va_get (v := .ref (h 6)) (C := R_CL) (T := T_CL) (N := 11) hx hb hg in_CL hown hK hP 0 rfl rfl 1 (by decide) (hg _ m_285) (fun _ h9 => h9) rfl d_CL_linear_10 ?_
    refine lv_iload_n hx hb d_CL_linear_13 rfl (lv_at hl 1 rfl) ?_
    obtain ⟨hk0, hk⟩ := hk
    refine zz_callV (va_runV (As := [.int a1]) (rest := []) ⟨hx, hb, hml, hown, hg⟩ (c_Te_has l D ty h px sa σ a1 hk0) ⟨callB_of 1 hg (gw_C m_430) rfl rfl rfl (hg _ m_3) (hg _ m_427) hd_Te_has ⟨Nat.le_of_ble_eq_true rfl, Nat.le_of_ble_eq_true rfl⟩, hg _ m_428, hg _ m_429⟩ (zz_preV (hM.at hS) hN hK hP 6 rfl rfl) rfl rfl hl.1 rfl (lv_room (Nat.le_of_ble_eq_true rfl)) d_CL_linear_14 ⟨Nat.le_of_ble_eq_true rfl, Nat.le_of_ble_eq_true rfl⟩) ?_
    refine lv_if_eq (tgt := 36) hx hb d_CL_linear_17 (by decide) (fun hc => ?_) (fun hc => ?_)
    · have hv := hv.trans (if_pos hc)
      have hk := hk.1 hc
      exact B36 _ _ _  σ hv hk (lv_sub hl [0] rfl) hP hD hS
    · have hv := hv.trans (if_neg hc)
      have hk := hk.2 hc
      refine lv_aload_n hx hb d_CL_linear_20 rfl (lv_at hl 0 rfl) ?_
      refine lv_iload_n hx hb d_CL_linear_21 rfl (lv_at hl 2 rfl) ?_
      obtain ⟨hk0, hk⟩ := hk
      refine zz_callV (va_runV (As := [.int a2]) (rest := []) ⟨hx, hb, hml, hown, hg⟩ (c_CL_isTermOrNone l D ty h px sa σ a2 hk0) ⟨callB_of 1 hg (gw_C m_1078) rfl rfl rfl (hg _ m_1) (hg _ m_1075) hd_CL_isTermOrNone ⟨Nat.le_of_ble_eq_true rfl, Nat.le_of_ble_eq_true rfl⟩, hg _ m_1077, hg _ ms_39⟩ (zz_preV (hM.at hS) hN hK hP 0 rfl rfl) rfl rfl hl.1 rfl (lv_room (Nat.le_of_ble_eq_true rfl)) d_CL_linear_22 ⟨Nat.le_of_ble_eq_true rfl, Nat.le_of_ble_eq_true rfl⟩) ?_
      refine lv_if_eq (tgt := 36) hx hb d_CL_linear_25 (by decide) (fun hc => ?_) (fun hc => ?_)
      · have hv := hv.trans (if_pos hc)
        have hk := hk.1 hc
        exact B36 _ _ _  σ hv hk (lv_sub hl [0] rfl) hP hD hS
      · have hv := hv.trans (if_neg hc)
        have hk := hk.2 hc
        refine lv_aload_n hx hb d_CL_linear_28 rfl (lv_at hl 0 rfl) ?_
        refine lv_iload_n hx hb d_CL_linear_29 rfl (lv_at hl 3 rfl) ?_
        obtain ⟨hk0, hk⟩ := hk
        refine zz_callV (va_runV (As := [.int a3]) (rest := []) ⟨hx, hb, hml, hown, hg⟩ (c_CL_isTermOrNone l D ty h px sa σ a3 hk0) ⟨callB_of 1 hg (gw_C m_1078) rfl rfl rfl (hg _ m_1) (hg _ m_1075) hd_CL_isTermOrNone ⟨Nat.le_of_ble_eq_true rfl, Nat.le_of_ble_eq_true rfl⟩, hg _ m_1077, hg _ ms_39⟩ (zz_preV (hM.at hS) hN hK hP 0 rfl rfl) rfl rfl hl.1 rfl (lv_room (Nat.le_of_ble_eq_true rfl)) d_CL_linear_30 ⟨Nat.le_of_ble_eq_true rfl, Nat.le_of_ble_eq_true rfl⟩) ?_
        refine lv_if_ne (tgt := 41) hx hb d_CL_linear_33 (by decide) (fun hc => ?_) (fun hc => ?_)
        · have hv := hv.trans (if_neg hc)
          have hk := hk.2 hc
          refine lv_iload_n hx hb d_CL_linear_41 rfl (lv_at hl 2 rfl) ?_
          refine lv_iconst (v := -1) hx hb d_CL_linear_42 (by decide) ?_
          refine lv_icmp_ne (tgt := 51) hx hb d_CL_linear_43 (by decide) (fun hc => ?_) (fun hc => ?_)
          · have hv := hv.trans (if_neg hc)
            have hk := hk.2 hc
            exact B51 _ _ _ a1 a2 a3 a4 a5 a6 σ hv hk (lv_sub hl [0, 1, 2, 3, 4, 5, 6] rfl) hP hD hS
          · have hv := hv.trans (if_pos hc)
            have hk := hk.1 hc
            refine lv_iload_n hx hb d_CL_linear_46 rfl (lv_at hl 3 rfl) ?_
            refine lv_iconst (v := -1) hx hb d_CL_linear_47 (by decide) ?_
            refine lv_icmp_ne (tgt := 90) hx hb d_CL_linear_48 (by decide) (fun hc => ?_) (fun hc => ?_)
            · have hv := hv.trans (if_neg hc)
              have hk := hk.2 hc
              exact B90 _ _ _  σ hv hk (lv_sub hl [0] rfl) hP hD hS
            · have hv := hv.trans (if_pos hc)
              have hk := hk.1 hc
              exact B51 _ _ _ a1 a2 a3 a4 a5 a6 σ hv hk (lv_sub hl [0, 1, 2, 3, 4, 5, 6] rfl) hP hD hS
        · have hv := hv.trans (if_pos hc)
          have hk := hk.1 hc
          exact B36 _ _ _  σ hv hk (lv_sub hl [0] rfl) hP hD hS
  · have hv := hv.trans (if_neg hc)
    have hk := hk.2 hc
    refine lv_iconst (v := -1) hx hb d_CL_linear_7 (by decide) ?_
    exact x_ret (fun o t hq => by obtain ⟨rfl, ht⟩ := hq; exact ⟨hS.F ht, by rw [ht, hv]; exact hP, _, rfl, by rw [hv]⟩) (Nat.le_of_ble_eq_true rfl) (Nat.le_of_ble_eq_true rfl) (W.iret (Qc := fun _ _ o t => o = .returned (some (.int (-1))) ∧ t.heap = s.heap) hx hb hr (fun t ht hW => ⟨rfl, ht⟩) hS.2.2 d_CL_linear_8)

-- ClauseLedger$Terms.isFree(II)Z
abbrev b_Te_isFree : ByteArray := prog_11_method_14_code
def y_Te_isFree : MethodName := ⟨"ClauseLedger$Terms", "isFree", "(II)Z"⟩
theorem hd_Te_isFree : y_Te_isFree.cls ≠ "java/lang/invoke/MethodHandle" ∧ y_Te_isFree.cls ≠ "java/lang/invoke/VarHandle" ∧ (parseMethodDescriptor y_Te_isFree.desc).map (fun d => d.parameters.length) = some 2 := by decide +kernel
theorem d_Te_isFree_0 : decode b_Te_isFree 0 = .ok (.aload_n 0, 1) := by decide +kernel
theorem d_Te_isFree_1 : decode b_Te_isFree 1 = .ok (.iload_n 2, 1) := by decide +kernel
theorem d_Te_isFree_2 : decode b_Te_isFree 2 = .ok (.invokevirtual 65, 3) := by decide +kernel
theorem d_Te_isFree_5 : decode b_Te_isFree 5 = .ok (.iconst 1, 1) := by decide +kernel
theorem d_Te_isFree_6 : decode b_Te_isFree 6 = .ok (.iload_n 1, 1) := by decide +kernel
theorem d_Te_isFree_7 : decode b_Te_isFree 7 = .ok (.ishl, 1) := by decide +kernel
theorem d_Te_isFree_8 : decode b_Te_isFree 8 = .ok (.iand, 1) := by decide +kernel
theorem d_Te_isFree_9 : decode b_Te_isFree 9 = .ok (.ifCond .eq 7, 3) := by decide +kernel
theorem d_Te_isFree_12 : decode b_Te_isFree 12 = .ok (.iconst 1, 1) := by decide +kernel
theorem d_Te_isFree_13 : decode b_Te_isFree 13 = .ok (.goto 4, 3) := by decide +kernel
theorem d_Te_isFree_16 : decode b_Te_isFree 16 = .ok (.iconst 0, 1) := by decide +kernel
theorem d_Te_isFree_17 : decode b_Te_isFree 17 = .ok (.ireturn, 1) := by decide +kernel
def f_Te_isFree_17 (s0 : Int32) (σ : St) : Int32 := s0
def k_Te_isFree_17 (s0 : Int32) (σ : St) : Prop := (narrow .boolean (.int s0) = .int s0) ∧ True
def f_Te_isFree (a1 : Int32) (a2 : Int32) (σ : St) : Int32 := if ((f_Te_freeOf a2 σ) &&& (1 <<< (a1 &&& 31))) = 0 then (f_Te_isFree_17 0 σ) else (f_Te_isFree_17 1 σ)
def k_Te_isFree (a1 : Int32) (a2 : Int32) (σ : St) : Prop := (k_Te_freeOf a2 σ) ∧ ((((f_Te_freeOf a2 σ) &&& (1 <<< (a1 &&& 31))) = 0 → (k_Te_isFree_17 0 σ)) ∧ (¬ ((f_Te_freeOf a2 σ) &&& (1 <<< (a1 &&& 31))) = 0 → (k_Te_isFree_17 1 σ)))
abbrev w_Te_isFree : List Cond := Cond.code y_Te_isFree b_Te_isFree 3 (some .boolean) :: gw
abbrev rm_Te_isFree : Room := { frames := 2, cells := 0, slots := 0, locals := 42 }
set_option maxHeartbeats 4000000 in
set_option maxRecDepth 100000 in
theorem c_Te_isFree (l : Launch) (D : va_G) (ty : Nat → ClassId) (h : Nat → Nat) (px : va_W) (sa : Nat → Nat) (σ : St) (a1 : Int32) (a2 : Int32) (hk : k_Te_isFree a1 a2 σ) : Met l y_Te_isFree w_Te_isFree rm_Te_isFree (va_Pc [.ref (h 6), .int a1, .int a2] (fun U => va_P D classes (Wc ty h σ px) U.heap ∧ va_K D classes (Ta ty) U ∧ NW U ∧ MK sa (fun _ => False) U U.heap)) (k2_QcV (.int (f_Te_isFree a1 a2 σ))) 0 0 (fun _ => False) := by
  refine Met.ofW (cc := b_Te_isFree) (maxL := 3) (ret := (some .boolean)) (by decide) rfl ?_
  intro p e s m args below meth c s₁ B hml hv
  obtain ⟨ha, hP, hK, hN, hM⟩ := hv
  have hx := B.exec
  have hb := B.bytes
  have hr := B.returns
  have hg : ∀ w ∈ gw, w.before args s = true := fun w h9 => atoms_spec (ws := w_Te_isFree) B.pre w (List.mem_cons_of_mem _ h9)
  have hown : s.vm.findClass "ClauseLedger$Terms" = some m.cls := findClass_of_methodNamed B.named
  have hlocks := B.notSynchronized
  have he : entryFrame m args 3 = entryFrame m ([.ref (h 6), .int a1, .int a2] : List Value).toArray 3 := by rw [ha]
  rw [he, lg_entry_eq]
  have hl := lv_entry ([.ref (h 6), .int a1, .int a2]) (n := 3) (Nat.le_of_ble_eq_true rfl)
  generalize (lg_sl ([.ref (h 6), .int a1, .int a2]) ++ List.replicate (3 - (lg_sl ([.ref (h 6), .int a1, .int a2])).length) Slot.unset).toArray = ls at hl ⊢
  have hl : lv_has ls 3 [(0, .ref (h 6)), (1, .int a1), (2, .int a2)] := hl
  generalize hv : f_Te_isFree a1 a2 σ = v
  replace hv := hv.symm
  have B17 : ∀ (ls : Array Slot) (s0 : Int32), v = f_Te_isFree_17 s0 σ → k_Te_isFree_17 s0 σ → lv_has ls 3 [] → W p l e (headSpec w_Te_isFree rm_Te_isFree).room s m args below meth c s.heap [] 0 0 (MQ below (k2_QcV (.int v)) args s 0 0 (fun _ => False)) (F0 m 17 ls [.int s0]) := by
    intro ls s0 hv hk hl
    unfold f_Te_isFree_17 at hv
    unfold k_Te_isFree_17 at hk
    obtain ⟨hk0, hk⟩ := hk
    exact W.zret hx hb hr hk0 (fun t ht hW => ⟨by rw [hv], ht⟩) (fun q h => nomatch h) d_Te_isFree_17
  unfold f_Te_isFree at hv
  unfold k_Te_isFree at hk
  refine lv_aload_n hx hb d_Te_isFree_0 rfl (lv_at hl 0 rfl) ?_
  refine lv_iload_n hx hb d_Te_isFree_1 rfl (lv_at hl 2 rfl) ?_
  obtain ⟨hk0, hk⟩ := hk
  refine zz_callV (va_runV (As := [.int a2]) (rest := []) ⟨hx, hb, hml, hown, hg⟩ (c_Te_freeOf l D ty h px sa σ a2 hk0) ⟨callB_of 1 hg (gw_C m_650) rfl rfl rfl (hg _ m_3) (hg _ m_647) hd_Te_freeOf ⟨Nat.le_of_ble_eq_true rfl, Nat.le_of_ble_eq_true rfl⟩, hg _ m_649, hg _ ms_16⟩ (zz_preV hM hN hK hP 6 rfl rfl) rfl rfl hl.1 rfl (lv_room (Nat.le_of_ble_eq_true rfl)) d_Te_isFree_2 ⟨Nat.le_of_ble_eq_true rfl, Nat.le_of_ble_eq_true rfl⟩) ?_
  refine lv_iconst (v := 1) hx hb d_Te_isFree_5 (by decide) ?_
  refine lv_iload_n hx hb d_Te_isFree_6 rfl (lv_at hl 1 rfl) ?_
  refine lv_ishl hx hb d_Te_isFree_7 ?_
  refine lv_iand hx hb d_Te_isFree_8 ?_
  refine lv_if_eq (tgt := 16) hx hb d_Te_isFree_9 (by decide) (fun hc => ?_) (fun hc => ?_)
  · have hv := hv.trans (if_pos hc)
    have hk := hk.1 hc
    refine lv_iconst (v := 0) hx hb d_Te_isFree_16 (by decide) ?_
    exact B17 _ 0 hv hk (lv_sub hl [] rfl)
  · have hv := hv.trans (if_neg hc)
    have hk := hk.2 hc
    refine lv_iconst (v := 1) hx hb d_Te_isFree_12 (by decide) ?_
    refine lv_goto (tgt := 17) hx hb d_Te_isFree_13 (by decide) ?_
    exact B17 _ 1 hv hk (lv_sub hl [] rfl)

-- ClauseLedger$Putting.isCaught(I)Z
abbrev b_Pu_isCaught : ByteArray := prog_4_method_5_code
def y_Pu_isCaught : MethodName := ⟨"ClauseLedger$Putting", "isCaught", "(I)Z"⟩
theorem hd_Pu_isCaught : y_Pu_isCaught.cls ≠ "java/lang/invoke/MethodHandle" ∧ y_Pu_isCaught.cls ≠ "java/lang/invoke/VarHandle" ∧ (parseMethodDescriptor y_Pu_isCaught.desc).map (fun d => d.parameters.length) = some 1 := by decide +kernel
theorem d_Pu_isCaught_0 : decode b_Pu_isCaught 0 = .ok (.aload_n 0, 1) := by decide +kernel
theorem d_Pu_isCaught_1 : decode b_Pu_isCaught 1 = .ok (.getfield 26, 3) := by decide +kernel
theorem d_Pu_isCaught_4 : decode b_Pu_isCaught 4 = .ok (.iload_n 1, 1) := by decide +kernel
theorem d_Pu_isCaught_5 : decode b_Pu_isCaught 5 = .ok (.invokevirtual 46, 3) := by decide +kernel
theorem d_Pu_isCaught_8 : decode b_Pu_isCaught 8 = .ok (.bipush 10, 2) := by decide +kernel
theorem d_Pu_isCaught_10 : decode b_Pu_isCaught 10 = .ok (.if_icmp .ne 29, 3) := by decide +kernel
theorem d_Pu_isCaught_13 : decode b_Pu_isCaught 13 = .ok (.aload_n 0, 1) := by decide +kernel
theorem d_Pu_isCaught_14 : decode b_Pu_isCaught 14 = .ok (.getfield 26, 3) := by decide +kernel
theorem d_Pu_isCaught_17 : decode b_Pu_isCaught 17 = .ok (.aload_n 0, 1) := by decide +kernel
theorem d_Pu_isCaught_18 : decode b_Pu_isCaught 18 = .ok (.getfield 26, 3) := by decide +kernel
theorem d_Pu_isCaught_21 : decode b_Pu_isCaught 21 = .ok (.iload_n 1, 1) := by decide +kernel
theorem d_Pu_isCaught_22 : decode b_Pu_isCaught 22 = .ok (.invokevirtual 63, 3) := by decide +kernel
theorem d_Pu_isCaught_25 : decode b_Pu_isCaught 25 = .ok (.aload_n 0, 1) := by decide +kernel
theorem d_Pu_isCaught_26 : decode b_Pu_isCaught 26 = .ok (.getfield 19, 3) := by decide +kernel
theorem d_Pu_isCaught_29 : decode b_Pu_isCaught 29 = .ok (.invokevirtual 40, 3) := by decide +kernel
theorem d_Pu_isCaught_32 : decode b_Pu_isCaught 32 = .ok (.ifCond .eq 7, 3) := by decide +kernel
theorem d_Pu_isCaught_35 : decode b_Pu_isCaught 35 = .ok (.iconst 1, 1) := by decide +kernel
theorem d_Pu_isCaught_36 : decode b_Pu_isCaught 36 = .ok (.goto 4, 3) := by decide +kernel
theorem d_Pu_isCaught_39 : decode b_Pu_isCaught 39 = .ok (.iconst 0, 1) := by decide +kernel
theorem d_Pu_isCaught_40 : decode b_Pu_isCaught 40 = .ok (.ireturn, 1) := by decide +kernel
def f_Pu_isCaught_40 (s0 : Int32) (σ : St) : Int32 := s0
def k_Pu_isCaught_40 (s0 : Int32) (σ : St) : Prop := (narrow .boolean (.int s0) = .int s0) ∧ True
def f_Pu_isCaught_39 (σ : St) : Int32 := f_Pu_isCaught_40 0 σ
def k_Pu_isCaught_39 (σ : St) : Prop := k_Pu_isCaught_40 0 σ
def f_Pu_isCaught (a1 : Int32) (σ : St) : Int32 := if (f_Te_kindOf a1 σ) = 10 then (if (f_Te_isFree (f_Te_nameOf a1 σ) (σ.1 22 3) σ) = 0 then (f_Pu_isCaught_39 σ) else (f_Pu_isCaught_40 1 σ)) else (f_Pu_isCaught_39 σ)
def k_Pu_isCaught (a1 : Int32) (σ : St) : Prop := (k_Te_kindOf a1 σ) ∧ (((f_Te_kindOf a1 σ) = 10 → ((k_Te_nameOf a1 σ) ∧ ((k_Te_isFree (f_Te_nameOf a1 σ) (σ.1 22 3) σ) ∧ (((f_Te_isFree (f_Te_nameOf a1 σ) (σ.1 22 3) σ) = 0 → (k_Pu_isCaught_39 σ)) ∧ (¬ (f_Te_isFree (f_Te_nameOf a1 σ) (σ.1 22 3) σ) = 0 → (k_Pu_isCaught_40 1 σ)))))) ∧ (¬ (f_Te_kindOf a1 σ) = 10 → (k_Pu_isCaught_39 σ)))
abbrev w_Pu_isCaught : List Cond := Cond.code y_Pu_isCaught b_Pu_isCaught 2 (some .boolean) :: gw
abbrev rm_Pu_isCaught : Room := { frames := 3, cells := 0, slots := 0, locals := 64 }
set_option maxHeartbeats 4000000 in
set_option maxRecDepth 100000 in
theorem c_Pu_isCaught (l : Launch) (D : va_G) (ty : Nat → ClassId) (h : Nat → Nat) (px : va_W) (sa : Nat → Nat) (σ : St) (a1 : Int32) (hk : k_Pu_isCaught a1 σ) : Met l y_Pu_isCaught w_Pu_isCaught rm_Pu_isCaught (va_Pc [.ref (h 22), .int a1] (fun U => va_P D classes (Wc ty h σ px) U.heap ∧ va_K D classes (Ta ty) U ∧ NW U ∧ MK sa (fun _ => False) U U.heap)) (k2_QcV (.int (f_Pu_isCaught a1 σ))) 0 0 (fun _ => False) := by
  refine Met.ofW (cc := b_Pu_isCaught) (maxL := 2) (ret := (some .boolean)) (by decide) rfl ?_
  intro p e s m args below meth c s₁ B hml hv
  obtain ⟨ha, hP, hK, hN, hM⟩ := hv
  have hx := B.exec
  have hb := B.bytes
  have hr := B.returns
  have hg : ∀ w ∈ gw, w.before args s = true := fun w h9 => atoms_spec (ws := w_Pu_isCaught) B.pre w (List.mem_cons_of_mem _ h9)
  have hown : s.vm.findClass "ClauseLedger$Putting" = some m.cls := findClass_of_methodNamed B.named
  have hlocks := B.notSynchronized
  have he : entryFrame m args 2 = entryFrame m ([.ref (h 22), .int a1] : List Value).toArray 2 := by rw [ha]
  rw [he, lg_entry_eq]
  have hl := lv_entry ([.ref (h 22), .int a1]) (n := 2) (Nat.le_of_ble_eq_true rfl)
  generalize (lg_sl ([.ref (h 22), .int a1]) ++ List.replicate (2 - (lg_sl ([.ref (h 22), .int a1])).length) Slot.unset).toArray = ls at hl ⊢
  have hl : lv_has ls 2 [(0, .ref (h 22)), (1, .int a1)] := hl
  generalize hv : f_Pu_isCaught a1 σ = v
  replace hv := hv.symm
  have B40 : ∀ (ls : Array Slot) (s0 : Int32), v = f_Pu_isCaught_40 s0 σ → k_Pu_isCaught_40 s0 σ → lv_has ls 2 [] → W p l e (headSpec w_Pu_isCaught rm_Pu_isCaught).room s m args below meth c s.heap [] 0 0 (MQ below (k2_QcV (.int v)) args s 0 0 (fun _ => False)) (F0 m 40 ls [.int s0]) := by
    intro ls s0 hv hk hl
    unfold f_Pu_isCaught_40 at hv
    unfold k_Pu_isCaught_40 at hk
    obtain ⟨hk0, hk⟩ := hk
    exact W.zret hx hb hr hk0 (fun t ht hW => ⟨by rw [hv], ht⟩) (fun q h => nomatch h) d_Pu_isCaught_40
  have B39 : ∀ (ls : Array Slot), v = f_Pu_isCaught_39 σ → k_Pu_isCaught_39 σ → lv_has ls 2 [] → W p l e (headSpec w_Pu_isCaught rm_Pu_isCaught).room s m args below meth c s.heap [] 0 0 (MQ below (k2_QcV (.int v)) args s 0 0 (fun _ => False)) (F0 m 39 ls []) := by
    intro ls hv hk hl
    unfold f_Pu_isCaught_39 at hv
    unfold k_Pu_isCaught_39 at hk
    refine lv_iconst (v := 0) hx hb d_Pu_isCaught_39 (by decide) ?_
    exact B40 _ 0 hv hk (lv_sub hl [] rfl)
  unfold f_Pu_isCaught at hv
  unfold k_Pu_isCaught at hk
  refine lv_aload_n hx hb d_Pu_isCaught_0 rfl (lv_at hl 0 rfl) ?_
  refine va_get (v := .ref (h 6)) (C := R_Pu) (T := T_Pu) (N := 5) hx hb hg in_Pu hown hK hP 22 rfl rfl 0 (by decide) (hg _ m_162) (fun _ h9 => h9) rfl d_Pu_isCaught_1 ?_
  refine lv_iload_n hx hb d_Pu_isCaught_4 rfl (lv_at hl 1 rfl) ?_
  obtain ⟨hk0, hk⟩ := hk
  refine zz_callV (va_runV (As := [.int a1]) (rest := []) ⟨hx, hb, hml, hown, hg⟩ (c_Te_kindOf l D ty h px sa σ a1 hk0) ⟨callB_of 1 hg (gw_C m_434) rfl rfl rfl (hg _ m_3) (hg _ m_1195) hd_Te_kindOf ⟨Nat.le_of_ble_eq_true rfl, Nat.le_of_ble_eq_true rfl⟩, hg _ m_432, hg _ m_433⟩ (zz_preV hM hN hK hP 6 rfl rfl) rfl rfl hl.1 rfl (lv_room (Nat.le_of_ble_eq_true rfl)) d_Pu_isCaught_5 ⟨Nat.le_of_ble_eq_true rfl, Nat.le_of_ble_eq_true rfl⟩) ?_
  refine lv_bipush (v := 10) hx hb d_Pu_isCaught_8 (by decide) ?_
  refine lv_icmp_ne (tgt := 39) hx hb d_Pu_isCaught_10 (by decide) (fun hc => ?_) (fun hc => ?_)
  · have hv := hv.trans (if_neg hc)
    have hk := hk.2 hc
    exact B39 _  hv hk (lv_sub hl [] rfl)
  · have hv := hv.trans (if_pos hc)
    have hk := hk.1 hc
    refine lv_aload_n hx hb d_Pu_isCaught_13 rfl (lv_at hl 0 rfl) ?_
    refine va_get (v := .ref (h 6)) (C := R_Pu) (T := T_Pu) (N := 5) hx hb hg in_Pu hown hK hP 22 rfl rfl 0 (by decide) (hg _ m_162) (fun _ h9 => h9) rfl d_Pu_isCaught_14 ?_
    refine lv_aload_n hx hb d_Pu_isCaught_17 rfl (lv_at hl 0 rfl) ?_
    refine va_get (v := .ref (h 6)) (C := R_Pu) (T := T_Pu) (N := 5) hx hb hg in_Pu hown hK hP 22 rfl rfl 0 (by decide) (hg _ m_162) (fun _ h9 => h9) rfl d_Pu_isCaught_18 ?_
    refine lv_iload_n hx hb d_Pu_isCaught_21 rfl (lv_at hl 1 rfl) ?_
    obtain ⟨hk0, hk⟩ := hk
    refine zz_callV (va_runV (As := [.int a1]) (rest := [.ref (h 6)]) ⟨hx, hb, hml, hown, hg⟩ (c_Te_nameOf l D ty h px sa σ a1 hk0) ⟨callB_of 1 hg (gw_C m_455) rfl rfl rfl (hg _ m_3) (hg _ m_1200) hd_Te_nameOf ⟨Nat.le_of_ble_eq_true rfl, Nat.le_of_ble_eq_true rfl⟩, hg _ m_453, hg _ m_454⟩ (zz_preV hM hN hK hP 6 rfl rfl) rfl rfl hl.1 rfl (lv_room (Nat.le_of_ble_eq_true rfl)) d_Pu_isCaught_22 ⟨Nat.le_of_ble_eq_true rfl, Nat.le_of_ble_eq_true rfl⟩) ?_
    refine lv_aload_n hx hb d_Pu_isCaught_25 rfl (lv_at hl 0 rfl) ?_
    refine va_get (v := .int (σ.1 22 3)) (C := R_Pu) (T := T_Pu) (N := 5) hx hb hg in_Pu hown hK hP 22 rfl rfl 3 (by decide) (hg _ m_165) (fun _ h9 => h9) rfl d_Pu_isCaught_26 ?_
    obtain ⟨hk0, hk⟩ := hk
    refine zz_callV (va_runV (As := [.int (f_Te_nameOf a1 σ), .int (σ.1 22 3)]) (rest := []) ⟨hx, hb, hml, hown, hg⟩ (c_Te_isFree l D ty h px sa σ (f_Te_nameOf a1 σ) (σ.1 22 3) hk0) ⟨callB_of 2 hg (gw_C m_1194) rfl rfl rfl (hg _ m_3) (hg _ m_1191) hd_Te_isFree ⟨Nat.le_of_ble_eq_true rfl, Nat.le_of_ble_eq_true rfl⟩, hg _ m_1192, hg _ m_1193⟩ (zz_preV hM hN hK hP 6 rfl rfl) rfl rfl hl.1 rfl (lv_room (Nat.le_of_ble_eq_true rfl)) d_Pu_isCaught_29 ⟨Nat.le_of_ble_eq_true rfl, Nat.le_of_ble_eq_true rfl⟩) ?_
    refine lv_if_eq (tgt := 39) hx hb d_Pu_isCaught_32 (by decide) (fun hc => ?_) (fun hc => ?_)
    · have hv := hv.trans (if_pos hc)
      have hk := hk.1 hc
      exact B39 _  hv hk (lv_sub hl [] rfl)
    · have hv := hv.trans (if_neg hc)
      have hk := hk.2 hc
      refine lv_iconst (v := 1) hx hb d_Pu_isCaught_35 (by decide) ?_
      refine lv_goto (tgt := 40) hx hb d_Pu_isCaught_36 (by decide) ?_
      exact B40 _ 1 hv hk (lv_sub hl [] rfl)

-- ClauseLedger$Putting.putIn(II)I
abbrev b_Pu_putIn : ByteArray := prog_4_method_4_code
def y_Pu_putIn : MethodName := ⟨"ClauseLedger$Putting", "putIn", "(II)I"⟩
theorem hd_Pu_putIn : y_Pu_putIn.cls ≠ "java/lang/invoke/MethodHandle" ∧ y_Pu_putIn.cls ≠ "java/lang/invoke/VarHandle" ∧ (parseMethodDescriptor y_Pu_putIn.desc).map (fun d => d.parameters.length) = some 2 := by decide +kernel
abbrev w_Pu_putIn : List Cond := Cond.code y_Pu_putIn b_Pu_putIn 5 (some .int) :: gw
abbrev rm_Pu_putIn (d : Nat) : Room := { frames := 6 + 1 * d + 1, cells := 0, slots := 0, locals := 145 + 24 * d + 24 }
abbrev rk_Pu_putIn (d : Nat) : Room := { frames := 6 + 1 * d, cells := 0, slots := 0, locals := 145 + 24 * d }
theorem d_Pu_putIn_0 : decode b_Pu_putIn 0 = .ok (.aload_n 0, 1) := by decide +kernel
theorem d_Pu_putIn_1 : decode b_Pu_putIn 1 = .ok (.getfield 26, 3) := by decide +kernel
theorem d_Pu_putIn_4 : decode b_Pu_putIn 4 = .ok (.aload_n 0, 1) := by decide +kernel
theorem d_Pu_putIn_5 : decode b_Pu_putIn 5 = .ok (.getfield 15, 3) := by decide +kernel
theorem d_Pu_putIn_8 : decode b_Pu_putIn 8 = .ok (.iload_n 1, 1) := by decide +kernel
theorem d_Pu_putIn_9 : decode b_Pu_putIn 9 = .ok (.invokevirtual 40, 3) := by decide +kernel
theorem d_Pu_putIn_12 : decode b_Pu_putIn 12 = .ok (.ifCond .ne 5, 3) := by decide +kernel
theorem d_Pu_putIn_15 : decode b_Pu_putIn 15 = .ok (.iload_n 1, 1) := by decide +kernel
theorem d_Pu_putIn_16 : decode b_Pu_putIn 16 = .ok (.ireturn, 1) := by decide +kernel
theorem d_Pu_putIn_17 : decode b_Pu_putIn 17 = .ok (.aload_n 0, 1) := by decide +kernel
theorem d_Pu_putIn_18 : decode b_Pu_putIn 18 = .ok (.getfield 26, 3) := by decide +kernel
theorem d_Pu_putIn_21 : decode b_Pu_putIn 21 = .ok (.iload_n 1, 1) := by decide +kernel
theorem d_Pu_putIn_22 : decode b_Pu_putIn 22 = .ok (.invokevirtual 46, 3) := by decide +kernel
theorem d_Pu_putIn_25 : decode b_Pu_putIn 25 = .ok (.iconst 1, 1) := by decide +kernel
theorem d_Pu_putIn_26 : decode b_Pu_putIn 26 = .ok (.if_icmp .ne 8, 3) := by decide +kernel
theorem d_Pu_putIn_29 : decode b_Pu_putIn 29 = .ok (.aload_n 0, 1) := by decide +kernel
theorem d_Pu_putIn_30 : decode b_Pu_putIn 30 = .ok (.getfield 19, 3) := by decide +kernel
theorem d_Pu_putIn_33 : decode b_Pu_putIn 33 = .ok (.ireturn, 1) := by decide +kernel
theorem d_Pu_putIn_34 : decode b_Pu_putIn 34 = .ok (.aload_n 0, 1) := by decide +kernel
theorem d_Pu_putIn_35 : decode b_Pu_putIn 35 = .ok (.aload_n 0, 1) := by decide +kernel
theorem d_Pu_putIn_36 : decode b_Pu_putIn 36 = .ok (.getfield 22, 3) := by decide +kernel
theorem d_Pu_putIn_39 : decode b_Pu_putIn 39 = .ok (.ifCond .ne 26, 3) := by decide +kernel
theorem d_Pu_putIn_42 : decode b_Pu_putIn 42 = .ok (.aload_n 0, 1) := by decide +kernel
theorem d_Pu_putIn_43 : decode b_Pu_putIn 43 = .ok (.iload_n 1, 1) := by decide +kernel
theorem d_Pu_putIn_44 : decode b_Pu_putIn 44 = .ok (.invokevirtual 50, 3) := by decide +kernel
theorem d_Pu_putIn_47 : decode b_Pu_putIn 47 = .ok (.ifCond .ne 18, 3) := by decide +kernel
theorem d_Pu_putIn_50 : decode b_Pu_putIn 50 = .ok (.iload_n 2, 1) := by decide +kernel
theorem d_Pu_putIn_51 : decode b_Pu_putIn 51 = .ok (.bipush 12, 2) := by decide +kernel
theorem d_Pu_putIn_53 : decode b_Pu_putIn 53 = .ok (.if_icmp .gt 12, 3) := by decide +kernel
theorem d_Pu_putIn_56 : decode b_Pu_putIn 56 = .ok (.iload_n 1, 1) := by decide +kernel
theorem d_Pu_putIn_57 : decode b_Pu_putIn 57 = .ok (.aload_n 0, 1) := by decide +kernel
theorem d_Pu_putIn_58 : decode b_Pu_putIn 58 = .ok (.getfield 9, 3) := by decide +kernel
theorem d_Pu_putIn_61 : decode b_Pu_putIn 61 = .ok (.arraylength, 1) := by decide +kernel
theorem d_Pu_putIn_62 : decode b_Pu_putIn 62 = .ok (.if_icmp .lt 7, 3) := by decide +kernel
theorem d_Pu_putIn_65 : decode b_Pu_putIn 65 = .ok (.iconst 1, 1) := by decide +kernel
theorem d_Pu_putIn_66 : decode b_Pu_putIn 66 = .ok (.goto 4, 3) := by decide +kernel
theorem d_Pu_putIn_69 : decode b_Pu_putIn 69 = .ok (.iconst 0, 1) := by decide +kernel
theorem d_Pu_putIn_70 : decode b_Pu_putIn 70 = .ok (.putfield 22, 3) := by decide +kernel
theorem d_Pu_putIn_73 : decode b_Pu_putIn 73 = .ok (.aload_n 0, 1) := by decide +kernel
theorem d_Pu_putIn_74 : decode b_Pu_putIn 74 = .ok (.getfield 22, 3) := by decide +kernel
theorem d_Pu_putIn_77 : decode b_Pu_putIn 77 = .ok (.ifCond .eq 5, 3) := by decide +kernel
theorem d_Pu_putIn_80 : decode b_Pu_putIn 80 = .ok (.iload_n 1, 1) := by decide +kernel
theorem d_Pu_putIn_81 : decode b_Pu_putIn 81 = .ok (.ireturn, 1) := by decide +kernel
theorem d_Pu_putIn_82 : decode b_Pu_putIn 82 = .ok (.aload_n 0, 1) := by decide +kernel
theorem d_Pu_putIn_83 : decode b_Pu_putIn 83 = .ok (.getfield 9, 3) := by decide +kernel
theorem d_Pu_putIn_86 : decode b_Pu_putIn 86 = .ok (.iload_n 1, 1) := by decide +kernel
theorem d_Pu_putIn_87 : decode b_Pu_putIn 87 = .ok (.iaload, 1) := by decide +kernel
theorem d_Pu_putIn_88 : decode b_Pu_putIn 88 = .ok (.iconst (-1), 1) := by decide +kernel
theorem d_Pu_putIn_89 : decode b_Pu_putIn 89 = .ok (.if_icmp .ne 76, 3) := by decide +kernel
theorem d_Pu_putIn_92 : decode b_Pu_putIn 92 = .ok (.aload_n 0, 1) := by decide +kernel
theorem d_Pu_putIn_93 : decode b_Pu_putIn 93 = .ok (.aload_n 0, 1) := by decide +kernel
theorem d_Pu_putIn_94 : decode b_Pu_putIn 94 = .ok (.getfield 26, 3) := by decide +kernel
theorem d_Pu_putIn_97 : decode b_Pu_putIn 97 = .ok (.iload_n 1, 1) := by decide +kernel
theorem d_Pu_putIn_98 : decode b_Pu_putIn 98 = .ok (.invokevirtual 54, 3) := by decide +kernel
theorem d_Pu_putIn_101 : decode b_Pu_putIn 101 = .ok (.iload_n 2, 1) := by decide +kernel
theorem d_Pu_putIn_102 : decode b_Pu_putIn 102 = .ok (.iconst 1, 1) := by decide +kernel
theorem d_Pu_putIn_103 : decode b_Pu_putIn 103 = .ok (.iadd, 1) := by decide +kernel
theorem d_Pu_putIn_104 : decode b_Pu_putIn 104 = .ok (.invokevirtual 36, 3) := by decide +kernel
theorem d_Pu_putIn_107 : decode b_Pu_putIn 107 = .ok (.istore_n 3, 1) := by decide +kernel
theorem d_Pu_putIn_108 : decode b_Pu_putIn 108 = .ok (.aload_n 0, 1) := by decide +kernel
theorem d_Pu_putIn_109 : decode b_Pu_putIn 109 = .ok (.aload_n 0, 1) := by decide +kernel
theorem d_Pu_putIn_110 : decode b_Pu_putIn 110 = .ok (.getfield 26, 3) := by decide +kernel
theorem d_Pu_putIn_113 : decode b_Pu_putIn 113 = .ok (.iload_n 1, 1) := by decide +kernel
theorem d_Pu_putIn_114 : decode b_Pu_putIn 114 = .ok (.invokevirtual 57, 3) := by decide +kernel
theorem d_Pu_putIn_117 : decode b_Pu_putIn 117 = .ok (.iload_n 2, 1) := by decide +kernel
theorem d_Pu_putIn_118 : decode b_Pu_putIn 118 = .ok (.iconst 1, 1) := by decide +kernel
theorem d_Pu_putIn_119 : decode b_Pu_putIn 119 = .ok (.iadd, 1) := by decide +kernel
theorem d_Pu_putIn_120 : decode b_Pu_putIn 120 = .ok (.invokevirtual 36, 3) := by decide +kernel
theorem d_Pu_putIn_123 : decode b_Pu_putIn 123 = .ok (.istore 4, 2) := by decide +kernel
theorem d_Pu_putIn_125 : decode b_Pu_putIn 125 = .ok (.aload_n 0, 1) := by decide +kernel
theorem d_Pu_putIn_126 : decode b_Pu_putIn 126 = .ok (.getfield 9, 3) := by decide +kernel
theorem d_Pu_putIn_129 : decode b_Pu_putIn 129 = .ok (.iload_n 1, 1) := by decide +kernel
theorem d_Pu_putIn_130 : decode b_Pu_putIn 130 = .ok (.aload_n 0, 1) := by decide +kernel
theorem d_Pu_putIn_131 : decode b_Pu_putIn 131 = .ok (.getfield 26, 3) := by decide +kernel
theorem d_Pu_putIn_134 : decode b_Pu_putIn 134 = .ok (.aload_n 0, 1) := by decide +kernel
theorem d_Pu_putIn_135 : decode b_Pu_putIn 135 = .ok (.getfield 26, 3) := by decide +kernel
theorem d_Pu_putIn_138 : decode b_Pu_putIn 138 = .ok (.iload_n 1, 1) := by decide +kernel
theorem d_Pu_putIn_139 : decode b_Pu_putIn 139 = .ok (.invokevirtual 46, 3) := by decide +kernel
theorem d_Pu_putIn_142 : decode b_Pu_putIn 142 = .ok (.aload_n 0, 1) := by decide +kernel
theorem d_Pu_putIn_143 : decode b_Pu_putIn 143 = .ok (.getfield 26, 3) := by decide +kernel
theorem d_Pu_putIn_146 : decode b_Pu_putIn 146 = .ok (.iload_n 1, 1) := by decide +kernel
theorem d_Pu_putIn_147 : decode b_Pu_putIn 147 = .ok (.invokevirtual 60, 3) := by decide +kernel
theorem d_Pu_putIn_150 : decode b_Pu_putIn 150 = .ok (.aload_n 0, 1) := by decide +kernel
theorem d_Pu_putIn_151 : decode b_Pu_putIn 151 = .ok (.getfield 26, 3) := by decide +kernel
theorem d_Pu_putIn_154 : decode b_Pu_putIn 154 = .ok (.iload_n 1, 1) := by decide +kernel
theorem d_Pu_putIn_155 : decode b_Pu_putIn 155 = .ok (.invokevirtual 63, 3) := by decide +kernel
theorem d_Pu_putIn_158 : decode b_Pu_putIn 158 = .ok (.iload_n 3, 1) := by decide +kernel
theorem d_Pu_putIn_159 : decode b_Pu_putIn 159 = .ok (.iload 4, 2) := by decide +kernel
theorem d_Pu_putIn_161 : decode b_Pu_putIn 161 = .ok (.invokevirtual 66, 3) := by decide +kernel
theorem d_Pu_putIn_164 : decode b_Pu_putIn 164 = .ok (.iastore, 1) := by decide +kernel
theorem d_Pu_putIn_165 : decode b_Pu_putIn 165 = .ok (.aload_n 0, 1) := by decide +kernel
theorem d_Pu_putIn_166 : decode b_Pu_putIn 166 = .ok (.getfield 9, 3) := by decide +kernel
theorem d_Pu_putIn_169 : decode b_Pu_putIn 169 = .ok (.iload_n 1, 1) := by decide +kernel
theorem d_Pu_putIn_170 : decode b_Pu_putIn 170 = .ok (.iaload, 1) := by decide +kernel
theorem d_Pu_putIn_171 : decode b_Pu_putIn 171 = .ok (.ireturn, 1) := by decide +kernel
def f_Pu_putIn_165 (RF : Int32 → Int32 → St → Int32 × St) (x1 : Int32) (σ : St) : Int32 × St := (σ.1 23 x1.toNatClampNeg, σ)
def k_Pu_putIn_165 (RF : Int32 → Int32 → St → Int32 × St) (RK : Int32 → Int32 → St → Prop) (x1 : Int32) (σ : St) : Prop := vp_in x1 100 ∧ True
def f_Pu_putIn_164 (RF : Int32 → Int32 → St → Int32 × St) (x1 : Int32) (s0 : Int32) (s1 : Int32) (σ : St) : Int32 × St := f_Pu_putIn_165 RF x1 (sA σ 23 s1 s0)
def k_Pu_putIn_164 (RF : Int32 → Int32 → St → Int32 × St) (RK : Int32 → Int32 → St → Prop) (x1 : Int32) (s0 : Int32) (s1 : Int32) (σ : St) : Prop := vp_in s1 100 ∧ (k_Pu_putIn_165 RF RK x1 (sA σ 23 s1 s0))
def f_Pu_putIn_123 (RF : Int32 → Int32 → St → Int32 × St) (x1 : Int32) (x3 : Int32) (s0 : Int32) (σ : St) : Int32 × St := f_Pu_putIn_164 RF x1 ((f_Te_make (f_Te_kindOf x1 σ) (f_Te_sortOf x1 σ) (f_Te_nameOf x1 σ) x3 s0 σ).1) x1 ((f_Te_make (f_Te_kindOf x1 σ) (f_Te_sortOf x1 σ) (f_Te_nameOf x1 σ) x3 s0 σ).2)
def k_Pu_putIn_123 (RF : Int32 → Int32 → St → Int32 × St) (RK : Int32 → Int32 → St → Prop) (x1 : Int32) (x3 : Int32) (s0 : Int32) (σ : St) : Prop := (k_Te_kindOf x1 σ) ∧ ((k_Te_sortOf x1 σ) ∧ ((k_Te_nameOf x1 σ) ∧ ((k_Te_make (f_Te_kindOf x1 σ) (f_Te_sortOf x1 σ) (f_Te_nameOf x1 σ) x3 s0 σ) ∧ (k_Pu_putIn_164 RF RK x1 ((f_Te_make (f_Te_kindOf x1 σ) (f_Te_sortOf x1 σ) (f_Te_nameOf x1 σ) x3 s0 σ).1) x1 ((f_Te_make (f_Te_kindOf x1 σ) (f_Te_sortOf x1 σ) (f_Te_nameOf x1 σ) x3 s0 σ).2)))))
def f_Pu_putIn_107 (RF : Int32 → Int32 → St → Int32 × St) (x1 : Int32) (x2 : Int32) (s0 : Int32) (σ : St) : Int32 × St := f_Pu_putIn_123 RF x1 s0 ((RF (f_Te_secondOf x1 σ) (x2 + 1) σ).1) ((RF (f_Te_secondOf x1 σ) (x2 + 1) σ).2)
def k_Pu_putIn_107 (RF : Int32 → Int32 → St → Int32 × St) (RK : Int32 → Int32 → St → Prop) (x1 : Int32) (x2 : Int32) (s0 : Int32) (σ : St) : Prop := (k_Te_secondOf x1 σ) ∧ ((RK (f_Te_secondOf x1 σ) (x2 + 1) σ) ∧ (k_Pu_putIn_123 RF RK x1 s0 ((RF (f_Te_secondOf x1 σ) (x2 + 1) σ).1) ((RF (f_Te_secondOf x1 σ) (x2 + 1) σ).2)))
def f_Pu_putIn_73 (RF : Int32 → Int32 → St → Int32 × St) (x1 : Int32) (x2 : Int32) (σ : St) : Int32 × St := if (σ.1 22 4) = 0 then (if (σ.1 23 x1.toNatClampNeg) = (-1) then (f_Pu_putIn_107 RF x1 x2 ((RF (f_Te_firstOf x1 σ) (x2 + 1) σ).1) ((RF (f_Te_firstOf x1 σ) (x2 + 1) σ).2)) else (f_Pu_putIn_165 RF x1 σ)) else (x1, σ)
def k_Pu_putIn_73 (RF : Int32 → Int32 → St → Int32 × St) (RK : Int32 → Int32 → St → Prop) (x1 : Int32) (x2 : Int32) (σ : St) : Prop := ((σ.1 22 4) = 0 → (vp_in x1 100 ∧ (((σ.1 23 x1.toNatClampNeg) = (-1) → ((k_Te_firstOf x1 σ) ∧ ((RK (f_Te_firstOf x1 σ) (x2 + 1) σ) ∧ (k_Pu_putIn_107 RF RK x1 x2 ((RF (f_Te_firstOf x1 σ) (x2 + 1) σ).1) ((RF (f_Te_firstOf x1 σ) (x2 + 1) σ).2))))) ∧ (¬ (σ.1 23 x1.toNatClampNeg) = (-1) → (k_Pu_putIn_165 RF RK x1 σ))))) ∧ (¬ (σ.1 22 4) = 0 → True)
def f_Pu_putIn_70 (RF : Int32 → Int32 → St → Int32 × St) (x1 : Int32) (x2 : Int32) (s0 : Int32) (σ : St) : Int32 × St := f_Pu_putIn_73 RF x1 x2 (sF σ 22 4 s0)
def k_Pu_putIn_70 (RF : Int32 → Int32 → St → Int32 × St) (RK : Int32 → Int32 → St → Prop) (x1 : Int32) (x2 : Int32) (s0 : Int32) (σ : St) : Prop := (narrow .boolean (.int s0) = .int s0 ∧ fits .boolean (.int s0) = true) ∧ (k_Pu_putIn_73 RF RK x1 x2 (sF σ 22 4 s0))
def f_Pu_putIn_65 (RF : Int32 → Int32 → St → Int32 × St) (x1 : Int32) (x2 : Int32) (σ : St) : Int32 × St := f_Pu_putIn_70 RF x1 x2 1 σ
def k_Pu_putIn_65 (RF : Int32 → Int32 → St → Int32 × St) (RK : Int32 → Int32 → St → Prop) (x1 : Int32) (x2 : Int32) (σ : St) : Prop := k_Pu_putIn_70 RF RK x1 x2 1 σ
def f_Pu_putIn (RF : Int32 → Int32 → St → Int32 × St) (a1 : Int32) (a2 : Int32) (σ : St) : Int32 × St := if (f_Te_isFree (σ.1 22 2) a1 σ) = 0 then (a1, σ) else (if (f_Te_kindOf a1 σ) = 1 then (σ.1 22 3, σ) else (if (σ.1 22 4) = 0 then (if (f_Pu_isCaught a1 σ) = 0 then (if 12 < a2 then (f_Pu_putIn_65 RF a1 a2 σ) else (if a1 < 100 then (f_Pu_putIn_70 RF a1 a2 0 σ) else (f_Pu_putIn_65 RF a1 a2 σ))) else (f_Pu_putIn_65 RF a1 a2 σ)) else (f_Pu_putIn_65 RF a1 a2 σ)))
def k_Pu_putIn (RF : Int32 → Int32 → St → Int32 × St) (RK : Int32 → Int32 → St → Prop) (a1 : Int32) (a2 : Int32) (σ : St) : Prop := (k_Te_isFree (σ.1 22 2) a1 σ) ∧ (((f_Te_isFree (σ.1 22 2) a1 σ) = 0 → True) ∧ (¬ (f_Te_isFree (σ.1 22 2) a1 σ) = 0 → ((k_Te_kindOf a1 σ) ∧ (((f_Te_kindOf a1 σ) = 1 → True) ∧ (¬ (f_Te_kindOf a1 σ) = 1 → (((σ.1 22 4) = 0 → ((k_Pu_isCaught a1 σ) ∧ (((f_Pu_isCaught a1 σ) = 0 → ((12 < a2 → (k_Pu_putIn_65 RF RK a1 a2 σ)) ∧ (¬ 12 < a2 → ((a1 < 100 → (k_Pu_putIn_70 RF RK a1 a2 0 σ)) ∧ (¬ a1 < 100 → (k_Pu_putIn_65 RF RK a1 a2 σ)))))) ∧ (¬ (f_Pu_isCaught a1 σ) = 0 → (k_Pu_putIn_65 RF RK a1 a2 σ))))) ∧ (¬ (σ.1 22 4) = 0 → (k_Pu_putIn_65 RF RK a1 a2 σ))))))))
set_option maxHeartbeats 4000000 in
set_option maxRecDepth 100000 in
theorem c_Pu_putIn (l : Launch) (D : va_G) (ty : Nat → ClassId) (h : Nat → Nat) (px : va_W) (sa : Nat → Nat) (d : Nat) (RF : Int32 → Int32 → St → Int32 × St) (RK : Int32 → Int32 → St → Prop) (hR : ∀ (σ : St) (sz : Nat) (b0 b1 : Int32), RK b0 b1 σ → Met l y_Pu_putIn w_Pu_putIn (rk_Pu_putIn d) (va_Pc [.ref (h 22), .int b0, .int b1] (fun U => U.heap.size = sz ∧ va_P D classes (Wc ty h σ px) U.heap ∧ va_K D classes (Ta ty) U ∧ NW U ∧ MK sa (va_A (Wc ty h σ px) sz) U U.heap ∧ va_D (fun _ => True) (Wc ty h σ px))) (va_Qi (fun r (u : St) => (r, u) = RF b0 b1 σ) (fun u t => va_P D classes (Wc ty h u px) t.heap) (va_A (Wc ty h σ px) sz)) 0 0 (va_A (Wc ty h σ px) sz)) (σ : St) (sz : Nat) (a1 : Int32) (a2 : Int32) (hk : k_Pu_putIn RF RK a1 a2 σ) : Met l y_Pu_putIn w_Pu_putIn (rm_Pu_putIn d) (va_Pc [.ref (h 22), .int a1, .int a2] (fun U => U.heap.size = sz ∧ va_P D classes (Wc ty h σ px) U.heap ∧ va_K D classes (Ta ty) U ∧ NW U ∧ MK sa (va_A (Wc ty h σ px) sz) U U.heap ∧ va_D (fun _ => True) (Wc ty h σ px))) (va_Qi (fun r (u : St) => (r, u) = f_Pu_putIn RF a1 a2 σ) (fun u t => va_P D classes (Wc ty h u px) t.heap) (va_A (Wc ty h σ px) sz)) 0 0 (va_A (Wc ty h σ px) sz) := by
  refine Met.ofW (cc := b_Pu_putIn) (maxL := 5) (ret := (some .int)) (by decide) rfl ?_
  intro p e s m args below meth c s₁ B hml hv
  obtain ⟨ha, hsz, hP, hK, hN, hM, hD0⟩ := hv
  have hx := B.exec
  have hb := B.bytes
  have hr := B.returns
  have hg : ∀ w ∈ gw, w.before args s = true := fun w h9 => atoms_spec (ws := w_Pu_putIn) B.pre w (List.mem_cons_of_mem _ h9)
  have hown : s.vm.findClass "ClauseLedger$Putting" = some m.cls := findClass_of_methodNamed B.named
  have hlocks := B.notSynchronized
  subst hsz
  have hD := hD0.self (sz := s.heap.size)
  generalize hAe : va_A (Wc ty h σ px) s.heap.size = A at hD hM ⊢
  have hA : ∀ q : Nat, s.heap.size ≤ q → A q := fun q h9 => by rw [← hAe]; exact Or.inr h9
  have hS : va_S A s.heap s.heap [] := va_S.rf
  have he : entryFrame m args 5 = entryFrame m ([.ref (h 22), .int a1, .int a2] : List Value).toArray 5 := by rw [ha]
  rw [he, lg_entry_eq]
  have hl := lv_entry ([.ref (h 22), .int a1, .int a2]) (n := 5) (Nat.le_of_ble_eq_true rfl)
  generalize (lg_sl ([.ref (h 22), .int a1, .int a2]) ++ List.replicate (5 - (lg_sl ([.ref (h 22), .int a1, .int a2])).length) Slot.unset).toArray = ls at hl ⊢
  have hl : lv_has ls 5 [(0, .ref (h 22)), (1, .int a1), (2, .int a2)] := hl
  generalize hv : f_Pu_putIn RF a1 a2 σ = v
  replace hv := hv.symm
  have B165 : ∀ (H : Heap) (locs : List Loc) (ls : Array Slot) (x1 : Int32) (σ : St), v = f_Pu_putIn_165 RF x1 σ → k_Pu_putIn_165 RF RK x1 σ → lv_has ls 5 [(0, .ref (h 22)), (1, .int x1)] → va_P D classes (Wc ty h σ px) H → va_D A (Wc ty h σ px) → va_S A s.heap H locs → W p l e (headSpec w_Pu_putIn (rm_Pu_putIn d)).room s m args below meth c H locs 0 0 (MQ below (va_Qi (fun r (u : St) => (r, u) = v) (fun u t => va_P D classes (Wc ty h u px) t.heap) A) args s 0 0 A) (F0 m 165 ls []) := by
    intro H locs ls x1 σ hv hk hl hP hD hS
    unfold f_Pu_putIn_165 at hv
    unfold k_Pu_putIn_165 at hk
    refine lv_aload_n hx hb d_Pu_putIn_165 rfl (lv_at hl 0 rfl) ?_
    refine va_get (v := .ref (h 23)) (C := R_Pu) (T := T_Pu) (N := 5) hx hb hg in_Pu hown hK hP 22 rfl rfl 1 (by decide) (hg _ m_163) (fun _ h9 => h9) rfl d_Pu_putIn_166 ?_
    refine lv_iload_n hx hb d_Pu_putIn_169 rfl (lv_at hl 1 rfl) ?_
    obtain ⟨hk0, hk⟩ := hk
    refine va_iald hx hb hK hP 23 0 rfl rfl hk0 d_Pu_putIn_170 ?_
    exact W.iret hx hb hr (fun t ht hW => ⟨⟨_, _, rfl, hv.symm, by dsimp only; rw [ht]; exact hP⟩, hS.F ht⟩) hS.2.2 d_Pu_putIn_171
  have B164 : ∀ (H : Heap) (locs : List Loc) (ls : Array Slot) (x1 : Int32) (s0 : Int32) (s1 : Int32) (σ : St), v = f_Pu_putIn_164 RF x1 s0 s1 σ → k_Pu_putIn_164 RF RK x1 s0 s1 σ → lv_has ls 5 [(0, .ref (h 22)), (1, .int x1)] → va_P D classes (Wc ty h σ px) H → va_D A (Wc ty h σ px) → va_S A s.heap H locs → W p l e (headSpec w_Pu_putIn (rm_Pu_putIn d)).room s m args below meth c H locs 0 0 (MQ below (va_Qi (fun r (u : St) => (r, u) = v) (fun u t => va_P D classes (Wc ty h u px) t.heap) A) args s 0 0 A) (F0 m 164 ls [.int s0, .int s1, .ref (h 23)]) := by
    intro H locs ls x1 s0 s1 σ hv hk hl hP hD hS
    unfold f_Pu_putIn_164 at hv
    unfold k_Pu_putIn_164 at hk
    obtain ⟨hk0, hk⟩ := hk
    refine va_iast hx hb hK hP hD hS 23 0 rfl rfl hk0 d_Pu_putIn_164 (fun H locs hP hD hS => ?_)
    have hP : va_P D classes (Wc ty h (sA σ 23 s1 s0) px) H := hP
    have hD : va_D A (Wc ty h (sA σ 23 s1 s0) px) := hD
    exact B165 _ _ _ x1 (sA σ 23 s1 s0) hv hk (lv_sub hl [0, 1] rfl) hP hD hS
  have B123 : ∀ (H : Heap) (locs : List Loc) (ls : Array Slot) (x1 : Int32) (x3 : Int32) (s0 : Int32) (σ : St), v = f_Pu_putIn_123 RF x1 x3 s0 σ → k_Pu_putIn_123 RF RK x1 x3 s0 σ → lv_has ls 5 [(0, .ref (h 22)), (1, .int x1), (3, .int x3)] → va_P D classes (Wc ty h σ px) H → va_D A (Wc ty h σ px) → va_S A s.heap H locs → W p l e (headSpec w_Pu_putIn (rm_Pu_putIn d)).room s m args below meth c H locs 0 0 (MQ below (va_Qi (fun r (u : St) => (r, u) = v) (fun u t => va_P D classes (Wc ty h u px) t.heap) A) args s 0 0 A) (F0 m 123 ls [.int s0]) := by
    intro H locs ls x1 x3 s0 σ hv hk hl hP hD hS
    unfold f_Pu_putIn_123 at hv
    unfold k_Pu_putIn_123 at hk
    refine lv_istore (lv' := [(4, .int s0), (0, .ref (h 22)), (1, .int x1), (3, .int x3)]) hx hb d_Pu_putIn_123 hl (by decide) rfl (fun ls hl => ?_)
    refine lv_aload_n hx hb d_Pu_putIn_125 rfl (lv_at hl 1 rfl) ?_
    refine va_get (v := .ref (h 23)) (C := R_Pu) (T := T_Pu) (N := 5) hx hb hg in_Pu hown hK hP 22 rfl rfl 1 (by decide) (hg _ m_163) (fun _ h9 => h9) rfl d_Pu_putIn_126 ?_
    refine lv_iload_n hx hb d_Pu_putIn_129 rfl (lv_at hl 2 rfl) ?_
    refine lv_aload_n hx hb d_Pu_putIn_130 rfl (lv_at hl 1 rfl) ?_
    refine va_get (v := .ref (h 6)) (C := R_Pu) (T := T_Pu) (N := 5) hx hb hg in_Pu hown hK hP 22 rfl rfl 0 (by decide) (hg _ m_162) (fun _ h9 => h9) rfl d_Pu_putIn_131 ?_
    refine lv_aload_n hx hb d_Pu_putIn_134 rfl (lv_at hl 1 rfl) ?_
    refine va_get (v := .ref (h 6)) (C := R_Pu) (T := T_Pu) (N := 5) hx hb hg in_Pu hown hK hP 22 rfl rfl 0 (by decide) (hg _ m_162) (fun _ h9 => h9) rfl d_Pu_putIn_135 ?_
    refine lv_iload_n hx hb d_Pu_putIn_138 rfl (lv_at hl 2 rfl) ?_
    obtain ⟨hk0, hk⟩ := hk
    refine zz_callV (va_runV (As := [.int x1]) (rest := [.ref (h 6), .int x1, .ref (h 23)]) ⟨hx, hb, hml, hown, hg⟩ (c_Te_kindOf l D ty h px sa σ x1 hk0) ⟨callB_of 1 hg (gw_C m_434) rfl rfl rfl (hg _ m_3) (hg _ m_1195) hd_Te_kindOf ⟨(by simp only [headSpec, rm_Pu_putIn, rm_Te_kindOf]; omega), (by simp only [headSpec, rm_Pu_putIn, rm_Te_kindOf]; omega)⟩, hg _ m_432, hg _ m_433⟩ (zz_preV (hM.at hS) hN hK hP 6 rfl rfl) rfl rfl hl.1 rfl (lv_room (Nat.le_of_ble_eq_true rfl)) d_Pu_putIn_139 ⟨Nat.le_of_ble_eq_true rfl, Nat.le_of_ble_eq_true rfl⟩) ?_
    refine lv_aload_n hx hb d_Pu_putIn_142 rfl (lv_at hl 1 rfl) ?_
    refine va_get (v := .ref (h 6)) (C := R_Pu) (T := T_Pu) (N := 5) hx hb hg in_Pu hown hK hP 22 rfl rfl 0 (by decide) (hg _ m_162) (fun _ h9 => h9) rfl d_Pu_putIn_143 ?_
    refine lv_iload_n hx hb d_Pu_putIn_146 rfl (lv_at hl 2 rfl) ?_
    obtain ⟨hk0, hk⟩ := hk
    refine zz_callV (va_runV (As := [.int x1]) (rest := [.int (f_Te_kindOf x1 σ), .ref (h 6), .int x1, .ref (h 23)]) ⟨hx, hb, hml, hown, hg⟩ (c_Te_sortOf l D ty h px sa σ x1 hk0) ⟨callB_of 1 hg (gw_C m_439) rfl rfl rfl (hg _ m_3) (hg _ m_1203) hd_Te_sortOf ⟨(by simp only [headSpec, rm_Pu_putIn, rm_Te_sortOf]; omega), (by simp only [headSpec, rm_Pu_putIn, rm_Te_sortOf]; omega)⟩, hg _ m_437, hg _ m_438⟩ (zz_preV (hM.at hS) hN hK hP 6 rfl rfl) rfl rfl hl.1 rfl (lv_room (Nat.le_of_ble_eq_true rfl)) d_Pu_putIn_147 ⟨Nat.le_of_ble_eq_true rfl, Nat.le_of_ble_eq_true rfl⟩) ?_
    refine lv_aload_n hx hb d_Pu_putIn_150 rfl (lv_at hl 1 rfl) ?_
    refine va_get (v := .ref (h 6)) (C := R_Pu) (T := T_Pu) (N := 5) hx hb hg in_Pu hown hK hP 22 rfl rfl 0 (by decide) (hg _ m_162) (fun _ h9 => h9) rfl d_Pu_putIn_151 ?_
    refine lv_iload_n hx hb d_Pu_putIn_154 rfl (lv_at hl 2 rfl) ?_
    obtain ⟨hk0, hk⟩ := hk
    refine zz_callV (va_runV (As := [.int x1]) (rest := [.int (f_Te_sortOf x1 σ), .int (f_Te_kindOf x1 σ), .ref (h 6), .int x1, .ref (h 23)]) ⟨hx, hb, hml, hown, hg⟩ (c_Te_nameOf l D ty h px sa σ x1 hk0) ⟨callB_of 1 hg (gw_C m_455) rfl rfl rfl (hg _ m_3) (hg _ m_1200) hd_Te_nameOf ⟨(by simp only [headSpec, rm_Pu_putIn, rm_Te_nameOf]; omega), (by simp only [headSpec, rm_Pu_putIn, rm_Te_nameOf]; omega)⟩, hg _ m_453, hg _ m_454⟩ (zz_preV (hM.at hS) hN hK hP 6 rfl rfl) rfl rfl hl.1 rfl (lv_room (Nat.le_of_ble_eq_true rfl)) d_Pu_putIn_155 ⟨Nat.le_of_ble_eq_true rfl, Nat.le_of_ble_eq_true rfl⟩) ?_
    refine lv_iload_n hx hb d_Pu_putIn_158 rfl (lv_at hl 3 rfl) ?_
    refine lv_iload hx hb d_Pu_putIn_159 (lv_at hl 0 rfl) ?_
    obtain ⟨hk0, hk⟩ := hk
    refine va_calli (va_runV (As := [.int (f_Te_kindOf x1 σ), .int (f_Te_sortOf x1 σ), .int (f_Te_nameOf x1 σ), .int x3, .int s0]) (rest := [.int x1, .ref (h 23)]) ⟨hx, hb, hml, hown, hg⟩ (c_Te_make l D ty h px sa σ H.size (f_Te_kindOf x1 σ) (f_Te_sortOf x1 σ) (f_Te_nameOf x1 σ) x3 s0 hk0) ⟨callB_of 5 hg (gw_C m_620) rfl rfl rfl (hg _ m_3) (hg _ m_1204) hd_Te_make ⟨(by simp only [headSpec, rm_Pu_putIn, rm_Te_make]; omega), (by simp only [headSpec, rm_Pu_putIn, rm_Te_make]; omega)⟩, hg _ m_618, hg _ m_619⟩ (zz_preVW hM hS hA hN hK hP hD 6 rfl rfl) rfl rfl hl.1 rfl (lv_room (Nat.le_of_ble_eq_true rfl)) d_Pu_putIn_161 ⟨Nat.le_of_ble_eq_true rfl, Nat.le_of_ble_eq_true rfl⟩) hS (fun q _ h => zz_free hD hS hA q h) (zz_free hD hS hA) (fun r161 u161 t H locs ht hvm hp hP1 hz hk1 hS => ?_)
    rw [ht] at hP1
    rw [← hp] at hv hk
    have hD : va_D A (Wc ty h u161 px) := zz_D hD rfl
    have hP := hP1
    exact B164 _ _ _ x1 r161 x1 u161 hv hk (lv_sub hl [1, 2] rfl) hP hD hS
  have B107 : ∀ (H : Heap) (locs : List Loc) (ls : Array Slot) (x1 : Int32) (x2 : Int32) (s0 : Int32) (σ : St), v = f_Pu_putIn_107 RF x1 x2 s0 σ → k_Pu_putIn_107 RF RK x1 x2 s0 σ → lv_has ls 5 [(0, .ref (h 22)), (1, .int x1), (2, .int x2)] → va_P D classes (Wc ty h σ px) H → va_D A (Wc ty h σ px) → va_S A s.heap H locs → W p l e (headSpec w_Pu_putIn (rm_Pu_putIn d)).room s m args below meth c H locs 0 0 (MQ below (va_Qi (fun r (u : St) => (r, u) = v) (fun u t => va_P D classes (Wc ty h u px) t.heap) A) args s 0 0 A) (F0 m 107 ls [.int s0]) := by
    intro H locs ls x1 x2 s0 σ hv hk hl hP hD hS
    unfold f_Pu_putIn_107 at hv
    unfold k_Pu_putIn_107 at hk
    refine lv_istore_n (lv' := [(3, .int s0), (0, .ref (h 22)), (1, .int x1), (2, .int x2)]) hx hb d_Pu_putIn_107 rfl hl (by decide) rfl (fun ls hl => ?_)
    refine lv_aload_n hx hb d_Pu_putIn_108 rfl (lv_at hl 1 rfl) ?_
    refine lv_aload_n hx hb d_Pu_putIn_109 rfl (lv_at hl 1 rfl) ?_
    refine va_get (v := .ref (h 6)) (C := R_Pu) (T := T_Pu) (N := 5) hx hb hg in_Pu hown hK hP 22 rfl rfl 0 (by decide) (hg _ m_162) (fun _ h9 => h9) rfl d_Pu_putIn_110 ?_
    refine lv_iload_n hx hb d_Pu_putIn_113 rfl (lv_at hl 2 rfl) ?_
    obtain ⟨hk0, hk⟩ := hk
    refine zz_callV (va_runV (As := [.int x1]) (rest := [.ref (h 22)]) ⟨hx, hb, hml, hown, hg⟩ (c_Te_secondOf l D ty h px sa σ x1 hk0) ⟨callB_of 1 hg (gw_C m_451) rfl rfl rfl (hg _ m_3) (hg _ m_1202) hd_Te_secondOf ⟨(by simp only [headSpec, rm_Pu_putIn, rm_Te_secondOf]; omega), (by simp only [headSpec, rm_Pu_putIn, rm_Te_secondOf]; omega)⟩, hg _ m_449, hg _ m_450⟩ (zz_preV (hM.at hS) hN hK hP 6 rfl rfl) rfl rfl hl.1 rfl (lv_room (Nat.le_of_ble_eq_true rfl)) d_Pu_putIn_114 ⟨Nat.le_of_ble_eq_true rfl, Nat.le_of_ble_eq_true rfl⟩) ?_
    refine lv_iload_n hx hb d_Pu_putIn_117 rfl (lv_at hl 3 rfl) ?_
    refine lv_iconst (v := 1) hx hb d_Pu_putIn_118 (by decide) ?_
    refine lv_iadd hx hb d_Pu_putIn_119 ?_
    obtain ⟨hk0, hk⟩ := hk
    refine va_calli (va_runV (As := [.int (f_Te_secondOf x1 σ), .int (x2 + 1)]) (rest := []) ⟨hx, hb, hml, hown, hg⟩ (hR σ H.size (f_Te_secondOf x1 σ) (x2 + 1) hk0) ⟨callB_of 2 hg (gw_C m_1190) rfl rfl rfl (hg _ m_7) (hg _ m_1187) hd_Pu_putIn ⟨(by simp only [headSpec, rm_Pu_putIn, rk_Pu_putIn]; omega), (by simp only [headSpec, rm_Pu_putIn, rk_Pu_putIn]; omega)⟩, hg _ m_1189, hg _ ms_46⟩ (zz_preVW hM hS hA hN hK hP hD 22 rfl rfl) rfl rfl hl.1 rfl (lv_room (Nat.le_of_ble_eq_true rfl)) d_Pu_putIn_120 ⟨Nat.le_of_ble_eq_true rfl, Nat.le_of_ble_eq_true rfl⟩) hS (fun q _ h => zz_free hD hS hA q h) (zz_free hD hS hA) (fun r120 u120 t H locs ht hvm hp hP1 hz hk1 hS => ?_)
    rw [ht] at hP1
    rw [← hp] at hv hk
    have hD : va_D A (Wc ty h u120 px) := zz_D hD rfl
    have hP := hP1
    exact B123 _ _ _ x1 s0 r120 u120 hv hk (lv_sub hl [1, 2, 0] rfl) hP hD hS
  have B73 : ∀ (H : Heap) (locs : List Loc) (ls : Array Slot) (x1 : Int32) (x2 : Int32) (σ : St), v = f_Pu_putIn_73 RF x1 x2 σ → k_Pu_putIn_73 RF RK x1 x2 σ → lv_has ls 5 [(0, .ref (h 22)), (1, .int x1), (2, .int x2)] → va_P D classes (Wc ty h σ px) H → va_D A (Wc ty h σ px) → va_S A s.heap H locs → W p l e (headSpec w_Pu_putIn (rm_Pu_putIn d)).room s m args below meth c H locs 0 0 (MQ below (va_Qi (fun r (u : St) => (r, u) = v) (fun u t => va_P D classes (Wc ty h u px) t.heap) A) args s 0 0 A) (F0 m 73 ls []) := by
    intro H locs ls x1 x2 σ hv hk hl hP hD hS
    unfold f_Pu_putIn_73 at hv
    unfold k_Pu_putIn_73 at hk
    refine lv_aload_n hx hb d_Pu_putIn_73 rfl (lv_at hl 0 rfl) ?_
    refine va_get (v := .int (σ.1 22 4)) (C := R_Pu) (T := T_Pu) (N := 5) hx hb hg in_Pu hown hK hP 22 rfl rfl 4 (by decide) (hg _ m_166) (fun _ h9 => h9) rfl d_Pu_putIn_74 ?_
    refine lv_if_eq (tgt := 82) hx hb d_Pu_putIn_77 (by decide) (fun hc => ?_) (fun hc => ?_)
    · have hv := hv.trans (if_pos hc)
      have hk := hk.1 hc
      refine lv_aload_n hx hb d_Pu_putIn_82 rfl (lv_at hl 0 rfl) ?_
      refine va_get (v := .ref (h 23)) (C := R_Pu) (T := T_Pu) (N := 5) hx hb hg in_Pu hown hK hP 22 rfl rfl 1 (by decide) (hg _ m_163) (fun _ h9 => h9) rfl d_Pu_putIn_83 ?_
      refine lv_iload_n hx hb d_Pu_putIn_86 rfl (lv_at hl 1 rfl) ?_
      obtain ⟨hk0, hk⟩ := hk
      refine va_iald hx hb hK hP 23 0 rfl rfl hk0 d_Pu_putIn_87 ?_
      refine lv_iconst (v := -1) hx hb d_Pu_putIn_88 (by decide) ?_
      refine lv_icmp_ne (tgt := 165) hx hb d_Pu_putIn_89 (by decide) (fun hc => ?_) (fun hc => ?_)
      · have hv := hv.trans (if_neg hc)
        have hk := hk.2 hc
        exact B165 _ _ _ x1 σ hv hk (lv_sub hl [0, 1] rfl) hP hD hS
      · have hv := hv.trans (if_pos hc)
        have hk := hk.1 hc
        refine lv_aload_n hx hb d_Pu_putIn_92 rfl (lv_at hl 0 rfl) ?_
        refine lv_aload_n hx hb d_Pu_putIn_93 rfl (lv_at hl 0 rfl) ?_
        refine va_get (v := .ref (h 6)) (C := R_Pu) (T := T_Pu) (N := 5) hx hb hg in_Pu hown hK hP 22 rfl rfl 0 (by decide) (hg _ m_162) (fun _ h9 => h9) rfl d_Pu_putIn_94 ?_
        refine lv_iload_n hx hb d_Pu_putIn_97 rfl (lv_at hl 1 rfl) ?_
        obtain ⟨hk0, hk⟩ := hk
        refine zz_callV (va_runV (As := [.int x1]) (rest := [.ref (h 22)]) ⟨hx, hb, hml, hown, hg⟩ (c_Te_firstOf l D ty h px sa σ x1 hk0) ⟨callB_of 1 hg (gw_C m_447) rfl rfl rfl (hg _ m_3) (hg _ m_1201) hd_Te_firstOf ⟨(by simp only [headSpec, rm_Pu_putIn, rm_Te_firstOf]; omega), (by simp only [headSpec, rm_Pu_putIn, rm_Te_firstOf]; omega)⟩, hg _ m_445, hg _ m_446⟩ (zz_preV (hM.at hS) hN hK hP 6 rfl rfl) rfl rfl hl.1 rfl (lv_room (Nat.le_of_ble_eq_true rfl)) d_Pu_putIn_98 ⟨Nat.le_of_ble_eq_true rfl, Nat.le_of_ble_eq_true rfl⟩) ?_
        refine lv_iload_n hx hb d_Pu_putIn_101 rfl (lv_at hl 2 rfl) ?_
        refine lv_iconst (v := 1) hx hb d_Pu_putIn_102 (by decide) ?_
        refine lv_iadd hx hb d_Pu_putIn_103 ?_
        obtain ⟨hk0, hk⟩ := hk
        refine va_calli (va_runV (As := [.int (f_Te_firstOf x1 σ), .int (x2 + 1)]) (rest := []) ⟨hx, hb, hml, hown, hg⟩ (hR σ H.size (f_Te_firstOf x1 σ) (x2 + 1) hk0) ⟨callB_of 2 hg (gw_C m_1190) rfl rfl rfl (hg _ m_7) (hg _ m_1187) hd_Pu_putIn ⟨(by simp only [headSpec, rm_Pu_putIn, rk_Pu_putIn]; omega), (by simp only [headSpec, rm_Pu_putIn, rk_Pu_putIn]; omega)⟩, hg _ m_1189, hg _ ms_46⟩ (zz_preVW hM hS hA hN hK hP hD 22 rfl rfl) rfl rfl hl.1 rfl (lv_room (Nat.le_of_ble_eq_true rfl)) d_Pu_putIn_104 ⟨Nat.le_of_ble_eq_true rfl, Nat.le_of_ble_eq_true rfl⟩) hS (fun q _ h => zz_free hD hS hA q h) (zz_free hD hS hA) (fun r104 u104 t H locs ht hvm hp hP1 hz hk1 hS => ?_)
        rw [ht] at hP1
        rw [← hp] at hv hk
        have hD : va_D A (Wc ty h u104 px) := zz_D hD rfl
        have hP := hP1
        exact B107 _ _ _ x1 x2 r104 u104 hv hk (lv_sub hl [0, 1, 2] rfl) hP hD hS
    · have hv := hv.trans (if_neg hc)
      have hk := hk.2 hc
      refine lv_iload_n hx hb d_Pu_putIn_80 rfl (lv_at hl 1 rfl) ?_
      exact W.iret hx hb hr (fun t ht hW => ⟨⟨_, _, rfl, hv.symm, by dsimp only; rw [ht]; exact hP⟩, hS.F ht⟩) hS.2.2 d_Pu_putIn_81
  have B70 : ∀ (H : Heap) (locs : List Loc) (ls : Array Slot) (x1 : Int32) (x2 : Int32) (s0 : Int32) (σ : St), v = f_Pu_putIn_70 RF x1 x2 s0 σ → k_Pu_putIn_70 RF RK x1 x2 s0 σ → lv_has ls 5 [(0, .ref (h 22)), (1, .int x1), (2, .int x2)] → va_P D classes (Wc ty h σ px) H → va_D A (Wc ty h σ px) → va_S A s.heap H locs → W p l e (headSpec w_Pu_putIn (rm_Pu_putIn d)).room s m args below meth c H locs 0 0 (MQ below (va_Qi (fun r (u : St) => (r, u) = v) (fun u t => va_P D classes (Wc ty h u px) t.heap) A) args s 0 0 A) (F0 m 70 ls [.int s0, .ref (h 22)]) := by
    intro H locs ls x1 x2 s0 σ hv hk hl hP hD hS
    unfold f_Pu_putIn_70 at hv
    unfold k_Pu_putIn_70 at hk
    obtain ⟨hk0, hk⟩ := hk
    refine va_put (v := .int s0) (ty := .boolean) (C := R_Pu) (T := T_Pu) (N := 5) hx hb hg in_Pu ty_Pu ok_Pu nm_Pu hown hK hP hD hS 22 rfl rfl 4 (by decide) (hg _ m_166) (fun _ h9 => h9) rfl (by decide +kernel) hk0.1 hk0.2 (Nat.le_of_ble_eq_true rfl) d_Pu_putIn_70 (fun H locs hP hD hS => ?_)
    have hP : va_P D classes (Wc ty h (sF σ 22 4 s0) px) H := hP
    have hD : va_D A (Wc ty h (sF σ 22 4 s0) px) := hD
    exact B73 _ _ _ x1 x2 (sF σ 22 4 s0) hv hk (lv_sub hl [0, 1, 2] rfl) hP hD hS
  have B65 : ∀ (H : Heap) (locs : List Loc) (ls : Array Slot) (x1 : Int32) (x2 : Int32) (σ : St), v = f_Pu_putIn_65 RF x1 x2 σ → k_Pu_putIn_65 RF RK x1 x2 σ → lv_has ls 5 [(0, .ref (h 22)), (1, .int x1), (2, .int x2)] → va_P D classes (Wc ty h σ px) H → va_D A (Wc ty h σ px) → va_S A s.heap H locs → W p l e (headSpec w_Pu_putIn (rm_Pu_putIn d)).room s m args below meth c H locs 0 0 (MQ below (va_Qi (fun r (u : St) => (r, u) = v) (fun u t => va_P D classes (Wc ty h u px) t.heap) A) args s 0 0 A) (F0 m 65 ls [.ref (h 22)]) := by
    intro H locs ls x1 x2 σ hv hk hl hP hD hS
    unfold f_Pu_putIn_65 at hv
    unfold k_Pu_putIn_65 at hk
    refine lv_iconst (v := 1) hx hb d_Pu_putIn_65 (by decide) ?_
    refine lv_goto (tgt := 70) hx hb d_Pu_putIn_66 (by decide) ?_
    exact B70 _ _ _ x1 x2 1 σ hv hk (lv_sub hl [0, 1, 2] rfl) hP hD hS
  unfold f_Pu_putIn at hv
  unfold k_Pu_putIn at hk
  refine lv_aload_n hx hb d_Pu_putIn_0 rfl (lv_at hl 0 rfl) ?_
  refine va_get (v := .ref (h 6)) (C := R_Pu) (T := T_Pu) (N := 5) hx hb hg in_Pu hown hK hP 22 rfl rfl 0 (by decide) (hg _ m_162) (fun _ h9 => h9) rfl d_Pu_putIn_1 ?_
  refine lv_aload_n hx hb d_Pu_putIn_4 rfl (lv_at hl 0 rfl) ?_
  refine va_get (v := .int (σ.1 22 2)) (C := R_Pu) (T := T_Pu) (N := 5) hx hb hg in_Pu hown hK hP 22 rfl rfl 2 (by decide) (hg _ m_164) (fun _ h9 => h9) rfl d_Pu_putIn_5 ?_
  refine lv_iload_n hx hb d_Pu_putIn_8 rfl (lv_at hl 1 rfl) ?_
  obtain ⟨hk0, hk⟩ := hk
  refine zz_callV (va_runV (As := [.int (σ.1 22 2), .int a1]) (rest := []) ⟨hx, hb, hml, hown, hg⟩ (c_Te_isFree l D ty h px sa σ (σ.1 22 2) a1 hk0) ⟨callB_of 2 hg (gw_C m_1194) rfl rfl rfl (hg _ m_3) (hg _ m_1191) hd_Te_isFree ⟨(by simp only [headSpec, rm_Pu_putIn, rm_Te_isFree]; omega), (by simp only [headSpec, rm_Pu_putIn, rm_Te_isFree]; omega)⟩, hg _ m_1192, hg _ m_1193⟩ (zz_preV (hM.at hS) hN hK hP 6 rfl rfl) rfl rfl hl.1 rfl (lv_room (Nat.le_of_ble_eq_true rfl)) d_Pu_putIn_9 ⟨Nat.le_of_ble_eq_true rfl, Nat.le_of_ble_eq_true rfl⟩) ?_
  refine lv_if_ne (tgt := 17) hx hb d_Pu_putIn_12 (by decide) (fun hc => ?_) (fun hc => ?_)
  · have hv := hv.trans (if_neg hc)
    have hk := hk.2 hc
    refine lv_aload_n hx hb d_Pu_putIn_17 rfl (lv_at hl 0 rfl) ?_
    refine va_get (v := .ref (h 6)) (C := R_Pu) (T := T_Pu) (N := 5) hx hb hg in_Pu hown hK hP 22 rfl rfl 0 (by decide) (hg _ m_162) (fun _ h9 => h9) rfl d_Pu_putIn_18 ?_
    refine lv_iload_n hx hb d_Pu_putIn_21 rfl (lv_at hl 1 rfl) ?_
    obtain ⟨hk0, hk⟩ := hk
    refine zz_callV (va_runV (As := [.int a1]) (rest := []) ⟨hx, hb, hml, hown, hg⟩ (c_Te_kindOf l D ty h px sa σ a1 hk0) ⟨callB_of 1 hg (gw_C m_434) rfl rfl rfl (hg _ m_3) (hg _ m_1195) hd_Te_kindOf ⟨(by simp only [headSpec, rm_Pu_putIn, rm_Te_kindOf]; omega), (by simp only [headSpec, rm_Pu_putIn, rm_Te_kindOf]; omega)⟩, hg _ m_432, hg _ m_433⟩ (zz_preV (hM.at hS) hN hK hP 6 rfl rfl) rfl rfl hl.1 rfl (lv_room (Nat.le_of_ble_eq_true rfl)) d_Pu_putIn_22 ⟨Nat.le_of_ble_eq_true rfl, Nat.le_of_ble_eq_true rfl⟩) ?_
    refine lv_iconst (v := 1) hx hb d_Pu_putIn_25 (by decide) ?_
    refine lv_icmp_ne (tgt := 34) hx hb d_Pu_putIn_26 (by decide) (fun hc => ?_) (fun hc => ?_)
    · have hv := hv.trans (if_neg hc)
      have hk := hk.2 hc
      refine lv_aload_n hx hb d_Pu_putIn_34 rfl (lv_at hl 0 rfl) ?_
      refine lv_aload_n hx hb d_Pu_putIn_35 rfl (lv_at hl 0 rfl) ?_
      refine va_get (v := .int (σ.1 22 4)) (C := R_Pu) (T := T_Pu) (N := 5) hx hb hg in_Pu hown hK hP 22 rfl rfl 4 (by decide) (hg _ m_166) (fun _ h9 => h9) rfl d_Pu_putIn_36 ?_
      refine lv_if_ne (tgt := 65) hx hb d_Pu_putIn_39 (by decide) (fun hc => ?_) (fun hc => ?_)
      · have hv := hv.trans (if_neg hc)
        have hk := hk.2 hc
        exact B65 _ _ _ a1 a2 σ hv hk (lv_sub hl [0, 1, 2] rfl) hP hD hS
      · have hv := hv.trans (if_pos hc)
        have hk := hk.1 hc
        refine lv_aload_n hx hb d_Pu_putIn_42 rfl (lv_at hl 0 rfl) ?_
        refine lv_iload_n hx hb d_Pu_putIn_43 rfl (lv_at hl 1 rfl) ?_
        obtain ⟨hk0, hk⟩ := hk
        refine zz_callV (va_runV (As := [.int a1]) (rest := [.ref (h 22)]) ⟨hx, hb, hml, hown, hg⟩ (c_Pu_isCaught l D ty h px sa σ a1 hk0) ⟨callB_of 1 hg (gw_C m_1199) rfl rfl rfl (hg _ m_7) (hg _ m_1196) hd_Pu_isCaught ⟨(by simp only [headSpec, rm_Pu_putIn, rm_Pu_isCaught]; omega), (by simp only [headSpec, rm_Pu_putIn, rm_Pu_isCaught]; omega)⟩, hg _ m_1198, hg _ ms_47⟩ (zz_preV (hM.at hS) hN hK hP 22 rfl rfl) rfl rfl hl.1 rfl (lv_room (Nat.le_of_ble_eq_true rfl)) d_Pu_putIn_44 ⟨Nat.le_of_ble_eq_true rfl, Nat.le_of_ble_eq_true rfl⟩) ?_
        refine lv_if_ne (tgt := 65) hx hb d_Pu_putIn_47 (by decide) (fun hc => ?_) (fun hc => ?_)
        · have hv := hv.trans (if_neg hc)
          have hk := hk.2 hc
          exact B65 _ _ _ a1 a2 σ hv hk (lv_sub hl [0, 1, 2] rfl) hP hD hS
        · have hv := hv.trans (if_pos hc)
          have hk := hk.1 hc
          refine lv_iload_n hx hb d_Pu_putIn_50 rfl (lv_at hl 2 rfl) ?_
          refine lv_bipush (v := 12) hx hb d_Pu_putIn_51 (by decide) ?_
          refine lv_icmp_gt (tgt := 65) hx hb d_Pu_putIn_53 (by decide) (fun hc => ?_) (fun hc => ?_)
          · have hv := hv.trans (if_pos hc)
            have hk := hk.1 hc
            exact B65 _ _ _ a1 a2 σ hv hk (lv_sub hl [0, 1, 2] rfl) hP hD hS
          · have hv := hv.trans (if_neg hc)
            have hk := hk.2 hc
            refine lv_iload_n hx hb d_Pu_putIn_56 rfl (lv_at hl 1 rfl) ?_
            refine lv_aload_n hx hb d_Pu_putIn_57 rfl (lv_at hl 0 rfl) ?_
            refine va_get (v := .ref (h 23)) (C := R_Pu) (T := T_Pu) (N := 5) hx hb hg in_Pu hown hK hP 22 rfl rfl 1 (by decide) (hg _ m_163) (fun _ h9 => h9) rfl d_Pu_putIn_58 ?_
            refine va_alen (v := 100) hx hb hK hP 23 0 rfl rfl rfl d_Pu_putIn_61 ?_
            refine lv_icmp_lt (tgt := 69) hx hb d_Pu_putIn_62 (by decide) (fun hc => ?_) (fun hc => ?_)
            · have hv := hv.trans (if_pos hc)
              have hk := hk.1 hc
              refine lv_iconst (v := 0) hx hb d_Pu_putIn_69 (by decide) ?_
              exact B70 _ _ _ a1 a2 0 σ hv hk (lv_sub hl [0, 1, 2] rfl) hP hD hS
            · have hv := hv.trans (if_neg hc)
              have hk := hk.2 hc
              exact B65 _ _ _ a1 a2 σ hv hk (lv_sub hl [0, 1, 2] rfl) hP hD hS
    · have hv := hv.trans (if_pos hc)
      have hk := hk.1 hc
      refine lv_aload_n hx hb d_Pu_putIn_29 rfl (lv_at hl 0 rfl) ?_
      refine va_get (v := .int (σ.1 22 3)) (C := R_Pu) (T := T_Pu) (N := 5) hx hb hg in_Pu hown hK hP 22 rfl rfl 3 (by decide) (hg _ m_165) (fun _ h9 => h9) rfl d_Pu_putIn_30 ?_
      exact W.iret hx hb hr (fun t ht hW => ⟨⟨_, _, rfl, hv.symm, by dsimp only; rw [ht]; exact hP⟩, hS.F ht⟩) hS.2.2 d_Pu_putIn_33
  · have hv := hv.trans (if_pos hc)
    have hk := hk.1 hc
    refine lv_iload_n hx hb d_Pu_putIn_15 rfl (lv_at hl 1 rfl) ?_
    exact W.iret hx hb hr (fun t ht hW => ⟨⟨_, _, rfl, hv.symm, by dsimp only; rw [ht]; exact hP⟩, hS.F ht⟩) hS.2.2 d_Pu_putIn_16

def F_Pu_putIn : Nat → Int32 → Int32 → St → Int32 × St
  | 0, _, _, σ => (0, σ)
  | d + 1, b0, b1, σ => f_Pu_putIn (F_Pu_putIn d) b0 b1 σ
def K_Pu_putIn : Nat → Int32 → Int32 → St → Prop
  | 0, _, _, _ => False
  | d + 1, b0, b1, σ => k_Pu_putIn (F_Pu_putIn d) (K_Pu_putIn d) b0 b1 σ
theorem C_Pu_putIn (l : Launch) (D : va_G) (ty : Nat → ClassId) (h : Nat → Nat) (px : va_W) (sa : Nat → Nat) : ∀ (d : Nat), ∀ (σ : St) (sz : Nat) (b0 b1 : Int32), K_Pu_putIn d b0 b1 σ → Met l y_Pu_putIn w_Pu_putIn (rk_Pu_putIn d) (va_Pc [.ref (h 22), .int b0, .int b1] (fun U => U.heap.size = sz ∧ va_P D classes (Wc ty h σ px) U.heap ∧ va_K D classes (Ta ty) U ∧ NW U ∧ MK sa (va_A (Wc ty h σ px) sz) U U.heap ∧ va_D (fun _ => True) (Wc ty h σ px))) (va_Qi (fun r (u : St) => (r, u) = F_Pu_putIn d b0 b1 σ) (fun u t => va_P D classes (Wc ty h u px) t.heap) (va_A (Wc ty h σ px) sz)) 0 0 (va_A (Wc ty h σ px) sz) := by
  intro d
  induction d with
  | zero => intro σ sz b0 b1 hk; exact hk.elim
  | succ d ih => intro σ sz b0 b1 hk; exact c_Pu_putIn l D ty h px sa d (F_Pu_putIn d) (K_Pu_putIn d) ih σ sz b0 b1 hk

-- ClauseLedger$Putting.put(III)I
abbrev b_Pu_put : ByteArray := prog_4_method_3_code
def y_Pu_put : MethodName := ⟨"ClauseLedger$Putting", "put", "(III)I"⟩
theorem hd_Pu_put : y_Pu_put.cls ≠ "java/lang/invoke/MethodHandle" ∧ y_Pu_put.cls ≠ "java/lang/invoke/VarHandle" ∧ (parseMethodDescriptor y_Pu_put.desc).map (fun d => d.parameters.length) = some 3 := by decide +kernel
theorem d_Pu_put_0 : decode b_Pu_put 0 = .ok (.aload_n 0, 1) := by decide +kernel
theorem d_Pu_put_1 : decode b_Pu_put 1 = .ok (.getfield 9, 3) := by decide +kernel
theorem d_Pu_put_4 : decode b_Pu_put 4 = .ok (.iconst (-1), 1) := by decide +kernel
theorem d_Pu_put_5 : decode b_Pu_put 5 = .ok (.invokestatic 30, 3) := by decide +kernel
theorem d_Pu_put_8 : decode b_Pu_put 8 = .ok (.aload_n 0, 1) := by decide +kernel
theorem d_Pu_put_9 : decode b_Pu_put 9 = .ok (.iload_n 2, 1) := by decide +kernel
theorem d_Pu_put_10 : decode b_Pu_put 10 = .ok (.putfield 15, 3) := by decide +kernel
theorem d_Pu_put_13 : decode b_Pu_put 13 = .ok (.aload_n 0, 1) := by decide +kernel
theorem d_Pu_put_14 : decode b_Pu_put 14 = .ok (.iload_n 1, 1) := by decide +kernel
theorem d_Pu_put_15 : decode b_Pu_put 15 = .ok (.putfield 19, 3) := by decide +kernel
theorem d_Pu_put_18 : decode b_Pu_put 18 = .ok (.aload_n 0, 1) := by decide +kernel
theorem d_Pu_put_19 : decode b_Pu_put 19 = .ok (.iconst 0, 1) := by decide +kernel
theorem d_Pu_put_20 : decode b_Pu_put 20 = .ok (.putfield 22, 3) := by decide +kernel
theorem d_Pu_put_23 : decode b_Pu_put 23 = .ok (.aload_n 0, 1) := by decide +kernel
theorem d_Pu_put_24 : decode b_Pu_put 24 = .ok (.iload_n 3, 1) := by decide +kernel
theorem d_Pu_put_25 : decode b_Pu_put 25 = .ok (.iconst 1, 1) := by decide +kernel
theorem d_Pu_put_26 : decode b_Pu_put 26 = .ok (.invokevirtual 36, 3) := by decide +kernel
theorem d_Pu_put_29 : decode b_Pu_put 29 = .ok (.ireturn, 1) := by decide +kernel
def f_Pu_put_29 (s0 : Int32) (σ : St) : Int32 × St := (s0, σ)
def k_Pu_put_29 (s0 : Int32) (σ : St) : Prop := True
def f_Pu_put_23 (x3 : Int32) (σ : St) : Int32 × St := f_Pu_put_29 ((F_Pu_putIn 20 x3 1 σ).1) ((F_Pu_putIn 20 x3 1 σ).2)
def k_Pu_put_23 (x3 : Int32) (σ : St) : Prop := (K_Pu_putIn 20 x3 1 σ) ∧ (k_Pu_put_29 ((F_Pu_putIn 20 x3 1 σ).1) ((F_Pu_putIn 20 x3 1 σ).2))
def f_Pu_put_18 (x3 : Int32) (σ : St) : Int32 × St := f_Pu_put_23 x3 (sF σ 22 4 0)
def k_Pu_put_18 (x3 : Int32) (σ : St) : Prop := k_Pu_put_23 x3 (sF σ 22 4 0)
def f_Pu_put_13 (x1 : Int32) (x3 : Int32) (σ : St) : Int32 × St := f_Pu_put_18 x3 (sF σ 22 3 x1)
def k_Pu_put_13 (x1 : Int32) (x3 : Int32) (σ : St) : Prop := k_Pu_put_18 x3 (sF σ 22 3 x1)
def f_Pu_put_8 (x1 : Int32) (x2 : Int32) (x3 : Int32) (σ : St) : Int32 × St := f_Pu_put_13 x1 x3 (sF σ 22 2 x2)
def k_Pu_put_8 (x1 : Int32) (x2 : Int32) (x3 : Int32) (σ : St) : Prop := k_Pu_put_13 x1 x3 (sF σ 22 2 x2)
def f_Pu_put (a1 : Int32) (a2 : Int32) (a3 : Int32) (σ : St) : Int32 × St := f_Pu_put_8 a1 a2 a3 (f_JA_fill (-1) σ)
def k_Pu_put (a1 : Int32) (a2 : Int32) (a3 : Int32) (σ : St) : Prop := (k_JA_fill (-1) σ) ∧ (k_Pu_put_8 a1 a2 a3 (f_JA_fill (-1) σ))
abbrev w_Pu_put : List Cond := Cond.code y_Pu_put b_Pu_put 4 (some .int) :: gw
abbrev rm_Pu_put : Room := { frames := 27, cells := 0, slots := 0, locals := 649 }
set_option maxHeartbeats 4000000 in
set_option maxRecDepth 100000 in
theorem c_Pu_put (l : Launch) (D : va_G) (ty : Nat → ClassId) (h : Nat → Nat) (px : va_W) (sa : Nat → Nat) (σ : St) (sz : Nat) (a1 : Int32) (a2 : Int32) (a3 : Int32) (hk : k_Pu_put a1 a2 a3 σ) : Met l y_Pu_put w_Pu_put rm_Pu_put (va_Pc [.ref (h 22), .int a1, .int a2, .int a3] (fun U => U.heap.size = sz ∧ va_P D classes (Wc ty h σ px) U.heap ∧ va_K D classes (Ta ty) U ∧ NW U ∧ MK sa (va_A (Wc ty h σ px) sz) U U.heap ∧ va_D (fun _ => True) (Wc ty h σ px))) (va_Qi (fun r (u : St) => (r, u) = f_Pu_put a1 a2 a3 σ) (fun u t => va_P D classes (Wc ty h u px) t.heap) (va_A (Wc ty h σ px) sz)) 0 0 (va_A (Wc ty h σ px) sz) := by
  refine Met.ofW (cc := b_Pu_put) (maxL := 4) (ret := (some .int)) (by decide) rfl ?_
  intro p e s m args below meth c s₁ B hml hv
  obtain ⟨ha, hsz, hP, hK, hN, hM, hD0⟩ := hv
  have hx := B.exec
  have hb := B.bytes
  have hr := B.returns
  have hg : ∀ w ∈ gw, w.before args s = true := fun w h9 => atoms_spec (ws := w_Pu_put) B.pre w (List.mem_cons_of_mem _ h9)
  have hown : s.vm.findClass "ClauseLedger$Putting" = some m.cls := findClass_of_methodNamed B.named
  have hlocks := B.notSynchronized
  subst hsz
  have hD := hD0.self (sz := s.heap.size)
  generalize hAe : va_A (Wc ty h σ px) s.heap.size = A at hD hM ⊢
  have hA : ∀ q : Nat, s.heap.size ≤ q → A q := fun q h9 => by rw [← hAe]; exact Or.inr h9
  have hS : va_S A s.heap s.heap [] := va_S.rf
  have he : entryFrame m args 4 = entryFrame m ([.ref (h 22), .int a1, .int a2, .int a3] : List Value).toArray 4 := by rw [ha]
  rw [he, lg_entry_eq]
  have hl := lv_entry ([.ref (h 22), .int a1, .int a2, .int a3]) (n := 4) (Nat.le_of_ble_eq_true rfl)
  generalize (lg_sl ([.ref (h 22), .int a1, .int a2, .int a3]) ++ List.replicate (4 - (lg_sl ([.ref (h 22), .int a1, .int a2, .int a3])).length) Slot.unset).toArray = ls at hl ⊢
  have hl : lv_has ls 4 [(0, .ref (h 22)), (1, .int a1), (2, .int a2), (3, .int a3)] := hl
  generalize hv : f_Pu_put a1 a2 a3 σ = v
  replace hv := hv.symm
  have B29 : ∀ (H : Heap) (locs : List Loc) (ls : Array Slot) (s0 : Int32) (σ : St), v = f_Pu_put_29 s0 σ → k_Pu_put_29 s0 σ → lv_has ls 4 [] → va_P D classes (Wc ty h σ px) H → va_D A (Wc ty h σ px) → va_S A s.heap H locs → W p l e (headSpec w_Pu_put rm_Pu_put).room s m args below meth c H locs 0 0 (MQ below (va_Qi (fun r (u : St) => (r, u) = v) (fun u t => va_P D classes (Wc ty h u px) t.heap) A) args s 0 0 A) (F0 m 29 ls [.int s0]) := by
    intro H locs ls s0 σ hv hk hl hP hD hS
    unfold f_Pu_put_29 at hv
    unfold k_Pu_put_29 at hk
    exact W.iret hx hb hr (fun t ht hW => ⟨⟨_, _, rfl, hv.symm, by dsimp only; rw [ht]; exact hP⟩, hS.F ht⟩) hS.2.2 d_Pu_put_29
  have B23 : ∀ (H : Heap) (locs : List Loc) (ls : Array Slot) (x3 : Int32) (σ : St), v = f_Pu_put_23 x3 σ → k_Pu_put_23 x3 σ → lv_has ls 4 [(0, .ref (h 22)), (3, .int x3)] → va_P D classes (Wc ty h σ px) H → va_D A (Wc ty h σ px) → va_S A s.heap H locs → W p l e (headSpec w_Pu_put rm_Pu_put).room s m args below meth c H locs 0 0 (MQ below (va_Qi (fun r (u : St) => (r, u) = v) (fun u t => va_P D classes (Wc ty h u px) t.heap) A) args s 0 0 A) (F0 m 23 ls []) := by
    intro H locs ls x3 σ hv hk hl hP hD hS
    unfold f_Pu_put_23 at hv
    unfold k_Pu_put_23 at hk
    refine lv_aload_n hx hb d_Pu_put_23 rfl (lv_at hl 0 rfl) ?_
    refine lv_iload_n hx hb d_Pu_put_24 rfl (lv_at hl 1 rfl) ?_
    refine lv_iconst (v := 1) hx hb d_Pu_put_25 (by decide) ?_
    obtain ⟨hk0, hk⟩ := hk
    refine va_calli (va_runV (As := [.int x3, .int 1]) (rest := []) ⟨hx, hb, hml, hown, hg⟩ (C_Pu_putIn l D ty h px sa 20 σ H.size x3 1 hk0) ⟨callB_of 2 hg (gw_C m_1190) rfl rfl rfl (hg _ m_7) (hg _ m_1187) hd_Pu_putIn ⟨Nat.le_of_ble_eq_true rfl, Nat.le_of_ble_eq_true rfl⟩, hg _ m_1189, hg _ ms_46⟩ (zz_preVW hM hS hA hN hK hP hD 22 rfl rfl) rfl rfl hl.1 rfl (lv_room (Nat.le_of_ble_eq_true rfl)) d_Pu_put_26 ⟨Nat.le_of_ble_eq_true rfl, Nat.le_of_ble_eq_true rfl⟩) hS (fun q _ h => zz_free hD hS hA q h) (zz_free hD hS hA) (fun r26 u26 t H locs ht hvm hp hP1 hz hk1 hS => ?_)
    rw [ht] at hP1
    rw [← hp] at hv hk
    have hD : va_D A (Wc ty h u26 px) := zz_D hD rfl
    have hP := hP1
    exact B29 _ _ _ r26 u26 hv hk (lv_sub hl [] rfl) hP hD hS
  have B18 : ∀ (H : Heap) (locs : List Loc) (ls : Array Slot) (x3 : Int32) (σ : St), v = f_Pu_put_18 x3 σ → k_Pu_put_18 x3 σ → lv_has ls 4 [(0, .ref (h 22)), (3, .int x3)] → va_P D classes (Wc ty h σ px) H → va_D A (Wc ty h σ px) → va_S A s.heap H locs → W p l e (headSpec w_Pu_put rm_Pu_put).room s m args below meth c H locs 0 0 (MQ below (va_Qi (fun r (u : St) => (r, u) = v) (fun u t => va_P D classes (Wc ty h u px) t.heap) A) args s 0 0 A) (F0 m 18 ls []) := by
    intro H locs ls x3 σ hv hk hl hP hD hS
    unfold f_Pu_put_18 at hv
    unfold k_Pu_put_18 at hk
    refine lv_aload_n hx hb d_Pu_put_18 rfl (lv_at hl 0 rfl) ?_
    refine lv_iconst (v := 0) hx hb d_Pu_put_19 (by decide) ?_
    refine va_put (v := .int 0) (ty := .boolean) (C := R_Pu) (T := T_Pu) (N := 5) hx hb hg in_Pu ty_Pu ok_Pu nm_Pu hown hK hP hD hS 22 rfl rfl 4 (by decide) (hg _ m_166) (fun _ h9 => h9) rfl (by decide +kernel) rfl rfl (Nat.le_of_ble_eq_true rfl) d_Pu_put_20 (fun H locs hP hD hS => ?_)
    have hP : va_P D classes (Wc ty h (sF σ 22 4 0) px) H := hP
    have hD : va_D A (Wc ty h (sF σ 22 4 0) px) := hD
    exact B23 _ _ _ x3 (sF σ 22 4 0) hv hk (lv_sub hl [0, 1] rfl) hP hD hS
  have B13 : ∀ (H : Heap) (locs : List Loc) (ls : Array Slot) (x1 : Int32) (x3 : Int32) (σ : St), v = f_Pu_put_13 x1 x3 σ → k_Pu_put_13 x1 x3 σ → lv_has ls 4 [(0, .ref (h 22)), (1, .int x1), (3, .int x3)] → va_P D classes (Wc ty h σ px) H → va_D A (Wc ty h σ px) → va_S A s.heap H locs → W p l e (headSpec w_Pu_put rm_Pu_put).room s m args below meth c H locs 0 0 (MQ below (va_Qi (fun r (u : St) => (r, u) = v) (fun u t => va_P D classes (Wc ty h u px) t.heap) A) args s 0 0 A) (F0 m 13 ls []) := by
    intro H locs ls x1 x3 σ hv hk hl hP hD hS
    unfold f_Pu_put_13 at hv
    unfold k_Pu_put_13 at hk
    refine lv_aload_n hx hb d_Pu_put_13 rfl (lv_at hl 0 rfl) ?_
    refine lv_iload_n hx hb d_Pu_put_14 rfl (lv_at hl 1 rfl) ?_
    refine va_put (v := .int x1) (ty := .int) (C := R_Pu) (T := T_Pu) (N := 5) hx hb hg in_Pu ty_Pu ok_Pu nm_Pu hown hK hP hD hS 22 rfl rfl 3 (by decide) (hg _ m_165) (fun _ h9 => h9) rfl (by decide +kernel) rfl rfl (Nat.le_of_ble_eq_true rfl) d_Pu_put_15 (fun H locs hP hD hS => ?_)
    have hP : va_P D classes (Wc ty h (sF σ 22 3 x1) px) H := hP
    have hD : va_D A (Wc ty h (sF σ 22 3 x1) px) := hD
    exact B18 _ _ _ x3 (sF σ 22 3 x1) hv hk (lv_sub hl [0, 2] rfl) hP hD hS
  have B8 : ∀ (H : Heap) (locs : List Loc) (ls : Array Slot) (x1 : Int32) (x2 : Int32) (x3 : Int32) (σ : St), v = f_Pu_put_8 x1 x2 x3 σ → k_Pu_put_8 x1 x2 x3 σ → lv_has ls 4 [(0, .ref (h 22)), (1, .int x1), (2, .int x2), (3, .int x3)] → va_P D classes (Wc ty h σ px) H → va_D A (Wc ty h σ px) → va_S A s.heap H locs → W p l e (headSpec w_Pu_put rm_Pu_put).room s m args below meth c H locs 0 0 (MQ below (va_Qi (fun r (u : St) => (r, u) = v) (fun u t => va_P D classes (Wc ty h u px) t.heap) A) args s 0 0 A) (F0 m 8 ls []) := by
    intro H locs ls x1 x2 x3 σ hv hk hl hP hD hS
    unfold f_Pu_put_8 at hv
    unfold k_Pu_put_8 at hk
    refine lv_aload_n hx hb d_Pu_put_8 rfl (lv_at hl 0 rfl) ?_
    refine lv_iload_n hx hb d_Pu_put_9 rfl (lv_at hl 2 rfl) ?_
    refine va_put (v := .int x2) (ty := .int) (C := R_Pu) (T := T_Pu) (N := 5) hx hb hg in_Pu ty_Pu ok_Pu nm_Pu hown hK hP hD hS 22 rfl rfl 2 (by decide) (hg _ m_164) (fun _ h9 => h9) rfl (by decide +kernel) rfl rfl (Nat.le_of_ble_eq_true rfl) d_Pu_put_10 (fun H locs hP hD hS => ?_)
    have hP : va_P D classes (Wc ty h (sF σ 22 2 x2) px) H := hP
    have hD : va_D A (Wc ty h (sF σ 22 2 x2) px) := hD
    exact B13 _ _ _ x1 x3 (sF σ 22 2 x2) hv hk (lv_sub hl [0, 1, 3] rfl) hP hD hS
  unfold f_Pu_put at hv
  unfold k_Pu_put at hk
  refine lv_aload_n hx hb d_Pu_put_0 rfl (lv_at hl 0 rfl) ?_
  refine va_get (v := .ref (h 23)) (C := R_Pu) (T := T_Pu) (N := 5) hx hb hg in_Pu hown hK hP 22 rfl rfl 1 (by decide) (hg _ m_163) (fun _ h9 => h9) rfl d_Pu_put_1 ?_
  refine lv_iconst (v := -1) hx hb d_Pu_put_4 (by decide) ?_
  obtain ⟨hk0, hk⟩ := hk
  refine va_callv (va_runS (As := [.ref (h 23), .int (-1)]) (rest := []) ⟨hx, hb, hml, hown, hg⟩ (c_JA_fill l D ty h px sa σ s.heap.size (-1) hk0) ⟨callB_of 2 hg (gw_C m_1186) rfl rfl rfl (hg _ m_28) (hg _ m_1184) hd_JA_fill ⟨Nat.le_of_ble_eq_true rfl, Nat.le_of_ble_eq_true rfl⟩, hg _ m_1185⟩ (zz_preSW hM hS hA hN hK hP hD) rfl rfl hl.1 rfl (lv_room (Nat.le_of_ble_eq_true rfl)) d_Pu_put_5 ⟨Nat.le_of_ble_eq_true rfl, Nat.le_of_ble_eq_true rfl⟩) hS (fun q _ h => zz_free hD hS hA q h) (zz_free hD hS hA) (fun u5 t H locs ht hvm hp hP1 hz hk1 hS => ?_)
  rw [ht] at hP1
  rw [← hp] at hv hk
  have hD : va_D A (Wc ty h u5 px) := zz_D hD rfl
  have hP := hP1
  exact B8 _ _ _ a1 a2 a3 u5 hv hk (lv_sub hl [0, 1, 2, 3] rfl) hP hD hS

-- ClauseLedger$Putting.failed()Z
abbrev b_Pu_failed : ByteArray := prog_4_method_2_code
def y_Pu_failed : MethodName := ⟨"ClauseLedger$Putting", "failed", "()Z"⟩
theorem hd_Pu_failed : y_Pu_failed.cls ≠ "java/lang/invoke/MethodHandle" ∧ y_Pu_failed.cls ≠ "java/lang/invoke/VarHandle" ∧ (parseMethodDescriptor y_Pu_failed.desc).map (fun d => d.parameters.length) = some 0 := by decide +kernel
theorem d_Pu_failed_0 : decode b_Pu_failed 0 = .ok (.aload_n 0, 1) := by decide +kernel
theorem d_Pu_failed_1 : decode b_Pu_failed 1 = .ok (.getfield 22, 3) := by decide +kernel
theorem d_Pu_failed_4 : decode b_Pu_failed 4 = .ok (.ireturn, 1) := by decide +kernel
def f_Pu_failed (σ : St) : Int32 := σ.1 22 4
def k_Pu_failed (σ : St) : Prop := (narrow .boolean (.int (σ.1 22 4)) = .int (σ.1 22 4)) ∧ True
abbrev w_Pu_failed : List Cond := Cond.code y_Pu_failed b_Pu_failed 1 (some .boolean) :: gw
abbrev rm_Pu_failed : Room := { frames := 0, cells := 0, slots := 0, locals := 0 }
set_option maxHeartbeats 4000000 in
set_option maxRecDepth 100000 in
theorem c_Pu_failed (l : Launch) (D : va_G) (ty : Nat → ClassId) (h : Nat → Nat) (px : va_W) (sa : Nat → Nat) (σ : St) (hk : k_Pu_failed σ) : Met l y_Pu_failed w_Pu_failed rm_Pu_failed (va_Pc [.ref (h 22)] (fun U => va_P D classes (Wc ty h σ px) U.heap ∧ va_K D classes (Ta ty) U ∧ NW U ∧ MK sa (fun _ => False) U U.heap)) (k2_QcV (.int (f_Pu_failed σ))) 0 0 (fun _ => False) := by
  refine Met.ofW (cc := b_Pu_failed) (maxL := 1) (ret := (some .boolean)) (by decide) rfl ?_
  intro p e s m args below meth c s₁ B hml hv
  obtain ⟨ha, hP, hK, hN, hM⟩ := hv
  have hx := B.exec
  have hb := B.bytes
  have hr := B.returns
  have hg : ∀ w ∈ gw, w.before args s = true := fun w h9 => atoms_spec (ws := w_Pu_failed) B.pre w (List.mem_cons_of_mem _ h9)
  have hown : s.vm.findClass "ClauseLedger$Putting" = some m.cls := findClass_of_methodNamed B.named
  have hlocks := B.notSynchronized
  have he : entryFrame m args 1 = entryFrame m ([.ref (h 22)] : List Value).toArray 1 := by rw [ha]
  rw [he, lg_entry_eq]
  have hl := lv_entry ([.ref (h 22)]) (n := 1) (Nat.le_of_ble_eq_true rfl)
  generalize (lg_sl ([.ref (h 22)]) ++ List.replicate (1 - (lg_sl ([.ref (h 22)])).length) Slot.unset).toArray = ls at hl ⊢
  have hl : lv_has ls 1 [(0, .ref (h 22))] := hl
  generalize hv : f_Pu_failed σ = v
  replace hv := hv.symm
  unfold f_Pu_failed at hv
  unfold k_Pu_failed at hk
  refine lv_aload_n hx hb d_Pu_failed_0 rfl (lv_at hl 0 rfl) ?_
  refine va_get (v := .int (σ.1 22 4)) (C := R_Pu) (T := T_Pu) (N := 5) hx hb hg in_Pu hown hK hP 22 rfl rfl 4 (by decide) (hg _ m_166) (fun _ h9 => h9) rfl d_Pu_failed_1 ?_
  obtain ⟨hk0, hk⟩ := hk
  exact W.zret hx hb hr hk0 (fun t ht hW => ⟨by rw [hv], ht⟩) (fun q h => nomatch h) d_Pu_failed_4

-- ClauseLedger.instance(II)I
abbrev b_CL_instance : ByteArray := prog_1_method_16_code
def y_CL_instance : MethodName := ⟨"ClauseLedger", "instance", "(II)I"⟩
theorem hd_CL_instance : y_CL_instance.cls ≠ "java/lang/invoke/MethodHandle" ∧ y_CL_instance.cls ≠ "java/lang/invoke/VarHandle" ∧ (parseMethodDescriptor y_CL_instance.desc).map (fun d => d.parameters.length) = some 2 := by decide +kernel
theorem d_CL_instance_0 : decode b_CL_instance 0 = .ok (.aload_n 0, 1) := by decide +kernel
theorem d_CL_instance_1 : decode b_CL_instance 1 = .ok (.invokevirtual 102, 3) := by decide +kernel
theorem d_CL_instance_4 : decode b_CL_instance 4 = .ok (.ifCond .eq 5, 3) := by decide +kernel
theorem d_CL_instance_7 : decode b_CL_instance 7 = .ok (.iconst (-1), 1) := by decide +kernel
theorem d_CL_instance_8 : decode b_CL_instance 8 = .ok (.ireturn, 1) := by decide +kernel
theorem d_CL_instance_9 : decode b_CL_instance 9 = .ok (.aload_n 0, 1) := by decide +kernel
theorem d_CL_instance_10 : decode b_CL_instance 10 = .ok (.getfield 19, 3) := by decide +kernel
theorem d_CL_instance_13 : decode b_CL_instance 13 = .ok (.iload_n 1, 1) := by decide +kernel
theorem d_CL_instance_14 : decode b_CL_instance 14 = .ok (.invokevirtual 130, 3) := by decide +kernel
theorem d_CL_instance_17 : decode b_CL_instance 17 = .ok (.ifCond .eq 14, 3) := by decide +kernel
theorem d_CL_instance_20 : decode b_CL_instance 20 = .ok (.aload_n 0, 1) := by decide +kernel
theorem d_CL_instance_21 : decode b_CL_instance 21 = .ok (.getfield 19, 3) := by decide +kernel
theorem d_CL_instance_24 : decode b_CL_instance 24 = .ok (.iload_n 2, 1) := by decide +kernel
theorem d_CL_instance_25 : decode b_CL_instance 25 = .ok (.invokevirtual 130, 3) := by decide +kernel
theorem d_CL_instance_28 : decode b_CL_instance 28 = .ok (.ifCond .ne 8, 3) := by decide +kernel
theorem d_CL_instance_31 : decode b_CL_instance 31 = .ok (.aload_n 0, 1) := by decide +kernel
theorem d_CL_instance_32 : decode b_CL_instance 32 = .ok (.invokevirtual 134, 3) := by decide +kernel
theorem d_CL_instance_35 : decode b_CL_instance 35 = .ok (.ireturn, 1) := by decide +kernel
theorem d_CL_instance_36 : decode b_CL_instance 36 = .ok (.aload_n 0, 1) := by decide +kernel
theorem d_CL_instance_37 : decode b_CL_instance 37 = .ok (.getfield 19, 3) := by decide +kernel
theorem d_CL_instance_40 : decode b_CL_instance 40 = .ok (.iload_n 1, 1) := by decide +kernel
theorem d_CL_instance_41 : decode b_CL_instance 41 = .ok (.invokevirtual 209, 3) := by decide +kernel
theorem d_CL_instance_44 : decode b_CL_instance 44 = .ok (.istore_n 3, 1) := by decide +kernel
theorem d_CL_instance_45 : decode b_CL_instance 45 = .ok (.aload_n 0, 1) := by decide +kernel
theorem d_CL_instance_46 : decode b_CL_instance 46 = .ok (.getfield 19, 3) := by decide +kernel
theorem d_CL_instance_49 : decode b_CL_instance 49 = .ok (.iload_n 1, 1) := by decide +kernel
theorem d_CL_instance_50 : decode b_CL_instance 50 = .ok (.invokevirtual 173, 3) := by decide +kernel
theorem d_CL_instance_53 : decode b_CL_instance 53 = .ok (.bipush 10, 2) := by decide +kernel
theorem d_CL_instance_55 : decode b_CL_instance 55 = .ok (.if_icmp .ne 22, 3) := by decide +kernel
theorem d_CL_instance_58 : decode b_CL_instance 58 = .ok (.aload_n 0, 1) := by decide +kernel
theorem d_CL_instance_59 : decode b_CL_instance 59 = .ok (.getfield 19, 3) := by decide +kernel
theorem d_CL_instance_62 : decode b_CL_instance 62 = .ok (.iload_n 2, 1) := by decide +kernel
theorem d_CL_instance_63 : decode b_CL_instance 63 = .ok (.invokevirtual 212, 3) := by decide +kernel
theorem d_CL_instance_66 : decode b_CL_instance 66 = .ok (.aload_n 0, 1) := by decide +kernel
theorem d_CL_instance_67 : decode b_CL_instance 67 = .ok (.getfield 10, 3) := by decide +kernel
theorem d_CL_instance_70 : decode b_CL_instance 70 = .ok (.iload_n 3, 1) := by decide +kernel
theorem d_CL_instance_71 : decode b_CL_instance 71 = .ok (.invokevirtual 215, 3) := by decide +kernel
theorem d_CL_instance_74 : decode b_CL_instance 74 = .ok (.if_icmp .eq 8, 3) := by decide +kernel
theorem d_CL_instance_77 : decode b_CL_instance 77 = .ok (.aload_n 0, 1) := by decide +kernel
theorem d_CL_instance_78 : decode b_CL_instance 78 = .ok (.invokevirtual 112, 3) := by decide +kernel
theorem d_CL_instance_81 : decode b_CL_instance 81 = .ok (.ireturn, 1) := by decide +kernel
theorem d_CL_instance_82 : decode b_CL_instance 82 = .ok (.aload_n 0, 1) := by decide +kernel
theorem d_CL_instance_83 : decode b_CL_instance 83 = .ok (.getfield 65, 3) := by decide +kernel
theorem d_CL_instance_86 : decode b_CL_instance 86 = .ok (.invokevirtual 140, 3) := by decide +kernel
theorem d_CL_instance_89 : decode b_CL_instance 89 = .ok (.aload_n 0, 1) := by decide +kernel
theorem d_CL_instance_90 : decode b_CL_instance 90 = .ok (.getfield 65, 3) := by decide +kernel
theorem d_CL_instance_93 : decode b_CL_instance 93 = .ok (.aload_n 0, 1) := by decide +kernel
theorem d_CL_instance_94 : decode b_CL_instance 94 = .ok (.getfield 19, 3) := by decide +kernel
theorem d_CL_instance_97 : decode b_CL_instance 97 = .ok (.iload_n 1, 1) := by decide +kernel
theorem d_CL_instance_98 : decode b_CL_instance 98 = .ok (.invokevirtual 182, 3) := by decide +kernel
theorem d_CL_instance_101 : decode b_CL_instance 101 = .ok (.invokevirtual 141, 3) := by decide +kernel
theorem d_CL_instance_104 : decode b_CL_instance 104 = .ok (.aload_n 0, 1) := by decide +kernel
theorem d_CL_instance_105 : decode b_CL_instance 105 = .ok (.getfield 65, 3) := by decide +kernel
theorem d_CL_instance_108 : decode b_CL_instance 108 = .ok (.aload_n 0, 1) := by decide +kernel
theorem d_CL_instance_109 : decode b_CL_instance 109 = .ok (.getfield 51, 3) := by decide +kernel
theorem d_CL_instance_112 : decode b_CL_instance 112 = .ok (.iload_n 2, 1) := by decide +kernel
theorem d_CL_instance_113 : decode b_CL_instance 113 = .ok (.iload_n 3, 1) := by decide +kernel
theorem d_CL_instance_114 : decode b_CL_instance 114 = .ok (.aload_n 0, 1) := by decide +kernel
theorem d_CL_instance_115 : decode b_CL_instance 115 = .ok (.getfield 19, 3) := by decide +kernel
theorem d_CL_instance_118 : decode b_CL_instance 118 = .ok (.iload_n 1, 1) := by decide +kernel
theorem d_CL_instance_119 : decode b_CL_instance 119 = .ok (.invokevirtual 179, 3) := by decide +kernel
theorem d_CL_instance_122 : decode b_CL_instance 122 = .ok (.invokevirtual 218, 3) := by decide +kernel
theorem d_CL_instance_125 : decode b_CL_instance 125 = .ok (.invokevirtual 141, 3) := by decide +kernel
theorem d_CL_instance_128 : decode b_CL_instance 128 = .ok (.aload_n 0, 1) := by decide +kernel
theorem d_CL_instance_129 : decode b_CL_instance 129 = .ok (.getfield 51, 3) := by decide +kernel
theorem d_CL_instance_132 : decode b_CL_instance 132 = .ok (.invokevirtual 221, 3) := by decide +kernel
theorem d_CL_instance_135 : decode b_CL_instance 135 = .ok (.ifCond .eq 8, 3) := by decide +kernel
theorem d_CL_instance_138 : decode b_CL_instance 138 = .ok (.aload_n 0, 1) := by decide +kernel
theorem d_CL_instance_139 : decode b_CL_instance 139 = .ok (.invokevirtual 112, 3) := by decide +kernel
theorem d_CL_instance_142 : decode b_CL_instance 142 = .ok (.ireturn, 1) := by decide +kernel
theorem d_CL_instance_143 : decode b_CL_instance 143 = .ok (.aload_n 0, 1) := by decide +kernel
theorem d_CL_instance_144 : decode b_CL_instance 144 = .ok (.aload_n 0, 1) := by decide +kernel
theorem d_CL_instance_145 : decode b_CL_instance 145 = .ok (.getfield 72, 3) := by decide +kernel
theorem d_CL_instance_148 : decode b_CL_instance 148 = .ok (.invokevirtual 145, 3) := by decide +kernel
theorem d_CL_instance_151 : decode b_CL_instance 151 = .ok (.iconst 0, 1) := by decide +kernel
theorem d_CL_instance_152 : decode b_CL_instance 152 = .ok (.invokevirtual 148, 3) := by decide +kernel
theorem d_CL_instance_155 : decode b_CL_instance 155 = .ok (.ireturn, 1) := by decide +kernel
def f_CL_instance_35 (s0 : Int32) (σ : St) : XR := (.inl s0, σ)
def k_CL_instance_35 (s0 : Int32) (σ : St) : Prop := True
def f_CL_instance_31 (σ : St) : XR := xb (f_CL_throwMissing σ) (fun x u => f_CL_instance_35 x u)
def k_CL_instance_31 (σ : St) : Prop := (k_CL_throwMissing σ) ∧ (∀ x, (f_CL_throwMissing σ).1 = .inl x → (k_CL_instance_35 x ((f_CL_throwMissing σ).2)))
def f_CL_instance_81 (s0 : Int32) (σ : St) : XR := (.inl s0, σ)
def k_CL_instance_81 (s0 : Int32) (σ : St) : Prop := True
def f_CL_instance_77 (σ : St) : XR := xb (f_CL_throwWrong σ) (fun x u => f_CL_instance_81 x u)
def k_CL_instance_77 (σ : St) : Prop := (k_CL_throwWrong σ) ∧ (∀ x, (f_CL_throwWrong σ).1 = .inl x → (k_CL_instance_81 x ((f_CL_throwWrong σ).2)))
def f_CL_instance_142 (s0 : Int32) (σ : St) : XR := (.inl s0, σ)
def k_CL_instance_142 (s0 : Int32) (σ : St) : Prop := True
def f_CL_instance_155 (s0 : Int32) (σ : St) : XR := (.inl s0, σ)
def k_CL_instance_155 (s0 : Int32) (σ : St) : Prop := True
def f_CL_instance_128 (σ : St) : XR := if (f_Pu_failed σ) = 0 then (xb (f_CL_enterRow (f_Sc_innermost σ) 0 σ) (fun x u => f_CL_instance_155 x u)) else (xb (f_CL_throwWrong σ) (fun x u => f_CL_instance_142 x u))
def k_CL_instance_128 (σ : St) : Prop := (k_Pu_failed σ) ∧ (((f_Pu_failed σ) = 0 → ((k_Sc_innermost σ) ∧ ((k_CL_enterRow (f_Sc_innermost σ) 0 σ) ∧ (∀ x, (f_CL_enterRow (f_Sc_innermost σ) 0 σ).1 = .inl x → (k_CL_instance_155 x ((f_CL_enterRow (f_Sc_innermost σ) 0 σ).2)))))) ∧ (¬ (f_Pu_failed σ) = 0 → ((k_CL_throwWrong σ) ∧ (∀ x, (f_CL_throwWrong σ).1 = .inl x → (k_CL_instance_142 x ((f_CL_throwWrong σ).2))))))
def f_CL_instance_125 (s0 : Int32) (σ : St) : XR := f_CL_instance_128 (f_Ro_join s0 σ)
def k_CL_instance_125 (s0 : Int32) (σ : St) : Prop := (k_Ro_join s0 σ) ∧ (k_CL_instance_128 (f_Ro_join s0 σ))
def f_CL_instance_104 (x1 : Int32) (x2 : Int32) (x3 : Int32) (σ : St) : XR := f_CL_instance_125 ((f_Pu_put x2 x3 (f_Te_firstOf x1 σ) σ).1) ((f_Pu_put x2 x3 (f_Te_firstOf x1 σ) σ).2)
def k_CL_instance_104 (x1 : Int32) (x2 : Int32) (x3 : Int32) (σ : St) : Prop := (k_Te_firstOf x1 σ) ∧ ((k_Pu_put x2 x3 (f_Te_firstOf x1 σ) σ) ∧ (k_CL_instance_125 ((f_Pu_put x2 x3 (f_Te_firstOf x1 σ) σ).1) ((f_Pu_put x2 x3 (f_Te_firstOf x1 σ) σ).2)))
def f_CL_instance_101 (x1 : Int32) (x2 : Int32) (x3 : Int32) (s0 : Int32) (σ : St) : XR := f_CL_instance_104 x1 x2 x3 (f_Ro_join s0 σ)
def k_CL_instance_101 (x1 : Int32) (x2 : Int32) (x3 : Int32) (s0 : Int32) (σ : St) : Prop := (k_Ro_join s0 σ) ∧ (k_CL_instance_104 x1 x2 x3 (f_Ro_join s0 σ))
def f_CL_instance_89 (x1 : Int32) (x2 : Int32) (x3 : Int32) (σ : St) : XR := f_CL_instance_101 x1 x2 x3 ((f_Te_opposite x1 σ).1) ((f_Te_opposite x1 σ).2)
def k_CL_instance_89 (x1 : Int32) (x2 : Int32) (x3 : Int32) (σ : St) : Prop := (k_Te_opposite x1 σ) ∧ (k_CL_instance_101 x1 x2 x3 ((f_Te_opposite x1 σ).1) ((f_Te_opposite x1 σ).2))
def f_CL_instance_45 (x1 : Int32) (x2 : Int32) (x3 : Int32) (σ : St) : XR := if (f_Te_kindOf x1 σ) = 10 then (if (f_Te_sortOf x2 σ) = (f_Sg_sortOfVariable x3 σ) then (f_CL_instance_89 x1 x2 x3 (f_Ro_wipe σ)) else (f_CL_instance_77 σ)) else (f_CL_instance_77 σ)
def k_CL_instance_45 (x1 : Int32) (x2 : Int32) (x3 : Int32) (σ : St) : Prop := (k_Te_kindOf x1 σ) ∧ (((f_Te_kindOf x1 σ) = 10 → ((k_Te_sortOf x2 σ) ∧ ((k_Sg_sortOfVariable x3 σ) ∧ (((f_Te_sortOf x2 σ) = (f_Sg_sortOfVariable x3 σ) → ((k_Ro_wipe σ) ∧ (k_CL_instance_89 x1 x2 x3 (f_Ro_wipe σ)))) ∧ (¬ (f_Te_sortOf x2 σ) = (f_Sg_sortOfVariable x3 σ) → (k_CL_instance_77 σ)))))) ∧ (¬ (f_Te_kindOf x1 σ) = 10 → (k_CL_instance_77 σ)))
def f_CL_instance (a1 : Int32) (a2 : Int32) (σ : St) : XR := if (f_CL_isShut σ) = 0 then (if (f_Te_has a1 σ) = 0 then (f_CL_instance_31 σ) else (if (f_Te_has a2 σ) = 0 then (f_CL_instance_31 σ) else (f_CL_instance_45 a1 a2 (f_Te_nameOf a1 σ) σ))) else (.inl (-1), σ)
def k_CL_instance (a1 : Int32) (a2 : Int32) (σ : St) : Prop := (k_CL_isShut σ) ∧ (((f_CL_isShut σ) = 0 → ((k_Te_has a1 σ) ∧ (((f_Te_has a1 σ) = 0 → (k_CL_instance_31 σ)) ∧ (¬ (f_Te_has a1 σ) = 0 → ((k_Te_has a2 σ) ∧ (((f_Te_has a2 σ) = 0 → (k_CL_instance_31 σ)) ∧ (¬ (f_Te_has a2 σ) = 0 → ((k_Te_nameOf a1 σ) ∧ (k_CL_instance_45 a1 a2 (f_Te_nameOf a1 σ) σ))))))))) ∧ (¬ (f_CL_isShut σ) = 0 → True))
abbrev w_CL_instance : List Cond := Cond.code y_CL_instance b_CL_instance 4 (some .int) :: gw
abbrev rm_CL_instance : Room := { frames := 28, cells := 1, slots := 6, locals := 672 }
set_option maxHeartbeats 4000000 in
set_option maxRecDepth 100000 in
theorem c_CL_instance (l : Launch) (hlt : l.stackTraces = false) (D : va_G) (ty : Nat → ClassId) (h : Nat → Nat) (px : va_W) (sa : Nat → Nat) (σ : St) (sz : Nat) (a1 : Int32) (a2 : Int32) (hk : k_CL_instance a1 a2 σ) : xMet l y_CL_instance w_CL_instance rm_CL_instance (va_Pc [.ref (h 0), .int a1, .int a2] (fun U => U.heap.size = sz ∧ va_P D classes (Wc ty h σ px) U.heap ∧ va_K D classes (Ta ty) U ∧ NW U ∧ XK sa (va_A (Wc ty h σ px) sz) U U.heap ∧ MK sa (va_A (Wc ty h σ px) sz) U U.heap ∧ va_D (fun _ => True) (Wc ty h σ px))) (Rx D classes (fun u => Wc ty h u px) (va_A (Wc ty h σ px) sz) (f_CL_instance a1 a2 σ)) 1 6 (va_A (Wc ty h σ px) sz) := by
  refine xMet.ofW (cc := b_CL_instance) (maxL := 4) (ret := (some .int)) (by decide) rfl ?_
  intro p e s m args below meth c s₁ B hml htab hv
  obtain ⟨ha, hsz, hP, hK, hN, hX, hM, hD0⟩ := hv
  have hx := B.exec
  have hb := B.bytes
  have hr := B.returns
  have hg : ∀ w ∈ gw, w.before args s = true := fun w h9 => atoms_spec (ws := w_CL_instance) B.pre w (List.mem_cons_of_mem _ h9)
  have hown : s.vm.findClass "ClauseLedger" = some m.cls := findClass_of_methodNamed B.named
  have hlocks := B.notSynchronized
  subst hsz
  have hD := hD0.self (sz := s.heap.size)
  generalize hAe : va_A (Wc ty h σ px) s.heap.size = A at hD hM hX ⊢
  have hA : ∀ q : Nat, s.heap.size ≤ q → A q := fun q h9 => by rw [← hAe]; exact Or.inr h9
  have hS : va_S A s.heap s.heap [] := va_S.rf
  have he : entryFrame m args 4 = entryFrame m ([.ref (h 0), .int a1, .int a2] : List Value).toArray 4 := by rw [ha]
  rw [he, lg_entry_eq]
  have hl := lv_entry ([.ref (h 0), .int a1, .int a2]) (n := 4) (Nat.le_of_ble_eq_true rfl)
  generalize (lg_sl ([.ref (h 0), .int a1, .int a2]) ++ List.replicate (4 - (lg_sl ([.ref (h 0), .int a1, .int a2])).length) Slot.unset).toArray = ls at hl ⊢
  have hl : lv_has ls 4 [(0, .ref (h 0)), (1, .int a1), (2, .int a2)] := hl
  generalize hv : f_CL_instance a1 a2 σ = v
  replace hv := hv.symm
  have B35 : ∀ (H : Heap) (locs : List Loc) (ls : Array Slot) (s0 : Int32) (σ : St), v = f_CL_instance_35 s0 σ → k_CL_instance_35 s0 σ → lv_has ls 4 [] → va_P D classes (Wc ty h σ px) H → va_D A (Wc ty h σ px) → va_S A s.heap H locs → W p l e (headSpec w_CL_instance rm_CL_instance).room s m args below meth c H locs 1 6 (xMQ below (Rx D classes (fun u => Wc ty h u px) A v) args s 1 6 A) (F0 m 35 ls [.int s0]) := by
    intro H locs ls s0 σ hv hk hl hP hD hS
    unfold f_CL_instance_35 at hv
    unfold k_CL_instance_35 at hk
    exact x_ret (fun o t hq => by obtain ⟨rfl, ht⟩ := hq; exact ⟨hS.F ht, by rw [ht, hv]; exact hP, _, rfl, by rw [hv]⟩) (Nat.le_of_ble_eq_true rfl) (Nat.le_of_ble_eq_true rfl) (W.iret (Qc := fun _ _ o t => o = .returned (some (.int s0)) ∧ t.heap = H) hx hb hr (fun t ht hW => ⟨rfl, ht⟩) hS.2.2 d_CL_instance_35)
  have B31 : ∀ (H : Heap) (locs : List Loc) (ls : Array Slot) (σ : St), v = f_CL_instance_31 σ → k_CL_instance_31 σ → lv_has ls 4 [(0, .ref (h 0))] → va_P D classes (Wc ty h σ px) H → va_D A (Wc ty h σ px) → va_S A s.heap H locs → W p l e (headSpec w_CL_instance rm_CL_instance).room s m args below meth c H locs 0 0 (xMQ below (Rx D classes (fun u => Wc ty h u px) A v) args s 1 6 A) (F0 m 31 ls []) := by
    intro H locs ls σ hv hk hl hP hD hS
    unfold f_CL_instance_31 at hv
    unfold k_CL_instance_31 at hk
    refine lv_aload_n hx hb d_CL_instance_31 rfl (lv_at hl 0 rfl) ?_
    obtain ⟨hk0, hk⟩ := hk
    refine x_callV (As := []) (rest := []) ⟨hx, hb, hml, hown, hg⟩ (c_CL_throwMissing l hlt D ty h px sa σ H.size  hk0) ⟨callB_of 0 hg (gw_C m_914) rfl rfl rfl (hg _ m_1) (hg _ m_911) hd_CL_throwMissing ⟨Nat.le_of_ble_eq_true rfl, Nat.le_of_ble_eq_true rfl⟩, hg _ m_913, hg _ ms_29⟩ (zz_preX hM hN hX hS hA hK hP hD 0 rfl rfl) rfl hl.1 rfl (Nat.le_of_ble_eq_true rfl) d_CL_instance_32 ⟨Nat.le_of_ble_eq_true rfl, Nat.le_of_ble_eq_true rfl⟩ (fun r9 st9 t9 L9 h09 hal9 hR9 hL9 => ?_) (fun q9 st9 t9 L9 h09 h19 hal9 hR9 hL9 => ?_)
    · obtain ⟨hF9, hP9, x, rfl, hz9⟩ := hR9
      have hv := hv.trans (xb_l hz9)
      have hk := hk _ hz9
      have hS := zz_xS hS h09 hF9 (zz_free hD hS hA) hL9
      have hD : va_D A (Wc ty h (f_CL_throwMissing σ).2 px) := zz_D hD rfl
      exact B35 _ _ _ x (f_CL_throwMissing σ).2 hv hk (lv_sub hl [] rfl) hP9 hD hS
    · obtain ⟨hF9, hP9, E9, ce9, hz9, hq9, hn9, hc9⟩ := hR9
      have hv := hv.trans (xb_r hz9)
      have hS := zz_xS hS h09 hF9 (zz_free hD hS hA) hL9
      exact x_out htab hlocks (fun t ht hal => ⟨hS.F ht, by rw [ht, hv]; exact hP9, E9, ce9, by rw [hv], by rw [ht]; exact hq9, hn9, by rw [h19.findClass]; exact hc9⟩) hS.2.2 (Nat.le_of_ble_eq_true rfl) (Nat.le_of_ble_eq_true rfl)
  have B81 : ∀ (H : Heap) (locs : List Loc) (ls : Array Slot) (s0 : Int32) (σ : St), v = f_CL_instance_81 s0 σ → k_CL_instance_81 s0 σ → lv_has ls 4 [] → va_P D classes (Wc ty h σ px) H → va_D A (Wc ty h σ px) → va_S A s.heap H locs → W p l e (headSpec w_CL_instance rm_CL_instance).room s m args below meth c H locs 1 6 (xMQ below (Rx D classes (fun u => Wc ty h u px) A v) args s 1 6 A) (F0 m 81 ls [.int s0]) := by
    intro H locs ls s0 σ hv hk hl hP hD hS
    unfold f_CL_instance_81 at hv
    unfold k_CL_instance_81 at hk
    exact x_ret (fun o t hq => by obtain ⟨rfl, ht⟩ := hq; exact ⟨hS.F ht, by rw [ht, hv]; exact hP, _, rfl, by rw [hv]⟩) (Nat.le_of_ble_eq_true rfl) (Nat.le_of_ble_eq_true rfl) (W.iret (Qc := fun _ _ o t => o = .returned (some (.int s0)) ∧ t.heap = H) hx hb hr (fun t ht hW => ⟨rfl, ht⟩) hS.2.2 d_CL_instance_81)
  have B77 : ∀ (H : Heap) (locs : List Loc) (ls : Array Slot) (σ : St), v = f_CL_instance_77 σ → k_CL_instance_77 σ → lv_has ls 4 [(0, .ref (h 0))] → va_P D classes (Wc ty h σ px) H → va_D A (Wc ty h σ px) → va_S A s.heap H locs → W p l e (headSpec w_CL_instance rm_CL_instance).room s m args below meth c H locs 0 0 (xMQ below (Rx D classes (fun u => Wc ty h u px) A v) args s 1 6 A) (F0 m 77 ls []) := by
    intro H locs ls σ hv hk hl hP hD hS
    unfold f_CL_instance_77 at hv
    unfold k_CL_instance_77 at hk
    refine lv_aload_n hx hb d_CL_instance_77 rfl (lv_at hl 0 rfl) ?_
    obtain ⟨hk0, hk⟩ := hk
    refine x_callV (As := []) (rest := []) ⟨hx, hb, hml, hown, hg⟩ (c_CL_throwWrong l hlt D ty h px sa σ H.size  hk0) ⟨callB_of 0 hg (gw_C m_774) rfl rfl rfl (hg _ m_1) (hg _ m_771) hd_CL_throwWrong ⟨Nat.le_of_ble_eq_true rfl, Nat.le_of_ble_eq_true rfl⟩, hg _ m_773, hg _ ms_24⟩ (zz_preX hM hN hX hS hA hK hP hD 0 rfl rfl) rfl hl.1 rfl (Nat.le_of_ble_eq_true rfl) d_CL_instance_78 ⟨Nat.le_of_ble_eq_true rfl, Nat.le_of_ble_eq_true rfl⟩ (fun r9 st9 t9 L9 h09 hal9 hR9 hL9 => ?_) (fun q9 st9 t9 L9 h09 h19 hal9 hR9 hL9 => ?_)
    · obtain ⟨hF9, hP9, x, rfl, hz9⟩ := hR9
      have hv := hv.trans (xb_l hz9)
      have hk := hk _ hz9
      have hS := zz_xS hS h09 hF9 (zz_free hD hS hA) hL9
      have hD : va_D A (Wc ty h (f_CL_throwWrong σ).2 px) := zz_D hD rfl
      exact B81 _ _ _ x (f_CL_throwWrong σ).2 hv hk (lv_sub hl [] rfl) hP9 hD hS
    · obtain ⟨hF9, hP9, E9, ce9, hz9, hq9, hn9, hc9⟩ := hR9
      have hv := hv.trans (xb_r hz9)
      have hS := zz_xS hS h09 hF9 (zz_free hD hS hA) hL9
      exact x_out htab hlocks (fun t ht hal => ⟨hS.F ht, by rw [ht, hv]; exact hP9, E9, ce9, by rw [hv], by rw [ht]; exact hq9, hn9, by rw [h19.findClass]; exact hc9⟩) hS.2.2 (Nat.le_of_ble_eq_true rfl) (Nat.le_of_ble_eq_true rfl)
  have B142 : ∀ (H : Heap) (locs : List Loc) (ls : Array Slot) (s0 : Int32) (σ : St), v = f_CL_instance_142 s0 σ → k_CL_instance_142 s0 σ → lv_has ls 4 [] → va_P D classes (Wc ty h σ px) H → va_D A (Wc ty h σ px) → va_S A s.heap H locs → W p l e (headSpec w_CL_instance rm_CL_instance).room s m args below meth c H locs 1 6 (xMQ below (Rx D classes (fun u => Wc ty h u px) A v) args s 1 6 A) (F0 m 142 ls [.int s0]) := by
    intro H locs ls s0 σ hv hk hl hP hD hS
    unfold f_CL_instance_142 at hv
    unfold k_CL_instance_142 at hk
    exact x_ret (fun o t hq => by obtain ⟨rfl, ht⟩ := hq; exact ⟨hS.F ht, by rw [ht, hv]; exact hP, _, rfl, by rw [hv]⟩) (Nat.le_of_ble_eq_true rfl) (Nat.le_of_ble_eq_true rfl) (W.iret (Qc := fun _ _ o t => o = .returned (some (.int s0)) ∧ t.heap = H) hx hb hr (fun t ht hW => ⟨rfl, ht⟩) hS.2.2 d_CL_instance_142)
  have B155 : ∀ (H : Heap) (locs : List Loc) (ls : Array Slot) (s0 : Int32) (σ : St), v = f_CL_instance_155 s0 σ → k_CL_instance_155 s0 σ → lv_has ls 4 [] → va_P D classes (Wc ty h σ px) H → va_D A (Wc ty h σ px) → va_S A s.heap H locs → W p l e (headSpec w_CL_instance rm_CL_instance).room s m args below meth c H locs 1 6 (xMQ below (Rx D classes (fun u => Wc ty h u px) A v) args s 1 6 A) (F0 m 155 ls [.int s0]) := by
    intro H locs ls s0 σ hv hk hl hP hD hS
    unfold f_CL_instance_155 at hv
    unfold k_CL_instance_155 at hk
    exact x_ret (fun o t hq => by obtain ⟨rfl, ht⟩ := hq; exact ⟨hS.F ht, by rw [ht, hv]; exact hP, _, rfl, by rw [hv]⟩) (Nat.le_of_ble_eq_true rfl) (Nat.le_of_ble_eq_true rfl) (W.iret (Qc := fun _ _ o t => o = .returned (some (.int s0)) ∧ t.heap = H) hx hb hr (fun t ht hW => ⟨rfl, ht⟩) hS.2.2 d_CL_instance_155)
  have B128 : ∀ (H : Heap) (locs : List Loc) (ls : Array Slot) (σ : St), v = f_CL_instance_128 σ → k_CL_instance_128 σ → lv_has ls 4 [(0, .ref (h 0))] → va_P D classes (Wc ty h σ px) H → va_D A (Wc ty h σ px) → va_S A s.heap H locs → W p l e (headSpec w_CL_instance rm_CL_instance).room s m args below meth c H locs 0 0 (xMQ below (Rx D classes (fun u => Wc ty h u px) A v) args s 1 6 A) (F0 m 128 ls []) := by
    intro H locs ls σ hv hk hl hP hD hS
    unfold f_CL_instance_128 at hv
    unfold k_CL_instance_128 at hk
    refine lv_aload_n hx hb d_CL_instance_128 rfl (lv_at hl 0 rfl) ?_
    refine va_get (v := .ref (h 22)) (C := R_CL) (T := T_CL) (N := 11) hx hb hg in_CL hown hK hP 0 rfl rfl 5 (by decide) (hg _ m_289) (fun _ h9 => h9) rfl d_CL_instance_129 ?_
    obtain ⟨hk0, hk⟩ := hk
    refine zz_callV (va_runV (As := []) (rest := []) ⟨hx, hb, hml, hown, hg⟩ (c_Pu_failed l D ty h px sa σ  hk0) ⟨callB_of 0 hg (gw_C m_1208) rfl rfl rfl (hg _ m_7) (hg _ m_1205) hd_Pu_failed ⟨Nat.le_of_ble_eq_true rfl, Nat.le_of_ble_eq_true rfl⟩, hg _ m_1206, hg _ m_1207⟩ (zz_preV (hM.at hS) hN hK hP 22 rfl rfl) rfl rfl hl.1 rfl (lv_room (Nat.le_of_ble_eq_true rfl)) d_CL_instance_132 ⟨Nat.le_of_ble_eq_true rfl, Nat.le_of_ble_eq_true rfl⟩) ?_
    refine lv_if_eq (tgt := 143) hx hb d_CL_instance_135 (by decide) (fun hc => ?_) (fun hc => ?_)
    · have hv := hv.trans (if_pos hc)
      have hk := hk.1 hc
      refine lv_aload_n hx hb d_CL_instance_143 rfl (lv_at hl 0 rfl) ?_
      refine lv_aload_n hx hb d_CL_instance_144 rfl (lv_at hl 0 rfl) ?_
      refine va_get (v := .ref (h 27)) (C := R_CL) (T := T_CL) (N := 11) hx hb hg in_CL hown hK hP 0 rfl rfl 8 (by decide) (hg _ m_292) (fun _ h9 => h9) rfl d_CL_instance_145 ?_
      obtain ⟨hk0, hk⟩ := hk
      refine zz_callV (va_runV (As := []) (rest := [.ref (h 0)]) ⟨hx, hb, hml, hown, hg⟩ (c_Sc_innermost l D ty h px sa σ  hk0) ⟨callB_of 0 hg (gw_C m_943) rfl rfl rfl (hg _ m_11) (hg _ m_940) hd_Sc_innermost ⟨Nat.le_of_ble_eq_true rfl, Nat.le_of_ble_eq_true rfl⟩, hg _ m_941, hg _ m_942⟩ (zz_preV (hM.at hS) hN hK hP 27 rfl rfl) rfl rfl hl.1 rfl (lv_room (Nat.le_of_ble_eq_true rfl)) d_CL_instance_148 ⟨Nat.le_of_ble_eq_true rfl, Nat.le_of_ble_eq_true rfl⟩) ?_
      refine lv_iconst (v := 0) hx hb d_CL_instance_151 (by decide) ?_
      obtain ⟨hk0, hk⟩ := hk
      refine x_callV (As := [.int (f_Sc_innermost σ), .int 0]) (rest := []) ⟨hx, hb, hml, hown, hg⟩ (c_CL_enterRow l hlt D ty h px sa σ H.size (f_Sc_innermost σ) 0 hk0) ⟨callB_of 2 hg (gw_C m_947) rfl rfl rfl (hg _ m_1) (hg _ m_944) hd_CL_enterRow ⟨Nat.le_of_ble_eq_true rfl, Nat.le_of_ble_eq_true rfl⟩, hg _ m_946, hg _ ms_30⟩ (zz_preX hM hN hX hS hA hK hP hD 0 rfl rfl) rfl hl.1 rfl (Nat.le_of_ble_eq_true rfl) d_CL_instance_152 ⟨Nat.le_of_ble_eq_true rfl, Nat.le_of_ble_eq_true rfl⟩ (fun r9 st9 t9 L9 h09 hal9 hR9 hL9 => ?_) (fun q9 st9 t9 L9 h09 h19 hal9 hR9 hL9 => ?_)
      · obtain ⟨hF9, hP9, x, rfl, hz9⟩ := hR9
        have hv := hv.trans (xb_l hz9)
        have hk := hk _ hz9
        have hS := zz_xS hS h09 hF9 (zz_free hD hS hA) hL9
        have hD : va_D A (Wc ty h (f_CL_enterRow (f_Sc_innermost σ) 0 σ).2 px) := zz_D hD rfl
        exact B155 _ _ _ x (f_CL_enterRow (f_Sc_innermost σ) 0 σ).2 hv hk (lv_sub hl [] rfl) hP9 hD hS
      · obtain ⟨hF9, hP9, E9, ce9, hz9, hq9, hn9, hc9⟩ := hR9
        have hv := hv.trans (xb_r hz9)
        have hS := zz_xS hS h09 hF9 (zz_free hD hS hA) hL9
        exact x_out htab hlocks (fun t ht hal => ⟨hS.F ht, by rw [ht, hv]; exact hP9, E9, ce9, by rw [hv], by rw [ht]; exact hq9, hn9, by rw [h19.findClass]; exact hc9⟩) hS.2.2 (Nat.le_of_ble_eq_true rfl) (Nat.le_of_ble_eq_true rfl)
    · have hv := hv.trans (if_neg hc)
      have hk := hk.2 hc
      refine lv_aload_n hx hb d_CL_instance_138 rfl (lv_at hl 0 rfl) ?_
      obtain ⟨hk0, hk⟩ := hk
      refine x_callV (As := []) (rest := []) ⟨hx, hb, hml, hown, hg⟩ (c_CL_throwWrong l hlt D ty h px sa σ H.size  hk0) ⟨callB_of 0 hg (gw_C m_774) rfl rfl rfl (hg _ m_1) (hg _ m_771) hd_CL_throwWrong ⟨Nat.le_of_ble_eq_true rfl, Nat.le_of_ble_eq_true rfl⟩, hg _ m_773, hg _ ms_24⟩ (zz_preX hM hN hX hS hA hK hP hD 0 rfl rfl) rfl hl.1 rfl (Nat.le_of_ble_eq_true rfl) d_CL_instance_139 ⟨Nat.le_of_ble_eq_true rfl, Nat.le_of_ble_eq_true rfl⟩ (fun r9 st9 t9 L9 h09 hal9 hR9 hL9 => ?_) (fun q9 st9 t9 L9 h09 h19 hal9 hR9 hL9 => ?_)
      · obtain ⟨hF9, hP9, x, rfl, hz9⟩ := hR9
        have hv := hv.trans (xb_l hz9)
        have hk := hk _ hz9
        have hS := zz_xS hS h09 hF9 (zz_free hD hS hA) hL9
        have hD : va_D A (Wc ty h (f_CL_throwWrong σ).2 px) := zz_D hD rfl
        exact B142 _ _ _ x (f_CL_throwWrong σ).2 hv hk (lv_sub hl [] rfl) hP9 hD hS
      · obtain ⟨hF9, hP9, E9, ce9, hz9, hq9, hn9, hc9⟩ := hR9
        have hv := hv.trans (xb_r hz9)
        have hS := zz_xS hS h09 hF9 (zz_free hD hS hA) hL9
        exact x_out htab hlocks (fun t ht hal => ⟨hS.F ht, by rw [ht, hv]; exact hP9, E9, ce9, by rw [hv], by rw [ht]; exact hq9, hn9, by rw [h19.findClass]; exact hc9⟩) hS.2.2 (Nat.le_of_ble_eq_true rfl) (Nat.le_of_ble_eq_true rfl)
  have B125 : ∀ (H : Heap) (locs : List Loc) (ls : Array Slot) (s0 : Int32) (σ : St), v = f_CL_instance_125 s0 σ → k_CL_instance_125 s0 σ → lv_has ls 4 [(0, .ref (h 0))] → va_P D classes (Wc ty h σ px) H → va_D A (Wc ty h σ px) → va_S A s.heap H locs → W p l e (headSpec w_CL_instance rm_CL_instance).room s m args below meth c H locs 0 0 (xMQ below (Rx D classes (fun u => Wc ty h u px) A v) args s 1 6 A) (F0 m 125 ls [.int s0, .ref (h 25)]) := by
    intro H locs ls s0 σ hv hk hl hP hD hS
    unfold f_CL_instance_125 at hv
    unfold k_CL_instance_125 at hk
    obtain ⟨hk0, hk⟩ := hk
    refine va_callv (va_runV (As := [.int s0]) (rest := []) ⟨hx, hb, hml, hown, hg⟩ (c_Ro_join l D ty h px sa σ H.size s0 hk0) ⟨callB_of 1 hg (gw_C m_939) rfl rfl rfl (hg _ m_10) (hg _ m_936) hd_Ro_join ⟨Nat.le_of_ble_eq_true rfl, Nat.le_of_ble_eq_true rfl⟩, hg _ m_937, hg _ m_938⟩ (zz_preVW hM hS hA hN hK hP hD 25 rfl rfl) rfl rfl hl.1 rfl (lv_room (Nat.le_of_ble_eq_true rfl)) d_CL_instance_125 ⟨Nat.le_of_ble_eq_true rfl, Nat.le_of_ble_eq_true rfl⟩) hS (fun q _ h => zz_free hD hS hA q h) (zz_free hD hS hA) (fun u125 t H locs ht hvm hp hP1 hz hk1 hS => ?_)
    rw [ht] at hP1
    rw [← hp] at hv hk
    have hD : va_D A (Wc ty h u125 px) := zz_D hD rfl
    have hP := hP1
    exact B128 _ _ _  u125 hv hk (lv_sub hl [0] rfl) hP hD hS
  have B104 : ∀ (H : Heap) (locs : List Loc) (ls : Array Slot) (x1 : Int32) (x2 : Int32) (x3 : Int32) (σ : St), v = f_CL_instance_104 x1 x2 x3 σ → k_CL_instance_104 x1 x2 x3 σ → lv_has ls 4 [(0, .ref (h 0)), (1, .int x1), (2, .int x2), (3, .int x3)] → va_P D classes (Wc ty h σ px) H → va_D A (Wc ty h σ px) → va_S A s.heap H locs → W p l e (headSpec w_CL_instance rm_CL_instance).room s m args below meth c H locs 0 0 (xMQ below (Rx D classes (fun u => Wc ty h u px) A v) args s 1 6 A) (F0 m 104 ls []) := by
    intro H locs ls x1 x2 x3 σ hv hk hl hP hD hS
    unfold f_CL_instance_104 at hv
    unfold k_CL_instance_104 at hk
    refine lv_aload_n hx hb d_CL_instance_104 rfl (lv_at hl 0 rfl) ?_
    refine va_get (v := .ref (h 25)) (C := R_CL) (T := T_CL) (N := 11) hx hb hg in_CL hown hK hP 0 rfl rfl 7 (by decide) (hg _ m_291) (fun _ h9 => h9) rfl d_CL_instance_105 ?_
    refine lv_aload_n hx hb d_CL_instance_108 rfl (lv_at hl 0 rfl) ?_
    refine va_get (v := .ref (h 22)) (C := R_CL) (T := T_CL) (N := 11) hx hb hg in_CL hown hK hP 0 rfl rfl 5 (by decide) (hg _ m_289) (fun _ h9 => h9) rfl d_CL_instance_109 ?_
    refine lv_iload_n hx hb d_CL_instance_112 rfl (lv_at hl 2 rfl) ?_
    refine lv_iload_n hx hb d_CL_instance_113 rfl (lv_at hl 3 rfl) ?_
    refine lv_aload_n hx hb d_CL_instance_114 rfl (lv_at hl 0 rfl) ?_
    refine va_get (v := .ref (h 6)) (C := R_CL) (T := T_CL) (N := 11) hx hb hg in_CL hown hK hP 0 rfl rfl 1 (by decide) (hg _ m_285) (fun _ h9 => h9) rfl d_CL_instance_115 ?_
    refine lv_iload_n hx hb d_CL_instance_118 rfl (lv_at hl 1 rfl) ?_
    obtain ⟨hk0, hk⟩ := hk
    refine zz_callV (va_runV (As := [.int x1]) (rest := [.int x3, .int x2, .ref (h 22), .ref (h 25)]) ⟨hx, hb, hml, hown, hg⟩ (c_Te_firstOf l D ty h px sa σ x1 hk0) ⟨callB_of 1 hg (gw_C m_447) rfl rfl rfl (hg _ m_3) (hg _ m_444) hd_Te_firstOf ⟨Nat.le_of_ble_eq_true rfl, Nat.le_of_ble_eq_true rfl⟩, hg _ m_445, hg _ m_446⟩ (zz_preV (hM.at hS) hN hK hP 6 rfl rfl) rfl rfl hl.1 rfl (lv_room (Nat.le_of_ble_eq_true rfl)) d_CL_instance_119 ⟨Nat.le_of_ble_eq_true rfl, Nat.le_of_ble_eq_true rfl⟩) ?_
    obtain ⟨hk0, hk⟩ := hk
    refine va_calli (va_runV (As := [.int x2, .int x3, .int (f_Te_firstOf x1 σ)]) (rest := [.ref (h 25)]) ⟨hx, hb, hml, hown, hg⟩ (c_Pu_put l D ty h px sa σ H.size x2 x3 (f_Te_firstOf x1 σ) hk0) ⟨callB_of 3 hg (gw_C m_1183) rfl rfl rfl (hg _ m_7) (hg _ m_1180) hd_Pu_put ⟨Nat.le_of_ble_eq_true rfl, Nat.le_of_ble_eq_true rfl⟩, hg _ m_1181, hg _ m_1182⟩ (zz_preVW hM hS hA hN hK hP hD 22 rfl rfl) rfl rfl hl.1 rfl (lv_room (Nat.le_of_ble_eq_true rfl)) d_CL_instance_122 ⟨Nat.le_of_ble_eq_true rfl, Nat.le_of_ble_eq_true rfl⟩) hS (fun q _ h => zz_free hD hS hA q h) (zz_free hD hS hA) (fun r122 u122 t H locs ht hvm hp hP1 hz hk1 hS => ?_)
    rw [ht] at hP1
    rw [← hp] at hv hk
    have hD : va_D A (Wc ty h u122 px) := zz_D hD rfl
    have hP := hP1
    exact B125 _ _ _ r122 u122 hv hk (lv_sub hl [0] rfl) hP hD hS
  have B101 : ∀ (H : Heap) (locs : List Loc) (ls : Array Slot) (x1 : Int32) (x2 : Int32) (x3 : Int32) (s0 : Int32) (σ : St), v = f_CL_instance_101 x1 x2 x3 s0 σ → k_CL_instance_101 x1 x2 x3 s0 σ → lv_has ls 4 [(0, .ref (h 0)), (1, .int x1), (2, .int x2), (3, .int x3)] → va_P D classes (Wc ty h σ px) H → va_D A (Wc ty h σ px) → va_S A s.heap H locs → W p l e (headSpec w_CL_instance rm_CL_instance).room s m args below meth c H locs 0 0 (xMQ below (Rx D classes (fun u => Wc ty h u px) A v) args s 1 6 A) (F0 m 101 ls [.int s0, .ref (h 25)]) := by
    intro H locs ls x1 x2 x3 s0 σ hv hk hl hP hD hS
    unfold f_CL_instance_101 at hv
    unfold k_CL_instance_101 at hk
    obtain ⟨hk0, hk⟩ := hk
    refine va_callv (va_runV (As := [.int s0]) (rest := []) ⟨hx, hb, hml, hown, hg⟩ (c_Ro_join l D ty h px sa σ H.size s0 hk0) ⟨callB_of 1 hg (gw_C m_939) rfl rfl rfl (hg _ m_10) (hg _ m_936) hd_Ro_join ⟨Nat.le_of_ble_eq_true rfl, Nat.le_of_ble_eq_true rfl⟩, hg _ m_937, hg _ m_938⟩ (zz_preVW hM hS hA hN hK hP hD 25 rfl rfl) rfl rfl hl.1 rfl (lv_room (Nat.le_of_ble_eq_true rfl)) d_CL_instance_101 ⟨Nat.le_of_ble_eq_true rfl, Nat.le_of_ble_eq_true rfl⟩) hS (fun q _ h => zz_free hD hS hA q h) (zz_free hD hS hA) (fun u101 t H locs ht hvm hp hP1 hz hk1 hS => ?_)
    rw [ht] at hP1
    rw [← hp] at hv hk
    have hD : va_D A (Wc ty h u101 px) := zz_D hD rfl
    have hP := hP1
    exact B104 _ _ _ x1 x2 x3 u101 hv hk (lv_sub hl [0, 1, 2, 3] rfl) hP hD hS
  have B89 : ∀ (H : Heap) (locs : List Loc) (ls : Array Slot) (x1 : Int32) (x2 : Int32) (x3 : Int32) (σ : St), v = f_CL_instance_89 x1 x2 x3 σ → k_CL_instance_89 x1 x2 x3 σ → lv_has ls 4 [(0, .ref (h 0)), (1, .int x1), (2, .int x2), (3, .int x3)] → va_P D classes (Wc ty h σ px) H → va_D A (Wc ty h σ px) → va_S A s.heap H locs → W p l e (headSpec w_CL_instance rm_CL_instance).room s m args below meth c H locs 0 0 (xMQ below (Rx D classes (fun u => Wc ty h u px) A v) args s 1 6 A) (F0 m 89 ls []) := by
    intro H locs ls x1 x2 x3 σ hv hk hl hP hD hS
    unfold f_CL_instance_89 at hv
    unfold k_CL_instance_89 at hk
    refine lv_aload_n hx hb d_CL_instance_89 rfl (lv_at hl 0 rfl) ?_
    refine va_get (v := .ref (h 25)) (C := R_CL) (T := T_CL) (N := 11) hx hb hg in_CL hown hK hP 0 rfl rfl 7 (by decide) (hg _ m_291) (fun _ h9 => h9) rfl d_CL_instance_90 ?_
    refine lv_aload_n hx hb d_CL_instance_93 rfl (lv_at hl 0 rfl) ?_
    refine va_get (v := .ref (h 6)) (C := R_CL) (T := T_CL) (N := 11) hx hb hg in_CL hown hK hP 0 rfl rfl 1 (by decide) (hg _ m_285) (fun _ h9 => h9) rfl d_CL_instance_94 ?_
    refine lv_iload_n hx hb d_CL_instance_97 rfl (lv_at hl 1 rfl) ?_
    obtain ⟨hk0, hk⟩ := hk
    refine va_calli (va_runV (As := [.int x1]) (rest := [.ref (h 25)]) ⟨hx, hb, hml, hown, hg⟩ (c_Te_opposite l D ty h px sa σ H.size x1 hk0) ⟨callB_of 1 hg (gw_C m_1014) rfl rfl rfl (hg _ m_3) (hg _ m_1011) hd_Te_opposite ⟨Nat.le_of_ble_eq_true rfl, Nat.le_of_ble_eq_true rfl⟩, hg _ m_1012, hg _ m_1013⟩ (zz_preVW hM hS hA hN hK hP hD 6 rfl rfl) rfl rfl hl.1 rfl (lv_room (Nat.le_of_ble_eq_true rfl)) d_CL_instance_98 ⟨Nat.le_of_ble_eq_true rfl, Nat.le_of_ble_eq_true rfl⟩) hS (fun q _ h => zz_free hD hS hA q h) (zz_free hD hS hA) (fun r98 u98 t H locs ht hvm hp hP1 hz hk1 hS => ?_)
    rw [ht] at hP1
    rw [← hp] at hv hk
    have hD : va_D A (Wc ty h u98 px) := zz_D hD rfl
    have hP := hP1
    exact B101 _ _ _ x1 x2 x3 r98 u98 hv hk (lv_sub hl [0, 1, 2, 3] rfl) hP hD hS
  have B45 : ∀ (H : Heap) (locs : List Loc) (ls : Array Slot) (x1 : Int32) (x2 : Int32) (x3 : Int32) (σ : St), v = f_CL_instance_45 x1 x2 x3 σ → k_CL_instance_45 x1 x2 x3 σ → lv_has ls 4 [(0, .ref (h 0)), (1, .int x1), (2, .int x2), (3, .int x3)] → va_P D classes (Wc ty h σ px) H → va_D A (Wc ty h σ px) → va_S A s.heap H locs → W p l e (headSpec w_CL_instance rm_CL_instance).room s m args below meth c H locs 0 0 (xMQ below (Rx D classes (fun u => Wc ty h u px) A v) args s 1 6 A) (F0 m 45 ls []) := by
    intro H locs ls x1 x2 x3 σ hv hk hl hP hD hS
    unfold f_CL_instance_45 at hv
    unfold k_CL_instance_45 at hk
    refine lv_aload_n hx hb d_CL_instance_45 rfl (lv_at hl 0 rfl) ?_
    refine va_get (v := .ref (h 6)) (C := R_CL) (T := T_CL) (N := 11) hx hb hg in_CL hown hK hP 0 rfl rfl 1 (by decide) (hg _ m_285) (fun _ h9 => h9) rfl d_CL_instance_46 ?_
    refine lv_iload_n hx hb d_CL_instance_49 rfl (lv_at hl 1 rfl) ?_
    obtain ⟨hk0, hk⟩ := hk
    refine zz_callV (va_runV (As := [.int x1]) (rest := []) ⟨hx, hb, hml, hown, hg⟩ (c_Te_kindOf l D ty h px sa σ x1 hk0) ⟨callB_of 1 hg (gw_C m_434) rfl rfl rfl (hg _ m_3) (hg _ m_431) hd_Te_kindOf ⟨Nat.le_of_ble_eq_true rfl, Nat.le_of_ble_eq_true rfl⟩, hg _ m_432, hg _ m_433⟩ (zz_preV (hM.at hS) hN hK hP 6 rfl rfl) rfl rfl hl.1 rfl (lv_room (Nat.le_of_ble_eq_true rfl)) d_CL_instance_50 ⟨Nat.le_of_ble_eq_true rfl, Nat.le_of_ble_eq_true rfl⟩) ?_
    refine lv_bipush (v := 10) hx hb d_CL_instance_53 (by decide) ?_
    refine lv_icmp_ne (tgt := 77) hx hb d_CL_instance_55 (by decide) (fun hc => ?_) (fun hc => ?_)
    · have hv := hv.trans (if_neg hc)
      have hk := hk.2 hc
      exact B77 _ _ _  σ hv hk (lv_sub hl [0] rfl) hP hD hS
    · have hv := hv.trans (if_pos hc)
      have hk := hk.1 hc
      refine lv_aload_n hx hb d_CL_instance_58 rfl (lv_at hl 0 rfl) ?_
      refine va_get (v := .ref (h 6)) (C := R_CL) (T := T_CL) (N := 11) hx hb hg in_CL hown hK hP 0 rfl rfl 1 (by decide) (hg _ m_285) (fun _ h9 => h9) rfl d_CL_instance_59 ?_
      refine lv_iload_n hx hb d_CL_instance_62 rfl (lv_at hl 2 rfl) ?_
      obtain ⟨hk0, hk⟩ := hk
      refine zz_callV (va_runV (As := [.int x2]) (rest := []) ⟨hx, hb, hml, hown, hg⟩ (c_Te_sortOf l D ty h px sa σ x2 hk0) ⟨callB_of 1 hg (gw_C m_439) rfl rfl rfl (hg _ m_3) (hg _ m_436) hd_Te_sortOf ⟨Nat.le_of_ble_eq_true rfl, Nat.le_of_ble_eq_true rfl⟩, hg _ m_437, hg _ m_438⟩ (zz_preV (hM.at hS) hN hK hP 6 rfl rfl) rfl rfl hl.1 rfl (lv_room (Nat.le_of_ble_eq_true rfl)) d_CL_instance_63 ⟨Nat.le_of_ble_eq_true rfl, Nat.le_of_ble_eq_true rfl⟩) ?_
      refine lv_aload_n hx hb d_CL_instance_66 rfl (lv_at hl 0 rfl) ?_
      refine va_get (v := .ref (h 1)) (C := R_CL) (T := T_CL) (N := 11) hx hb hg in_CL hown hK hP 0 rfl rfl 0 (by decide) (hg _ m_284) (fun _ h9 => h9) rfl d_CL_instance_67 ?_
      refine lv_iload_n hx hb d_CL_instance_70 rfl (lv_at hl 3 rfl) ?_
      obtain ⟨hk0, hk⟩ := hk
      refine zz_callV (va_runV (As := [.int x3]) (rest := [.int (f_Te_sortOf x2 σ)]) ⟨hx, hb, hml, hown, hg⟩ (c_Sg_sortOfVariable l D ty h px sa σ x3 hk0) ⟨callB_of 1 hg (gw_C m_741) rfl rfl rfl (hg _ m_2) (hg _ m_1179) hd_Sg_sortOfVariable ⟨Nat.le_of_ble_eq_true rfl, Nat.le_of_ble_eq_true rfl⟩, hg _ m_739, hg _ m_740⟩ (zz_preV (hM.at hS) hN hK hP 1 rfl rfl) rfl rfl hl.1 rfl (lv_room (Nat.le_of_ble_eq_true rfl)) d_CL_instance_71 ⟨Nat.le_of_ble_eq_true rfl, Nat.le_of_ble_eq_true rfl⟩) ?_
      refine lv_icmp_eq (tgt := 82) hx hb d_CL_instance_74 (by decide) (fun hc => ?_) (fun hc => ?_)
      · have hv := hv.trans (if_pos hc)
        have hk := hk.1 hc
        refine lv_aload_n hx hb d_CL_instance_82 rfl (lv_at hl 0 rfl) ?_
        refine va_get (v := .ref (h 25)) (C := R_CL) (T := T_CL) (N := 11) hx hb hg in_CL hown hK hP 0 rfl rfl 7 (by decide) (hg _ m_291) (fun _ h9 => h9) rfl d_CL_instance_83 ?_
        obtain ⟨hk0, hk⟩ := hk
        refine va_callv (va_runV (As := []) (rest := []) ⟨hx, hb, hml, hown, hg⟩ (c_Ro_wipe l D ty h px sa σ H.size  hk0) ⟨callB_of 0 hg (gw_C m_935) rfl rfl rfl (hg _ m_10) (hg _ m_932) hd_Ro_wipe ⟨Nat.le_of_ble_eq_true rfl, Nat.le_of_ble_eq_true rfl⟩, hg _ m_933, hg _ m_934⟩ (zz_preVW hM hS hA hN hK hP hD 25 rfl rfl) rfl rfl hl.1 rfl (lv_room (Nat.le_of_ble_eq_true rfl)) d_CL_instance_86 ⟨Nat.le_of_ble_eq_true rfl, Nat.le_of_ble_eq_true rfl⟩) hS (fun q _ h => zz_free hD hS hA q h) (zz_free hD hS hA) (fun u86 t H locs ht hvm hp hP1 hz hk1 hS => ?_)
        rw [ht] at hP1
        rw [← hp] at hv hk
        have hD : va_D A (Wc ty h u86 px) := zz_D hD rfl
        have hP := hP1
        exact B89 _ _ _ x1 x2 x3 u86 hv hk (lv_sub hl [0, 1, 2, 3] rfl) hP hD hS
      · have hv := hv.trans (if_neg hc)
        have hk := hk.2 hc
        exact B77 _ _ _  σ hv hk (lv_sub hl [0] rfl) hP hD hS
  unfold f_CL_instance at hv
  unfold k_CL_instance at hk
  refine lv_aload_n hx hb d_CL_instance_0 rfl (lv_at hl 0 rfl) ?_
  obtain ⟨hk0, hk⟩ := hk
  refine zz_callV (va_runV (As := []) (rest := []) ⟨hx, hb, hml, hown, hg⟩ (c_CL_isShut l D ty h px sa σ  hk0) ⟨callB_of 0 hg (gw_C m_571) rfl rfl rfl (hg _ m_1) (hg _ m_568) hd_CL_isShut ⟨Nat.le_of_ble_eq_true rfl, Nat.le_of_ble_eq_true rfl⟩, hg _ m_570, hg _ ms_8⟩ (zz_preV (hM.at hS) hN hK hP 0 rfl rfl) rfl rfl hl.1 rfl (lv_room (Nat.le_of_ble_eq_true rfl)) d_CL_instance_1 ⟨Nat.le_of_ble_eq_true rfl, Nat.le_of_ble_eq_true rfl⟩) ?_
  refine lv_if_eq (tgt := 9) hx hb d_CL_instance_4 (by decide) (fun hc => ?_) (fun hc => ?_)
  · have hv := hv.trans (if_pos hc)
    have hk := hk.1 hc
    refine lv_aload_n hx hb d_CL_instance_9 rfl (lv_at hl 0 rfl) ?_
    refine va_get (v := .ref (h 6)) (C := R_CL) (T := T_CL) (N := 11) hx hb hg in_CL hown hK hP 0 rfl rfl 1 (by decide) (hg _ m_285) (fun _ h9 => h9) rfl d_CL_instance_10 ?_
    refine lv_iload_n hx hb d_CL_instance_13 rfl (lv_at hl 1 rfl) ?_
    obtain ⟨hk0, hk⟩ := hk
    refine zz_callV (va_runV (As := [.int a1]) (rest := []) ⟨hx, hb, hml, hown, hg⟩ (c_Te_has l D ty h px sa σ a1 hk0) ⟨callB_of 1 hg (gw_C m_430) rfl rfl rfl (hg _ m_3) (hg _ m_427) hd_Te_has ⟨Nat.le_of_ble_eq_true rfl, Nat.le_of_ble_eq_true rfl⟩, hg _ m_428, hg _ m_429⟩ (zz_preV (hM.at hS) hN hK hP 6 rfl rfl) rfl rfl hl.1 rfl (lv_room (Nat.le_of_ble_eq_true rfl)) d_CL_instance_14 ⟨Nat.le_of_ble_eq_true rfl, Nat.le_of_ble_eq_true rfl⟩) ?_
    refine lv_if_eq (tgt := 31) hx hb d_CL_instance_17 (by decide) (fun hc => ?_) (fun hc => ?_)
    · have hv := hv.trans (if_pos hc)
      have hk := hk.1 hc
      exact B31 _ _ _  σ hv hk (lv_sub hl [0] rfl) hP hD hS
    · have hv := hv.trans (if_neg hc)
      have hk := hk.2 hc
      refine lv_aload_n hx hb d_CL_instance_20 rfl (lv_at hl 0 rfl) ?_
      refine va_get (v := .ref (h 6)) (C := R_CL) (T := T_CL) (N := 11) hx hb hg in_CL hown hK hP 0 rfl rfl 1 (by decide) (hg _ m_285) (fun _ h9 => h9) rfl d_CL_instance_21 ?_
      refine lv_iload_n hx hb d_CL_instance_24 rfl (lv_at hl 2 rfl) ?_
      obtain ⟨hk0, hk⟩ := hk
      refine zz_callV (va_runV (As := [.int a2]) (rest := []) ⟨hx, hb, hml, hown, hg⟩ (c_Te_has l D ty h px sa σ a2 hk0) ⟨callB_of 1 hg (gw_C m_430) rfl rfl rfl (hg _ m_3) (hg _ m_427) hd_Te_has ⟨Nat.le_of_ble_eq_true rfl, Nat.le_of_ble_eq_true rfl⟩, hg _ m_428, hg _ m_429⟩ (zz_preV (hM.at hS) hN hK hP 6 rfl rfl) rfl rfl hl.1 rfl (lv_room (Nat.le_of_ble_eq_true rfl)) d_CL_instance_25 ⟨Nat.le_of_ble_eq_true rfl, Nat.le_of_ble_eq_true rfl⟩) ?_
      refine lv_if_ne (tgt := 36) hx hb d_CL_instance_28 (by decide) (fun hc => ?_) (fun hc => ?_)
      · have hv := hv.trans (if_neg hc)
        have hk := hk.2 hc
        refine lv_aload_n hx hb d_CL_instance_36 rfl (lv_at hl 0 rfl) ?_
        refine va_get (v := .ref (h 6)) (C := R_CL) (T := T_CL) (N := 11) hx hb hg in_CL hown hK hP 0 rfl rfl 1 (by decide) (hg _ m_285) (fun _ h9 => h9) rfl d_CL_instance_37 ?_
        refine lv_iload_n hx hb d_CL_instance_40 rfl (lv_at hl 1 rfl) ?_
        obtain ⟨hk0, hk⟩ := hk
        refine zz_callV (va_runV (As := [.int a1]) (rest := []) ⟨hx, hb, hml, hown, hg⟩ (c_Te_nameOf l D ty h px sa σ a1 hk0) ⟨callB_of 1 hg (gw_C m_455) rfl rfl rfl (hg _ m_3) (hg _ m_452) hd_Te_nameOf ⟨Nat.le_of_ble_eq_true rfl, Nat.le_of_ble_eq_true rfl⟩, hg _ m_453, hg _ m_454⟩ (zz_preV (hM.at hS) hN hK hP 6 rfl rfl) rfl rfl hl.1 rfl (lv_room (Nat.le_of_ble_eq_true rfl)) d_CL_instance_41 ⟨Nat.le_of_ble_eq_true rfl, Nat.le_of_ble_eq_true rfl⟩) ?_
        refine lv_istore_n (lv' := [(3, .int (f_Te_nameOf a1 σ)), (0, .ref (h 0)), (1, .int a1), (2, .int a2)]) hx hb d_CL_instance_44 rfl hl (by decide) rfl (fun ls hl => ?_)
        exact B45 _ _ _ a1 a2 (f_Te_nameOf a1 σ) σ hv hk (lv_sub hl [1, 2, 3, 0] rfl) hP hD hS
      · have hv := hv.trans (if_pos hc)
        have hk := hk.1 hc
        exact B31 _ _ _  σ hv hk (lv_sub hl [0] rfl) hP hD hS
  · have hv := hv.trans (if_neg hc)
    have hk := hk.2 hc
    refine lv_iconst (v := -1) hx hb d_CL_instance_7 (by decide) ?_
    exact x_ret (fun o t hq => by obtain ⟨rfl, ht⟩ := hq; exact ⟨hS.F ht, by rw [ht, hv]; exact hP, _, rfl, by rw [hv]⟩) (Nat.le_of_ble_eq_true rfl) (Nat.le_of_ble_eq_true rfl) (W.iret (Qc := fun _ _ o t => o = .returned (some (.int (-1))) ∧ t.heap = s.heap) hx hb hr (fun t ht hW => ⟨rfl, ht⟩) hS.2.2 d_CL_instance_8)

-- ClauseLedger$Scopes.isFull()Z
abbrev b_Sc_isFull : ByteArray := prog_7_method_3_code
def y_Sc_isFull : MethodName := ⟨"ClauseLedger$Scopes", "isFull", "()Z"⟩
theorem hd_Sc_isFull : y_Sc_isFull.cls ≠ "java/lang/invoke/MethodHandle" ∧ y_Sc_isFull.cls ≠ "java/lang/invoke/VarHandle" ∧ (parseMethodDescriptor y_Sc_isFull.desc).map (fun d => d.parameters.length) = some 0 := by decide +kernel
theorem d_Sc_isFull_0 : decode b_Sc_isFull 0 = .ok (.aload_n 0, 1) := by decide +kernel
theorem d_Sc_isFull_1 : decode b_Sc_isFull 1 = .ok (.getfield 22, 3) := by decide +kernel
theorem d_Sc_isFull_4 : decode b_Sc_isFull 4 = .ok (.bipush 20, 2) := by decide +kernel
theorem d_Sc_isFull_6 : decode b_Sc_isFull 6 = .ok (.if_icmp .le 7, 3) := by decide +kernel
theorem d_Sc_isFull_9 : decode b_Sc_isFull 9 = .ok (.iconst 1, 1) := by decide +kernel
theorem d_Sc_isFull_10 : decode b_Sc_isFull 10 = .ok (.goto 4, 3) := by decide +kernel
theorem d_Sc_isFull_13 : decode b_Sc_isFull 13 = .ok (.iconst 0, 1) := by decide +kernel
theorem d_Sc_isFull_14 : decode b_Sc_isFull 14 = .ok (.ireturn, 1) := by decide +kernel
def f_Sc_isFull_14 (s0 : Int32) (σ : St) : Int32 := s0
def k_Sc_isFull_14 (s0 : Int32) (σ : St) : Prop := (narrow .boolean (.int s0) = .int s0) ∧ True
def f_Sc_isFull (σ : St) : Int32 := if (σ.1 27 3) ≤ 20 then (f_Sc_isFull_14 0 σ) else (f_Sc_isFull_14 1 σ)
def k_Sc_isFull (σ : St) : Prop := ((σ.1 27 3) ≤ 20 → (k_Sc_isFull_14 0 σ)) ∧ (¬ (σ.1 27 3) ≤ 20 → (k_Sc_isFull_14 1 σ))
abbrev w_Sc_isFull : List Cond := Cond.code y_Sc_isFull b_Sc_isFull 1 (some .boolean) :: gw
abbrev rm_Sc_isFull : Room := { frames := 0, cells := 0, slots := 0, locals := 0 }
set_option maxHeartbeats 4000000 in
set_option maxRecDepth 100000 in
theorem c_Sc_isFull (l : Launch) (D : va_G) (ty : Nat → ClassId) (h : Nat → Nat) (px : va_W) (sa : Nat → Nat) (σ : St) (hk : k_Sc_isFull σ) : Met l y_Sc_isFull w_Sc_isFull rm_Sc_isFull (va_Pc [.ref (h 27)] (fun U => va_P D classes (Wc ty h σ px) U.heap ∧ va_K D classes (Ta ty) U ∧ NW U ∧ MK sa (fun _ => False) U U.heap)) (k2_QcV (.int (f_Sc_isFull σ))) 0 0 (fun _ => False) := by
  refine Met.ofW (cc := b_Sc_isFull) (maxL := 1) (ret := (some .boolean)) (by decide) rfl ?_
  intro p e s m args below meth c s₁ B hml hv
  obtain ⟨ha, hP, hK, hN, hM⟩ := hv
  have hx := B.exec
  have hb := B.bytes
  have hr := B.returns
  have hg : ∀ w ∈ gw, w.before args s = true := fun w h9 => atoms_spec (ws := w_Sc_isFull) B.pre w (List.mem_cons_of_mem _ h9)
  have hown : s.vm.findClass "ClauseLedger$Scopes" = some m.cls := findClass_of_methodNamed B.named
  have hlocks := B.notSynchronized
  have he : entryFrame m args 1 = entryFrame m ([.ref (h 27)] : List Value).toArray 1 := by rw [ha]
  rw [he, lg_entry_eq]
  have hl := lv_entry ([.ref (h 27)]) (n := 1) (Nat.le_of_ble_eq_true rfl)
  generalize (lg_sl ([.ref (h 27)]) ++ List.replicate (1 - (lg_sl ([.ref (h 27)])).length) Slot.unset).toArray = ls at hl ⊢
  have hl : lv_has ls 1 [(0, .ref (h 27))] := hl
  generalize hv : f_Sc_isFull σ = v
  replace hv := hv.symm
  have B14 : ∀ (ls : Array Slot) (s0 : Int32), v = f_Sc_isFull_14 s0 σ → k_Sc_isFull_14 s0 σ → lv_has ls 1 [] → W p l e (headSpec w_Sc_isFull rm_Sc_isFull).room s m args below meth c s.heap [] 0 0 (MQ below (k2_QcV (.int v)) args s 0 0 (fun _ => False)) (F0 m 14 ls [.int s0]) := by
    intro ls s0 hv hk hl
    unfold f_Sc_isFull_14 at hv
    unfold k_Sc_isFull_14 at hk
    obtain ⟨hk0, hk⟩ := hk
    exact W.zret hx hb hr hk0 (fun t ht hW => ⟨by rw [hv], ht⟩) (fun q h => nomatch h) d_Sc_isFull_14
  unfold f_Sc_isFull at hv
  unfold k_Sc_isFull at hk
  refine lv_aload_n hx hb d_Sc_isFull_0 rfl (lv_at hl 0 rfl) ?_
  refine va_get (v := .int (σ.1 27 3)) (C := R_Sc) (T := T_Sc) (N := 5) hx hb hg in_Sc hown hK hP 27 rfl rfl 3 (by decide) (hg _ m_248) (fun _ h9 => h9) rfl d_Sc_isFull_1 ?_
  refine lv_bipush (v := 20) hx hb d_Sc_isFull_4 (by decide) ?_
  refine lv_icmp_le (tgt := 13) hx hb d_Sc_isFull_6 (by decide) (fun hc => ?_) (fun hc => ?_)
  · have hv := hv.trans (if_pos hc)
    have hk := hk.1 hc
    refine lv_iconst (v := 0) hx hb d_Sc_isFull_13 (by decide) ?_
    exact B14 _ 0 hv hk (lv_sub hl [] rfl)
  · have hv := hv.trans (if_neg hc)
    have hk := hk.2 hc
    refine lv_iconst (v := 1) hx hb d_Sc_isFull_9 (by decide) ?_
    refine lv_goto (tgt := 14) hx hb d_Sc_isFull_10 (by decide) ?_
    exact B14 _ 1 hv hk (lv_sub hl [] rfl)

-- ClauseLedger$Scopes.depthOf(I)I
abbrev b_Sc_depthOf : ByteArray := prog_7_method_5_code
def y_Sc_depthOf : MethodName := ⟨"ClauseLedger$Scopes", "depthOf", "(I)I"⟩
theorem hd_Sc_depthOf : y_Sc_depthOf.cls ≠ "java/lang/invoke/MethodHandle" ∧ y_Sc_depthOf.cls ≠ "java/lang/invoke/VarHandle" ∧ (parseMethodDescriptor y_Sc_depthOf.desc).map (fun d => d.parameters.length) = some 1 := by decide +kernel
theorem d_Sc_depthOf_0 : decode b_Sc_depthOf 0 = .ok (.aload_n 0, 1) := by decide +kernel
theorem d_Sc_depthOf_1 : decode b_Sc_depthOf 1 = .ok (.iload_n 1, 1) := by decide +kernel
theorem d_Sc_depthOf_2 : decode b_Sc_depthOf 2 = .ok (.invokevirtual 29, 3) := by decide +kernel
theorem d_Sc_depthOf_5 : decode b_Sc_depthOf 5 = .ok (.ifCond .eq 12, 3) := by decide +kernel
theorem d_Sc_depthOf_8 : decode b_Sc_depthOf 8 = .ok (.aload_n 0, 1) := by decide +kernel
theorem d_Sc_depthOf_9 : decode b_Sc_depthOf 9 = .ok (.getfield 15, 3) := by decide +kernel
theorem d_Sc_depthOf_12 : decode b_Sc_depthOf 12 = .ok (.iload_n 1, 1) := by decide +kernel
theorem d_Sc_depthOf_13 : decode b_Sc_depthOf 13 = .ok (.iaload, 1) := by decide +kernel
theorem d_Sc_depthOf_14 : decode b_Sc_depthOf 14 = .ok (.goto 4, 3) := by decide +kernel
theorem d_Sc_depthOf_17 : decode b_Sc_depthOf 17 = .ok (.iconst 0, 1) := by decide +kernel
theorem d_Sc_depthOf_18 : decode b_Sc_depthOf 18 = .ok (.ireturn, 1) := by decide +kernel
def f_Sc_depthOf_18 (s0 : Int32) (σ : St) : Int32 := s0
def k_Sc_depthOf_18 (s0 : Int32) (σ : St) : Prop := True
def f_Sc_depthOf (a1 : Int32) (σ : St) : Int32 := if (f_Sc_has a1 σ) = 0 then (f_Sc_depthOf_18 0 σ) else (f_Sc_depthOf_18 (σ.1 29 a1.toNatClampNeg) σ)
def k_Sc_depthOf (a1 : Int32) (σ : St) : Prop := (k_Sc_has a1 σ) ∧ (((f_Sc_has a1 σ) = 0 → (k_Sc_depthOf_18 0 σ)) ∧ (¬ (f_Sc_has a1 σ) = 0 → (vp_in a1 21 ∧ (k_Sc_depthOf_18 (σ.1 29 a1.toNatClampNeg) σ))))
abbrev w_Sc_depthOf : List Cond := Cond.code y_Sc_depthOf b_Sc_depthOf 2 (some .int) :: gw
abbrev rm_Sc_depthOf : Room := { frames := 1, cells := 0, slots := 0, locals := 21 }
set_option maxHeartbeats 4000000 in
set_option maxRecDepth 100000 in
theorem c_Sc_depthOf (l : Launch) (D : va_G) (ty : Nat → ClassId) (h : Nat → Nat) (px : va_W) (sa : Nat → Nat) (σ : St) (a1 : Int32) (hk : k_Sc_depthOf a1 σ) : Met l y_Sc_depthOf w_Sc_depthOf rm_Sc_depthOf (va_Pc [.ref (h 27), .int a1] (fun U => va_P D classes (Wc ty h σ px) U.heap ∧ va_K D classes (Ta ty) U ∧ NW U ∧ MK sa (fun _ => False) U U.heap)) (k2_QcV (.int (f_Sc_depthOf a1 σ))) 0 0 (fun _ => False) := by
  refine Met.ofW (cc := b_Sc_depthOf) (maxL := 2) (ret := (some .int)) (by decide) rfl ?_
  intro p e s m args below meth c s₁ B hml hv
  obtain ⟨ha, hP, hK, hN, hM⟩ := hv
  have hx := B.exec
  have hb := B.bytes
  have hr := B.returns
  have hg : ∀ w ∈ gw, w.before args s = true := fun w h9 => atoms_spec (ws := w_Sc_depthOf) B.pre w (List.mem_cons_of_mem _ h9)
  have hown : s.vm.findClass "ClauseLedger$Scopes" = some m.cls := findClass_of_methodNamed B.named
  have hlocks := B.notSynchronized
  have he : entryFrame m args 2 = entryFrame m ([.ref (h 27), .int a1] : List Value).toArray 2 := by rw [ha]
  rw [he, lg_entry_eq]
  have hl := lv_entry ([.ref (h 27), .int a1]) (n := 2) (Nat.le_of_ble_eq_true rfl)
  generalize (lg_sl ([.ref (h 27), .int a1]) ++ List.replicate (2 - (lg_sl ([.ref (h 27), .int a1])).length) Slot.unset).toArray = ls at hl ⊢
  have hl : lv_has ls 2 [(0, .ref (h 27)), (1, .int a1)] := hl
  generalize hv : f_Sc_depthOf a1 σ = v
  replace hv := hv.symm
  have B18 : ∀ (ls : Array Slot) (s0 : Int32), v = f_Sc_depthOf_18 s0 σ → k_Sc_depthOf_18 s0 σ → lv_has ls 2 [] → W p l e (headSpec w_Sc_depthOf rm_Sc_depthOf).room s m args below meth c s.heap [] 0 0 (MQ below (k2_QcV (.int v)) args s 0 0 (fun _ => False)) (F0 m 18 ls [.int s0]) := by
    intro ls s0 hv hk hl
    unfold f_Sc_depthOf_18 at hv
    unfold k_Sc_depthOf_18 at hk
    exact W.iret hx hb hr (fun t ht hW => ⟨by rw [hv], ht⟩) (fun q h => nomatch h) d_Sc_depthOf_18
  unfold f_Sc_depthOf at hv
  unfold k_Sc_depthOf at hk
  refine lv_aload_n hx hb d_Sc_depthOf_0 rfl (lv_at hl 0 rfl) ?_
  refine lv_iload_n hx hb d_Sc_depthOf_1 rfl (lv_at hl 1 rfl) ?_
  obtain ⟨hk0, hk⟩ := hk
  refine zz_callV (va_runV (As := [.int a1]) (rest := []) ⟨hx, hb, hml, hown, hg⟩ (c_Sc_has l D ty h px sa σ a1 hk0) ⟨callB_of 1 hg (gw_C m_402) rfl rfl rfl (hg _ m_11) (hg _ m_399) hd_Sc_has ⟨Nat.le_of_ble_eq_true rfl, Nat.le_of_ble_eq_true rfl⟩, hg _ m_401, hg _ ms_2⟩ (zz_preV hM hN hK hP 27 rfl rfl) rfl rfl hl.1 rfl (lv_room (Nat.le_of_ble_eq_true rfl)) d_Sc_depthOf_2 ⟨Nat.le_of_ble_eq_true rfl, Nat.le_of_ble_eq_true rfl⟩) ?_
  refine lv_if_eq (tgt := 17) hx hb d_Sc_depthOf_5 (by decide) (fun hc => ?_) (fun hc => ?_)
  · have hv := hv.trans (if_pos hc)
    have hk := hk.1 hc
    refine lv_iconst (v := 0) hx hb d_Sc_depthOf_17 (by decide) ?_
    exact B18 _ 0 hv hk (lv_sub hl [] rfl)
  · have hv := hv.trans (if_neg hc)
    have hk := hk.2 hc
    refine lv_aload_n hx hb d_Sc_depthOf_8 rfl (lv_at hl 0 rfl) ?_
    refine va_get (v := .ref (h 29)) (C := R_Sc) (T := T_Sc) (N := 5) hx hb hg in_Sc hown hK hP 27 rfl rfl 1 (by decide) (hg _ m_246) (fun _ h9 => h9) rfl d_Sc_depthOf_9 ?_
    refine lv_iload_n hx hb d_Sc_depthOf_12 rfl (lv_at hl 1 rfl) ?_
    obtain ⟨hk0, hk⟩ := hk
    refine va_iald hx hb hK hP 29 0 rfl rfl hk0 d_Sc_depthOf_13 ?_
    refine lv_goto (tgt := 18) hx hb d_Sc_depthOf_14 (by decide) ?_
    exact B18 _ (σ.1 29 a1.toNatClampNeg) hv hk (lv_sub hl [] rfl)

-- ClauseLedger$Scopes.openInner()I
abbrev b_Sc_openInner : ByteArray := prog_7_method_7_code
def y_Sc_openInner : MethodName := ⟨"ClauseLedger$Scopes", "openInner", "()I"⟩
theorem hd_Sc_openInner : y_Sc_openInner.cls ≠ "java/lang/invoke/MethodHandle" ∧ y_Sc_openInner.cls ≠ "java/lang/invoke/VarHandle" ∧ (parseMethodDescriptor y_Sc_openInner.desc).map (fun d => d.parameters.length) = some 0 := by decide +kernel
theorem d_Sc_openInner_0 : decode b_Sc_openInner 0 = .ok (.aload_n 0, 1) := by decide +kernel
theorem d_Sc_openInner_1 : decode b_Sc_openInner 1 = .ok (.invokevirtual 33, 3) := by decide +kernel
theorem d_Sc_openInner_4 : decode b_Sc_openInner 4 = .ok (.ifCond .eq 5, 3) := by decide +kernel
theorem d_Sc_openInner_7 : decode b_Sc_openInner 7 = .ok (.iconst (-1), 1) := by decide +kernel
theorem d_Sc_openInner_8 : decode b_Sc_openInner 8 = .ok (.ireturn, 1) := by decide +kernel
theorem d_Sc_openInner_9 : decode b_Sc_openInner 9 = .ok (.aload_n 0, 1) := by decide +kernel
theorem d_Sc_openInner_10 : decode b_Sc_openInner 10 = .ok (.getfield 9, 3) := by decide +kernel
theorem d_Sc_openInner_13 : decode b_Sc_openInner 13 = .ok (.aload_n 0, 1) := by decide +kernel
theorem d_Sc_openInner_14 : decode b_Sc_openInner 14 = .ok (.getfield 22, 3) := by decide +kernel
theorem d_Sc_openInner_17 : decode b_Sc_openInner 17 = .ok (.aload_n 0, 1) := by decide +kernel
theorem d_Sc_openInner_18 : decode b_Sc_openInner 18 = .ok (.getfield 26, 3) := by decide +kernel
theorem d_Sc_openInner_21 : decode b_Sc_openInner 21 = .ok (.iastore, 1) := by decide +kernel
theorem d_Sc_openInner_22 : decode b_Sc_openInner 22 = .ok (.aload_n 0, 1) := by decide +kernel
theorem d_Sc_openInner_23 : decode b_Sc_openInner 23 = .ok (.getfield 15, 3) := by decide +kernel
theorem d_Sc_openInner_26 : decode b_Sc_openInner 26 = .ok (.aload_n 0, 1) := by decide +kernel
theorem d_Sc_openInner_27 : decode b_Sc_openInner 27 = .ok (.getfield 22, 3) := by decide +kernel
theorem d_Sc_openInner_30 : decode b_Sc_openInner 30 = .ok (.aload_n 0, 1) := by decide +kernel
theorem d_Sc_openInner_31 : decode b_Sc_openInner 31 = .ok (.aload_n 0, 1) := by decide +kernel
theorem d_Sc_openInner_32 : decode b_Sc_openInner 32 = .ok (.getfield 26, 3) := by decide +kernel
theorem d_Sc_openInner_35 : decode b_Sc_openInner 35 = .ok (.invokevirtual 37, 3) := by decide +kernel
theorem d_Sc_openInner_38 : decode b_Sc_openInner 38 = .ok (.iconst 1, 1) := by decide +kernel
theorem d_Sc_openInner_39 : decode b_Sc_openInner 39 = .ok (.iadd, 1) := by decide +kernel
theorem d_Sc_openInner_40 : decode b_Sc_openInner 40 = .ok (.iastore, 1) := by decide +kernel
theorem d_Sc_openInner_41 : decode b_Sc_openInner 41 = .ok (.aload_n 0, 1) := by decide +kernel
theorem d_Sc_openInner_42 : decode b_Sc_openInner 42 = .ok (.aload_n 0, 1) := by decide +kernel
theorem d_Sc_openInner_43 : decode b_Sc_openInner 43 = .ok (.getfield 22, 3) := by decide +kernel
theorem d_Sc_openInner_46 : decode b_Sc_openInner 46 = .ok (.putfield 26, 3) := by decide +kernel
theorem d_Sc_openInner_49 : decode b_Sc_openInner 49 = .ok (.aload_n 0, 1) := by decide +kernel
theorem d_Sc_openInner_50 : decode b_Sc_openInner 50 = .ok (.dup, 1) := by decide +kernel
theorem d_Sc_openInner_51 : decode b_Sc_openInner 51 = .ok (.getfield 22, 3) := by decide +kernel
theorem d_Sc_openInner_54 : decode b_Sc_openInner 54 = .ok (.iconst 1, 1) := by decide +kernel
theorem d_Sc_openInner_55 : decode b_Sc_openInner 55 = .ok (.iadd, 1) := by decide +kernel
theorem d_Sc_openInner_56 : decode b_Sc_openInner 56 = .ok (.putfield 22, 3) := by decide +kernel
theorem d_Sc_openInner_59 : decode b_Sc_openInner 59 = .ok (.aload_n 0, 1) := by decide +kernel
theorem d_Sc_openInner_60 : decode b_Sc_openInner 60 = .ok (.getfield 15, 3) := by decide +kernel
theorem d_Sc_openInner_63 : decode b_Sc_openInner 63 = .ok (.aload_n 0, 1) := by decide +kernel
theorem d_Sc_openInner_64 : decode b_Sc_openInner 64 = .ok (.getfield 26, 3) := by decide +kernel
theorem d_Sc_openInner_67 : decode b_Sc_openInner 67 = .ok (.iaload, 1) := by decide +kernel
theorem d_Sc_openInner_68 : decode b_Sc_openInner 68 = .ok (.ireturn, 1) := by decide +kernel
def f_Sc_openInner_59 (σ : St) : Int32 × St := (σ.1 29 (σ.1 27 4).toNatClampNeg, σ)
def k_Sc_openInner_59 (σ : St) : Prop := vp_in (σ.1 27 4) 21 ∧ True
def f_Sc_openInner_49 (σ : St) : Int32 × St := f_Sc_openInner_59 (sF σ 27 3 ((σ.1 27 3) + 1))
def k_Sc_openInner_49 (σ : St) : Prop := k_Sc_openInner_59 (sF σ 27 3 ((σ.1 27 3) + 1))
def f_Sc_openInner_41 (σ : St) : Int32 × St := f_Sc_openInner_49 (sF σ 27 4 (σ.1 27 3))
def k_Sc_openInner_41 (σ : St) : Prop := k_Sc_openInner_49 (sF σ 27 4 (σ.1 27 3))
def f_Sc_openInner_22 (σ : St) : Int32 × St := f_Sc_openInner_41 (sA σ 29 (σ.1 27 3) ((f_Sc_depthOf (σ.1 27 4) σ) + 1))
def k_Sc_openInner_22 (σ : St) : Prop := (k_Sc_depthOf (σ.1 27 4) σ) ∧ (vp_in (σ.1 27 3) 21 ∧ (k_Sc_openInner_41 (sA σ 29 (σ.1 27 3) ((f_Sc_depthOf (σ.1 27 4) σ) + 1))))
def f_Sc_openInner (σ : St) : Int32 × St := if (f_Sc_isFull σ) = 0 then (f_Sc_openInner_22 (sA σ 28 (σ.1 27 3) (σ.1 27 4))) else ((-1), σ)
def k_Sc_openInner (σ : St) : Prop := (k_Sc_isFull σ) ∧ (((f_Sc_isFull σ) = 0 → (vp_in (σ.1 27 3) 21 ∧ (k_Sc_openInner_22 (sA σ 28 (σ.1 27 3) (σ.1 27 4))))) ∧ (¬ (f_Sc_isFull σ) = 0 → True))
abbrev w_Sc_openInner : List Cond := Cond.code y_Sc_openInner b_Sc_openInner 1 (some .int) :: gw
abbrev rm_Sc_openInner : Room := { frames := 2, cells := 0, slots := 0, locals := 42 }
set_option maxHeartbeats 4000000 in
set_option maxRecDepth 100000 in
theorem c_Sc_openInner (l : Launch) (D : va_G) (ty : Nat → ClassId) (h : Nat → Nat) (px : va_W) (sa : Nat → Nat) (σ : St) (sz : Nat) (hk : k_Sc_openInner σ) : Met l y_Sc_openInner w_Sc_openInner rm_Sc_openInner (va_Pc [.ref (h 27)] (fun U => U.heap.size = sz ∧ va_P D classes (Wc ty h σ px) U.heap ∧ va_K D classes (Ta ty) U ∧ NW U ∧ MK sa (va_A (Wc ty h σ px) sz) U U.heap ∧ va_D (fun _ => True) (Wc ty h σ px))) (va_Qi (fun r (u : St) => (r, u) = f_Sc_openInner σ) (fun u t => va_P D classes (Wc ty h u px) t.heap) (va_A (Wc ty h σ px) sz)) 0 0 (va_A (Wc ty h σ px) sz) := by
  refine Met.ofW (cc := b_Sc_openInner) (maxL := 1) (ret := (some .int)) (by decide) rfl ?_
  intro p e s m args below meth c s₁ B hml hv
  obtain ⟨ha, hsz, hP, hK, hN, hM, hD0⟩ := hv
  have hx := B.exec
  have hb := B.bytes
  have hr := B.returns
  have hg : ∀ w ∈ gw, w.before args s = true := fun w h9 => atoms_spec (ws := w_Sc_openInner) B.pre w (List.mem_cons_of_mem _ h9)
  have hown : s.vm.findClass "ClauseLedger$Scopes" = some m.cls := findClass_of_methodNamed B.named
  have hlocks := B.notSynchronized
  subst hsz
  have hD := hD0.self (sz := s.heap.size)
  generalize hAe : va_A (Wc ty h σ px) s.heap.size = A at hD hM ⊢
  have hA : ∀ q : Nat, s.heap.size ≤ q → A q := fun q h9 => by rw [← hAe]; exact Or.inr h9
  have hS : va_S A s.heap s.heap [] := va_S.rf
  have he : entryFrame m args 1 = entryFrame m ([.ref (h 27)] : List Value).toArray 1 := by rw [ha]
  rw [he, lg_entry_eq]
  have hl := lv_entry ([.ref (h 27)]) (n := 1) (Nat.le_of_ble_eq_true rfl)
  generalize (lg_sl ([.ref (h 27)]) ++ List.replicate (1 - (lg_sl ([.ref (h 27)])).length) Slot.unset).toArray = ls at hl ⊢
  have hl : lv_has ls 1 [(0, .ref (h 27))] := hl
  generalize hv : f_Sc_openInner σ = v
  replace hv := hv.symm
  have B59 : ∀ (H : Heap) (locs : List Loc) (ls : Array Slot) (σ : St), v = f_Sc_openInner_59 σ → k_Sc_openInner_59 σ → lv_has ls 1 [(0, .ref (h 27))] → va_P D classes (Wc ty h σ px) H → va_D A (Wc ty h σ px) → va_S A s.heap H locs → W p l e (headSpec w_Sc_openInner rm_Sc_openInner).room s m args below meth c H locs 0 0 (MQ below (va_Qi (fun r (u : St) => (r, u) = v) (fun u t => va_P D classes (Wc ty h u px) t.heap) A) args s 0 0 A) (F0 m 59 ls []) := by
    intro H locs ls σ hv hk hl hP hD hS
    unfold f_Sc_openInner_59 at hv
    unfold k_Sc_openInner_59 at hk
    refine lv_aload_n hx hb d_Sc_openInner_59 rfl (lv_at hl 0 rfl) ?_
    refine va_get (v := .ref (h 29)) (C := R_Sc) (T := T_Sc) (N := 5) hx hb hg in_Sc hown hK hP 27 rfl rfl 1 (by decide) (hg _ m_246) (fun _ h9 => h9) rfl d_Sc_openInner_60 ?_
    refine lv_aload_n hx hb d_Sc_openInner_63 rfl (lv_at hl 0 rfl) ?_
    refine va_get (v := .int (σ.1 27 4)) (C := R_Sc) (T := T_Sc) (N := 5) hx hb hg in_Sc hown hK hP 27 rfl rfl 4 (by decide) (hg _ m_249) (fun _ h9 => h9) rfl d_Sc_openInner_64 ?_
    obtain ⟨hk0, hk⟩ := hk
    refine va_iald hx hb hK hP 29 0 rfl rfl hk0 d_Sc_openInner_67 ?_
    exact W.iret hx hb hr (fun t ht hW => ⟨⟨_, _, rfl, hv.symm, by dsimp only; rw [ht]; exact hP⟩, hS.F ht⟩) hS.2.2 d_Sc_openInner_68
  have B49 : ∀ (H : Heap) (locs : List Loc) (ls : Array Slot) (σ : St), v = f_Sc_openInner_49 σ → k_Sc_openInner_49 σ → lv_has ls 1 [(0, .ref (h 27))] → va_P D classes (Wc ty h σ px) H → va_D A (Wc ty h σ px) → va_S A s.heap H locs → W p l e (headSpec w_Sc_openInner rm_Sc_openInner).room s m args below meth c H locs 0 0 (MQ below (va_Qi (fun r (u : St) => (r, u) = v) (fun u t => va_P D classes (Wc ty h u px) t.heap) A) args s 0 0 A) (F0 m 49 ls []) := by
    intro H locs ls σ hv hk hl hP hD hS
    unfold f_Sc_openInner_49 at hv
    unfold k_Sc_openInner_49 at hk
    refine lv_aload_n hx hb d_Sc_openInner_49 rfl (lv_at hl 0 rfl) ?_
    refine lv_dup hx hb d_Sc_openInner_50 rfl ?_
    refine va_get (v := .int (σ.1 27 3)) (C := R_Sc) (T := T_Sc) (N := 5) hx hb hg in_Sc hown hK hP 27 rfl rfl 3 (by decide) (hg _ m_248) (fun _ h9 => h9) rfl d_Sc_openInner_51 ?_
    refine lv_iconst (v := 1) hx hb d_Sc_openInner_54 (by decide) ?_
    refine lv_iadd hx hb d_Sc_openInner_55 ?_
    refine va_put (v := .int ((σ.1 27 3) + 1)) (ty := .int) (C := R_Sc) (T := T_Sc) (N := 5) hx hb hg in_Sc ty_Sc ok_Sc nm_Sc hown hK hP hD hS 27 rfl rfl 3 (by decide) (hg _ m_248) (fun _ h9 => h9) rfl (by decide +kernel) rfl rfl (Nat.le_of_ble_eq_true rfl) d_Sc_openInner_56 (fun H locs hP hD hS => ?_)
    have hP : va_P D classes (Wc ty h (sF σ 27 3 ((σ.1 27 3) + 1)) px) H := hP
    have hD : va_D A (Wc ty h (sF σ 27 3 ((σ.1 27 3) + 1)) px) := hD
    exact B59 _ _ _  (sF σ 27 3 ((σ.1 27 3) + 1)) hv hk (lv_sub hl [0] rfl) hP hD hS
  have B41 : ∀ (H : Heap) (locs : List Loc) (ls : Array Slot) (σ : St), v = f_Sc_openInner_41 σ → k_Sc_openInner_41 σ → lv_has ls 1 [(0, .ref (h 27))] → va_P D classes (Wc ty h σ px) H → va_D A (Wc ty h σ px) → va_S A s.heap H locs → W p l e (headSpec w_Sc_openInner rm_Sc_openInner).room s m args below meth c H locs 0 0 (MQ below (va_Qi (fun r (u : St) => (r, u) = v) (fun u t => va_P D classes (Wc ty h u px) t.heap) A) args s 0 0 A) (F0 m 41 ls []) := by
    intro H locs ls σ hv hk hl hP hD hS
    unfold f_Sc_openInner_41 at hv
    unfold k_Sc_openInner_41 at hk
    refine lv_aload_n hx hb d_Sc_openInner_41 rfl (lv_at hl 0 rfl) ?_
    refine lv_aload_n hx hb d_Sc_openInner_42 rfl (lv_at hl 0 rfl) ?_
    refine va_get (v := .int (σ.1 27 3)) (C := R_Sc) (T := T_Sc) (N := 5) hx hb hg in_Sc hown hK hP 27 rfl rfl 3 (by decide) (hg _ m_248) (fun _ h9 => h9) rfl d_Sc_openInner_43 ?_
    refine va_put (v := .int (σ.1 27 3)) (ty := .int) (C := R_Sc) (T := T_Sc) (N := 5) hx hb hg in_Sc ty_Sc ok_Sc nm_Sc hown hK hP hD hS 27 rfl rfl 4 (by decide) (hg _ m_249) (fun _ h9 => h9) rfl (by decide +kernel) rfl rfl (Nat.le_of_ble_eq_true rfl) d_Sc_openInner_46 (fun H locs hP hD hS => ?_)
    have hP : va_P D classes (Wc ty h (sF σ 27 4 (σ.1 27 3)) px) H := hP
    have hD : va_D A (Wc ty h (sF σ 27 4 (σ.1 27 3)) px) := hD
    exact B49 _ _ _  (sF σ 27 4 (σ.1 27 3)) hv hk (lv_sub hl [0] rfl) hP hD hS
  have B22 : ∀ (H : Heap) (locs : List Loc) (ls : Array Slot) (σ : St), v = f_Sc_openInner_22 σ → k_Sc_openInner_22 σ → lv_has ls 1 [(0, .ref (h 27))] → va_P D classes (Wc ty h σ px) H → va_D A (Wc ty h σ px) → va_S A s.heap H locs → W p l e (headSpec w_Sc_openInner rm_Sc_openInner).room s m args below meth c H locs 0 0 (MQ below (va_Qi (fun r (u : St) => (r, u) = v) (fun u t => va_P D classes (Wc ty h u px) t.heap) A) args s 0 0 A) (F0 m 22 ls []) := by
    intro H locs ls σ hv hk hl hP hD hS
    unfold f_Sc_openInner_22 at hv
    unfold k_Sc_openInner_22 at hk
    refine lv_aload_n hx hb d_Sc_openInner_22 rfl (lv_at hl 0 rfl) ?_
    refine va_get (v := .ref (h 29)) (C := R_Sc) (T := T_Sc) (N := 5) hx hb hg in_Sc hown hK hP 27 rfl rfl 1 (by decide) (hg _ m_246) (fun _ h9 => h9) rfl d_Sc_openInner_23 ?_
    refine lv_aload_n hx hb d_Sc_openInner_26 rfl (lv_at hl 0 rfl) ?_
    refine va_get (v := .int (σ.1 27 3)) (C := R_Sc) (T := T_Sc) (N := 5) hx hb hg in_Sc hown hK hP 27 rfl rfl 3 (by decide) (hg _ m_248) (fun _ h9 => h9) rfl d_Sc_openInner_27 ?_
    refine lv_aload_n hx hb d_Sc_openInner_30 rfl (lv_at hl 0 rfl) ?_
    refine lv_aload_n hx hb d_Sc_openInner_31 rfl (lv_at hl 0 rfl) ?_
    refine va_get (v := .int (σ.1 27 4)) (C := R_Sc) (T := T_Sc) (N := 5) hx hb hg in_Sc hown hK hP 27 rfl rfl 4 (by decide) (hg _ m_249) (fun _ h9 => h9) rfl d_Sc_openInner_32 ?_
    obtain ⟨hk0, hk⟩ := hk
    refine zz_callV (va_runV (As := [.int (σ.1 27 4)]) (rest := [.int (σ.1 27 3), .ref (h 29)]) ⟨hx, hb, hml, hown, hg⟩ (c_Sc_depthOf l D ty h px sa σ (σ.1 27 4) hk0) ⟨callB_of 1 hg (gw_C m_398) rfl rfl rfl (hg _ m_11) (hg _ m_1225) hd_Sc_depthOf ⟨Nat.le_of_ble_eq_true rfl, Nat.le_of_ble_eq_true rfl⟩, hg _ m_396, hg _ m_397⟩ (zz_preV (hM.at hS) hN hK hP 27 rfl rfl) rfl rfl hl.1 rfl (lv_room (Nat.le_of_ble_eq_true rfl)) d_Sc_openInner_35 ⟨Nat.le_of_ble_eq_true rfl, Nat.le_of_ble_eq_true rfl⟩) ?_
    refine lv_iconst (v := 1) hx hb d_Sc_openInner_38 (by decide) ?_
    refine lv_iadd hx hb d_Sc_openInner_39 ?_
    obtain ⟨hk0, hk⟩ := hk
    refine va_iast hx hb hK hP hD hS 29 0 rfl rfl hk0 d_Sc_openInner_40 (fun H locs hP hD hS => ?_)
    have hP : va_P D classes (Wc ty h (sA σ 29 (σ.1 27 3) ((f_Sc_depthOf (σ.1 27 4) σ) + 1)) px) H := hP
    have hD : va_D A (Wc ty h (sA σ 29 (σ.1 27 3) ((f_Sc_depthOf (σ.1 27 4) σ) + 1)) px) := hD
    exact B41 _ _ _  (sA σ 29 (σ.1 27 3) ((f_Sc_depthOf (σ.1 27 4) σ) + 1)) hv hk (lv_sub hl [0] rfl) hP hD hS
  unfold f_Sc_openInner at hv
  unfold k_Sc_openInner at hk
  refine lv_aload_n hx hb d_Sc_openInner_0 rfl (lv_at hl 0 rfl) ?_
  obtain ⟨hk0, hk⟩ := hk
  refine zz_callV (va_runV (As := []) (rest := []) ⟨hx, hb, hml, hown, hg⟩ (c_Sc_isFull l D ty h px sa σ  hk0) ⟨callB_of 0 hg (gw_C m_1219) rfl rfl rfl (hg _ m_11) (hg _ m_1224) hd_Sc_isFull ⟨Nat.le_of_ble_eq_true rfl, Nat.le_of_ble_eq_true rfl⟩, hg _ m_1217, hg _ m_1218⟩ (zz_preV (hM.at hS) hN hK hP 27 rfl rfl) rfl rfl hl.1 rfl (lv_room (Nat.le_of_ble_eq_true rfl)) d_Sc_openInner_1 ⟨Nat.le_of_ble_eq_true rfl, Nat.le_of_ble_eq_true rfl⟩) ?_
  refine lv_if_eq (tgt := 9) hx hb d_Sc_openInner_4 (by decide) (fun hc => ?_) (fun hc => ?_)
  · have hv := hv.trans (if_pos hc)
    have hk := hk.1 hc
    refine lv_aload_n hx hb d_Sc_openInner_9 rfl (lv_at hl 0 rfl) ?_
    refine va_get (v := .ref (h 28)) (C := R_Sc) (T := T_Sc) (N := 5) hx hb hg in_Sc hown hK hP 27 rfl rfl 0 (by decide) (hg _ m_245) (fun _ h9 => h9) rfl d_Sc_openInner_10 ?_
    refine lv_aload_n hx hb d_Sc_openInner_13 rfl (lv_at hl 0 rfl) ?_
    refine va_get (v := .int (σ.1 27 3)) (C := R_Sc) (T := T_Sc) (N := 5) hx hb hg in_Sc hown hK hP 27 rfl rfl 3 (by decide) (hg _ m_248) (fun _ h9 => h9) rfl d_Sc_openInner_14 ?_
    refine lv_aload_n hx hb d_Sc_openInner_17 rfl (lv_at hl 0 rfl) ?_
    refine va_get (v := .int (σ.1 27 4)) (C := R_Sc) (T := T_Sc) (N := 5) hx hb hg in_Sc hown hK hP 27 rfl rfl 4 (by decide) (hg _ m_249) (fun _ h9 => h9) rfl d_Sc_openInner_18 ?_
    obtain ⟨hk0, hk⟩ := hk
    refine va_iast hx hb hK hP hD hS 28 0 rfl rfl hk0 d_Sc_openInner_21 (fun H locs hP hD hS => ?_)
    have hP : va_P D classes (Wc ty h (sA σ 28 (σ.1 27 3) (σ.1 27 4)) px) H := hP
    have hD : va_D A (Wc ty h (sA σ 28 (σ.1 27 3) (σ.1 27 4)) px) := hD
    exact B22 _ _ _  (sA σ 28 (σ.1 27 3) (σ.1 27 4)) hv hk (lv_sub hl [0] rfl) hP hD hS
  · have hv := hv.trans (if_neg hc)
    have hk := hk.2 hc
    refine lv_iconst (v := -1) hx hb d_Sc_openInner_7 (by decide) ?_
    exact W.iret hx hb hr (fun t ht hW => ⟨⟨_, _, rfl, hv.symm, by dsimp only; rw [ht]; exact hP⟩, hS.F ht⟩) hS.2.2 d_Sc_openInner_8

