-- ClauseLedger.cut(III)I
abbrev b_CL_cut : ByteArray := prog_1_method_8_code
def y_CL_cut : MethodName := ⟨"ClauseLedger", "cut", "(III)I"⟩
theorem hd_CL_cut : y_CL_cut.cls ≠ "java/lang/invoke/MethodHandle" ∧ y_CL_cut.cls ≠ "java/lang/invoke/VarHandle" ∧ (parseMethodDescriptor y_CL_cut.desc).map (fun d => d.parameters.length) = some 3 := by decide +kernel
theorem d_CL_cut_0 : decode b_CL_cut 0 = .ok (.aload_n 0, 1) := by decide +kernel
theorem d_CL_cut_1 : decode b_CL_cut 1 = .ok (.invokevirtual 102, 3) := by decide +kernel
theorem d_CL_cut_4 : decode b_CL_cut 4 = .ok (.ifCond .eq 5, 3) := by decide +kernel
theorem d_CL_cut_7 : decode b_CL_cut 7 = .ok (.iconst (-1), 1) := by decide +kernel
theorem d_CL_cut_8 : decode b_CL_cut 8 = .ok (.ireturn, 1) := by decide +kernel
theorem d_CL_cut_9 : decode b_CL_cut 9 = .ok (.aload_n 0, 1) := by decide +kernel
theorem d_CL_cut_10 : decode b_CL_cut 10 = .ok (.iload_n 1, 1) := by decide +kernel
theorem d_CL_cut_11 : decode b_CL_cut 11 = .ok (.invokevirtual 152, 3) := by decide +kernel
theorem d_CL_cut_14 : decode b_CL_cut 14 = .ok (.ifCond .eq 22, 3) := by decide +kernel
theorem d_CL_cut_17 : decode b_CL_cut 17 = .ok (.aload_n 0, 1) := by decide +kernel
theorem d_CL_cut_18 : decode b_CL_cut 18 = .ok (.getfield 19, 3) := by decide +kernel
theorem d_CL_cut_21 : decode b_CL_cut 21 = .ok (.iload_n 2, 1) := by decide +kernel
theorem d_CL_cut_22 : decode b_CL_cut 22 = .ok (.invokevirtual 130, 3) := by decide +kernel
theorem d_CL_cut_25 : decode b_CL_cut 25 = .ok (.ifCond .eq 11, 3) := by decide +kernel
theorem d_CL_cut_28 : decode b_CL_cut 28 = .ok (.aload_n 0, 1) := by decide +kernel
theorem d_CL_cut_29 : decode b_CL_cut 29 = .ok (.iload_n 3, 1) := by decide +kernel
theorem d_CL_cut_30 : decode b_CL_cut 30 = .ok (.invokevirtual 152, 3) := by decide +kernel
theorem d_CL_cut_33 : decode b_CL_cut 33 = .ok (.ifCond .ne 8, 3) := by decide +kernel
theorem d_CL_cut_36 : decode b_CL_cut 36 = .ok (.aload_n 0, 1) := by decide +kernel
theorem d_CL_cut_37 : decode b_CL_cut 37 = .ok (.invokevirtual 134, 3) := by decide +kernel
theorem d_CL_cut_40 : decode b_CL_cut 40 = .ok (.ireturn, 1) := by decide +kernel
theorem d_CL_cut_41 : decode b_CL_cut 41 = .ok (.aload_n 0, 1) := by decide +kernel
theorem d_CL_cut_42 : decode b_CL_cut 42 = .ok (.getfield 19, 3) := by decide +kernel
theorem d_CL_cut_45 : decode b_CL_cut 45 = .ok (.iload_n 2, 1) := by decide +kernel
theorem d_CL_cut_46 : decode b_CL_cut 46 = .ok (.invokevirtual 155, 3) := by decide +kernel
theorem d_CL_cut_49 : decode b_CL_cut 49 = .ok (.istore 4, 2) := by decide +kernel
theorem d_CL_cut_51 : decode b_CL_cut 51 = .ok (.iload 4, 2) := by decide +kernel
theorem d_CL_cut_53 : decode b_CL_cut 53 = .ok (.iconst (-1), 1) := by decide +kernel
theorem d_CL_cut_54 : decode b_CL_cut 54 = .ok (.if_icmp .eq 28, 3) := by decide +kernel
theorem d_CL_cut_57 : decode b_CL_cut 57 = .ok (.aload_n 0, 1) := by decide +kernel
theorem d_CL_cut_58 : decode b_CL_cut 58 = .ok (.getfield 79, 3) := by decide +kernel
theorem d_CL_cut_61 : decode b_CL_cut 61 = .ok (.iload_n 1, 1) := by decide +kernel
theorem d_CL_cut_62 : decode b_CL_cut 62 = .ok (.iload_n 2, 1) := by decide +kernel
theorem d_CL_cut_63 : decode b_CL_cut 63 = .ok (.invokevirtual 159, 3) := by decide +kernel
theorem d_CL_cut_66 : decode b_CL_cut 66 = .ok (.ifCond .eq 16, 3) := by decide +kernel
theorem d_CL_cut_69 : decode b_CL_cut 69 = .ok (.aload_n 0, 1) := by decide +kernel
theorem d_CL_cut_70 : decode b_CL_cut 70 = .ok (.getfield 79, 3) := by decide +kernel
theorem d_CL_cut_73 : decode b_CL_cut 73 = .ok (.iload_n 3, 1) := by decide +kernel
theorem d_CL_cut_74 : decode b_CL_cut 74 = .ok (.iload 4, 2) := by decide +kernel
theorem d_CL_cut_76 : decode b_CL_cut 76 = .ok (.invokevirtual 159, 3) := by decide +kernel
theorem d_CL_cut_79 : decode b_CL_cut 79 = .ok (.ifCond .ne 8, 3) := by decide +kernel
theorem d_CL_cut_82 : decode b_CL_cut 82 = .ok (.aload_n 0, 1) := by decide +kernel
theorem d_CL_cut_83 : decode b_CL_cut 83 = .ok (.invokevirtual 112, 3) := by decide +kernel
theorem d_CL_cut_86 : decode b_CL_cut 86 = .ok (.ireturn, 1) := by decide +kernel
theorem d_CL_cut_87 : decode b_CL_cut 87 = .ok (.aload_n 0, 1) := by decide +kernel
theorem d_CL_cut_88 : decode b_CL_cut 88 = .ok (.getfield 65, 3) := by decide +kernel
theorem d_CL_cut_91 : decode b_CL_cut 91 = .ok (.invokevirtual 140, 3) := by decide +kernel
theorem d_CL_cut_94 : decode b_CL_cut 94 = .ok (.aload_n 0, 1) := by decide +kernel
theorem d_CL_cut_95 : decode b_CL_cut 95 = .ok (.iload_n 1, 1) := by decide +kernel
theorem d_CL_cut_96 : decode b_CL_cut 96 = .ok (.iload_n 2, 1) := by decide +kernel
theorem d_CL_cut_97 : decode b_CL_cut 97 = .ok (.invokevirtual 162, 3) := by decide +kernel
theorem d_CL_cut_100 : decode b_CL_cut 100 = .ok (.aload_n 0, 1) := by decide +kernel
theorem d_CL_cut_101 : decode b_CL_cut 101 = .ok (.iload_n 3, 1) := by decide +kernel
theorem d_CL_cut_102 : decode b_CL_cut 102 = .ok (.iload 4, 2) := by decide +kernel
theorem d_CL_cut_104 : decode b_CL_cut 104 = .ok (.invokevirtual 162, 3) := by decide +kernel
theorem d_CL_cut_107 : decode b_CL_cut 107 = .ok (.aload_n 0, 1) := by decide +kernel
theorem d_CL_cut_108 : decode b_CL_cut 108 = .ok (.aload_n 0, 1) := by decide +kernel
theorem d_CL_cut_109 : decode b_CL_cut 109 = .ok (.getfield 72, 3) := by decide +kernel
theorem d_CL_cut_112 : decode b_CL_cut 112 = .ok (.invokevirtual 145, 3) := by decide +kernel
theorem d_CL_cut_115 : decode b_CL_cut 115 = .ok (.iconst 0, 1) := by decide +kernel
theorem d_CL_cut_116 : decode b_CL_cut 116 = .ok (.invokevirtual 148, 3) := by decide +kernel
theorem d_CL_cut_119 : decode b_CL_cut 119 = .ok (.ireturn, 1) := by decide +kernel
def f_CL_cut_40 (s0 : Int32) (σ : St) : XR := (.inl s0, σ)
def k_CL_cut_40 (s0 : Int32) (σ : St) : Prop := True
def f_CL_cut_36 (σ : St) : XR := xb (f_CL_throwMissing σ) (fun x u => f_CL_cut_40 x u)
def k_CL_cut_36 (σ : St) : Prop := (k_CL_throwMissing σ) ∧ (∀ x, (f_CL_throwMissing σ).1 = .inl x → (k_CL_cut_40 x ((f_CL_throwMissing σ).2)))
def f_CL_cut_86 (s0 : Int32) (σ : St) : XR := (.inl s0, σ)
def k_CL_cut_86 (s0 : Int32) (σ : St) : Prop := True
def f_CL_cut_82 (σ : St) : XR := xb (f_CL_throwWrong σ) (fun x u => f_CL_cut_86 x u)
def k_CL_cut_82 (σ : St) : Prop := (k_CL_throwWrong σ) ∧ (∀ x, (f_CL_throwWrong σ).1 = .inl x → (k_CL_cut_86 x ((f_CL_throwWrong σ).2)))
def f_CL_cut_119 (s0 : Int32) (σ : St) : XR := (.inl s0, σ)
def k_CL_cut_119 (s0 : Int32) (σ : St) : Prop := True
def f_CL_cut_107 (σ : St) : XR := xb (f_CL_enterRow (f_Sc_innermost σ) 0 σ) (fun x u => f_CL_cut_119 x u)
def k_CL_cut_107 (σ : St) : Prop := (k_Sc_innermost σ) ∧ ((k_CL_enterRow (f_Sc_innermost σ) 0 σ) ∧ (∀ x, (f_CL_enterRow (f_Sc_innermost σ) 0 σ).1 = .inl x → (k_CL_cut_119 x ((f_CL_enterRow (f_Sc_innermost σ) 0 σ).2))))
def f_CL_cut_100 (x3 : Int32) (x4 : Int32) (σ : St) : XR := f_CL_cut_107 (f_CL_joinAllBut x3 x4 σ)
def k_CL_cut_100 (x3 : Int32) (x4 : Int32) (σ : St) : Prop := (k_CL_joinAllBut x3 x4 σ) ∧ (k_CL_cut_107 (f_CL_joinAllBut x3 x4 σ))
def f_CL_cut_94 (x1 : Int32) (x2 : Int32) (x3 : Int32) (x4 : Int32) (σ : St) : XR := f_CL_cut_100 x3 x4 (f_CL_joinAllBut x1 x2 σ)
def k_CL_cut_94 (x1 : Int32) (x2 : Int32) (x3 : Int32) (x4 : Int32) (σ : St) : Prop := (k_CL_joinAllBut x1 x2 σ) ∧ (k_CL_cut_100 x3 x4 (f_CL_joinAllBut x1 x2 σ))
def f_CL_cut_51 (x1 : Int32) (x2 : Int32) (x3 : Int32) (x4 : Int32) (σ : St) : XR := if x4 = (-1) then (f_CL_cut_82 σ) else (if (f_St_holds x1 x2 σ) = 0 then (f_CL_cut_82 σ) else (if (f_St_holds x3 x4 σ) = 0 then (f_CL_cut_82 σ) else (f_CL_cut_94 x1 x2 x3 x4 (f_Ro_wipe σ))))
def k_CL_cut_51 (x1 : Int32) (x2 : Int32) (x3 : Int32) (x4 : Int32) (σ : St) : Prop := (x4 = (-1) → (k_CL_cut_82 σ)) ∧ (¬ x4 = (-1) → ((k_St_holds x1 x2 σ) ∧ (((f_St_holds x1 x2 σ) = 0 → (k_CL_cut_82 σ)) ∧ (¬ (f_St_holds x1 x2 σ) = 0 → ((k_St_holds x3 x4 σ) ∧ (((f_St_holds x3 x4 σ) = 0 → (k_CL_cut_82 σ)) ∧ (¬ (f_St_holds x3 x4 σ) = 0 → ((k_Ro_wipe σ) ∧ (k_CL_cut_94 x1 x2 x3 x4 (f_Ro_wipe σ))))))))))
def f_CL_cut (a1 : Int32) (a2 : Int32) (a3 : Int32) (σ : St) : XR := if (f_CL_isShut σ) = 0 then (if (f_CL_stands a1 σ) = 0 then (f_CL_cut_36 σ) else (if (f_Te_has a2 σ) = 0 then (f_CL_cut_36 σ) else (if (f_CL_stands a3 σ) = 0 then (f_CL_cut_36 σ) else (f_CL_cut_51 a1 a2 a3 (f_Te_findOpposite a2 σ) σ)))) else (.inl (-1), σ)
def k_CL_cut (a1 : Int32) (a2 : Int32) (a3 : Int32) (σ : St) : Prop := (k_CL_isShut σ) ∧ (((f_CL_isShut σ) = 0 → ((k_CL_stands a1 σ) ∧ (((f_CL_stands a1 σ) = 0 → (k_CL_cut_36 σ)) ∧ (¬ (f_CL_stands a1 σ) = 0 → ((k_Te_has a2 σ) ∧ (((f_Te_has a2 σ) = 0 → (k_CL_cut_36 σ)) ∧ (¬ (f_Te_has a2 σ) = 0 → ((k_CL_stands a3 σ) ∧ (((f_CL_stands a3 σ) = 0 → (k_CL_cut_36 σ)) ∧ (¬ (f_CL_stands a3 σ) = 0 → ((k_Te_findOpposite a2 σ) ∧ (k_CL_cut_51 a1 a2 a3 (f_Te_findOpposite a2 σ) σ)))))))))))) ∧ (¬ (f_CL_isShut σ) = 0 → True))
abbrev w_CL_cut : List Cond := Cond.code y_CL_cut b_CL_cut 5 (some .int) :: gw
abbrev rm_CL_cut : Room := { frames := 8, cells := 1, slots := 6, locals := 142 }
set_option maxHeartbeats 4000000 in
set_option maxRecDepth 100000 in
theorem c_CL_cut (l : Launch) (hlt : l.stackTraces = false) (D : va_G) (ty : Nat → ClassId) (h : Nat → Nat) (px : va_W) (sa : Nat → Nat) (σ : St) (sz : Nat) (a1 : Int32) (a2 : Int32) (a3 : Int32) (hk : k_CL_cut a1 a2 a3 σ) : xMet l y_CL_cut w_CL_cut rm_CL_cut (va_Pc [.ref (h 0), .int a1, .int a2, .int a3] (fun U => U.heap.size = sz ∧ va_P D classes (Wc ty h σ px) U.heap ∧ va_K D classes (Ta ty) U ∧ NW U ∧ XK sa (va_A (Wc ty h σ px) sz) U U.heap ∧ va_D (fun _ => True) (Wc ty h σ px))) (Rx D classes (fun u => Wc ty h u px) (va_A (Wc ty h σ px) sz) (f_CL_cut a1 a2 a3 σ)) 1 6 (va_A (Wc ty h σ px) sz) := by
  refine xMet.ofW (cc := b_CL_cut) (maxL := 5) (ret := (some .int)) (by decide) rfl ?_
  intro p e s m args below meth c s₁ B hml htab hv
  obtain ⟨ha, hsz, hP, hK, hN, hX, hD0⟩ := hv
  have hx := B.exec
  have hb := B.bytes
  have hr := B.returns
  have hg : ∀ w ∈ gw, w.before args s = true := fun w h9 => atoms_spec (ws := w_CL_cut) B.pre w (List.mem_cons_of_mem _ h9)
  have hown : s.vm.findClass "ClauseLedger" = some m.cls := findClass_of_methodNamed B.named
  have hlocks := B.notSynchronized
  subst hsz
  have hD := hD0.self (sz := s.heap.size)
  generalize hAe : va_A (Wc ty h σ px) s.heap.size = A at hD hX ⊢
  have hA : ∀ q : Nat, s.heap.size ≤ q → A q := fun q h9 => by rw [← hAe]; exact Or.inr h9
  have hS : va_S A s.heap s.heap [] := va_S.rf
  have he : entryFrame m args 5 = entryFrame m ([.ref (h 0), .int a1, .int a2, .int a3] : List Value).toArray 5 := by rw [ha]
  rw [he, lg_entry_eq]
  have hl := lv_entry ([.ref (h 0), .int a1, .int a2, .int a3]) (n := 5) (Nat.le_of_ble_eq_true rfl)
  generalize (lg_sl ([.ref (h 0), .int a1, .int a2, .int a3]) ++ List.replicate (5 - (lg_sl ([.ref (h 0), .int a1, .int a2, .int a3])).length) Slot.unset).toArray = ls at hl ⊢
  have hl : lv_has ls 5 [(0, .ref (h 0)), (1, .int a1), (2, .int a2), (3, .int a3)] := hl
  generalize hv : f_CL_cut a1 a2 a3 σ = v
  replace hv := hv.symm
  have B40 : ∀ (H : Heap) (locs : List Loc) (ls : Array Slot) (s0 : Int32) (σ : St), v = f_CL_cut_40 s0 σ → k_CL_cut_40 s0 σ → lv_has ls 5 [] → va_P D classes (Wc ty h σ px) H → va_D A (Wc ty h σ px) → va_S A s.heap H locs → W p l e (headSpec w_CL_cut rm_CL_cut).room s m args below meth c H locs 1 6 (xMQ below (Rx D classes (fun u => Wc ty h u px) A v) args s 1 6 A) (F0 m 40 ls [.int s0]) := by
    intro H locs ls s0 σ hv hk hl hP hD hS
    unfold f_CL_cut_40 at hv
    unfold k_CL_cut_40 at hk
    exact x_ret (fun o t hq => by obtain ⟨rfl, ht⟩ := hq; exact ⟨hS.F ht, by rw [ht, hv]; exact hP, _, rfl, by rw [hv]⟩) (Nat.le_of_ble_eq_true rfl) (Nat.le_of_ble_eq_true rfl) (W.iret (Qc := fun _ _ o t => o = .returned (some (.int s0)) ∧ t.heap = H) hx hb hr (fun t ht hW => ⟨rfl, ht⟩) hS.2.2 d_CL_cut_40)
  have B36 : ∀ (H : Heap) (locs : List Loc) (ls : Array Slot) (σ : St), v = f_CL_cut_36 σ → k_CL_cut_36 σ → lv_has ls 5 [(0, .ref (h 0))] → va_P D classes (Wc ty h σ px) H → va_D A (Wc ty h σ px) → va_S A s.heap H locs → W p l e (headSpec w_CL_cut rm_CL_cut).room s m args below meth c H locs 0 0 (xMQ below (Rx D classes (fun u => Wc ty h u px) A v) args s 1 6 A) (F0 m 36 ls []) := by
    intro H locs ls σ hv hk hl hP hD hS
    unfold f_CL_cut_36 at hv
    unfold k_CL_cut_36 at hk
    refine lv_aload_n hx hb d_CL_cut_36 rfl (lv_at hl 0 rfl) ?_
    obtain ⟨hk0, hk⟩ := hk
    refine x_callV (As := []) (rest := []) ⟨hx, hb, hml, hown, hg⟩ (c_CL_throwMissing l hlt D ty h px sa σ H.size  hk0) ⟨callB_of 0 hg (gw_C m_914) rfl rfl rfl (hg _ m_1) (hg _ m_911) hd_CL_throwMissing ⟨Nat.le_of_ble_eq_true rfl, Nat.le_of_ble_eq_true rfl⟩, hg _ m_913, hg _ ms_29⟩ (zz_preX hN hX hS hA hK hP hD 0 rfl rfl) rfl hl.1 rfl (Nat.le_of_ble_eq_true rfl) d_CL_cut_37 ⟨Nat.le_of_ble_eq_true rfl, Nat.le_of_ble_eq_true rfl⟩ (fun r9 st9 t9 L9 h09 hal9 hR9 hL9 => ?_) (fun q9 st9 t9 L9 h09 h19 hal9 hR9 hL9 => ?_)
    · obtain ⟨hF9, hP9, x, rfl, hz9⟩ := hR9
      have hv := hv.trans (xb_l hz9)
      have hk := hk _ hz9
      have hS := zz_xS hS h09 hF9 (zz_free hD hS hA) hL9
      have hD : va_D A (Wc ty h (f_CL_throwMissing σ).2 px) := zz_D hD rfl
      exact B40 _ _ _ x (f_CL_throwMissing σ).2 hv hk (lv_sub hl [] rfl) hP9 hD hS
    · obtain ⟨hF9, hP9, E9, ce9, hz9, hq9, hn9, hc9⟩ := hR9
      have hv := hv.trans (xb_r hz9)
      have hS := zz_xS hS h09 hF9 (zz_free hD hS hA) hL9
      exact x_out htab hlocks (fun t ht hal => ⟨hS.F ht, by rw [ht, hv]; exact hP9, E9, ce9, by rw [hv], by rw [ht]; exact hq9, hn9, by rw [h19.findClass]; exact hc9⟩) hS.2.2 (Nat.le_of_ble_eq_true rfl) (Nat.le_of_ble_eq_true rfl)
  have B86 : ∀ (H : Heap) (locs : List Loc) (ls : Array Slot) (s0 : Int32) (σ : St), v = f_CL_cut_86 s0 σ → k_CL_cut_86 s0 σ → lv_has ls 5 [] → va_P D classes (Wc ty h σ px) H → va_D A (Wc ty h σ px) → va_S A s.heap H locs → W p l e (headSpec w_CL_cut rm_CL_cut).room s m args below meth c H locs 1 6 (xMQ below (Rx D classes (fun u => Wc ty h u px) A v) args s 1 6 A) (F0 m 86 ls [.int s0]) := by
    intro H locs ls s0 σ hv hk hl hP hD hS
    unfold f_CL_cut_86 at hv
    unfold k_CL_cut_86 at hk
    exact x_ret (fun o t hq => by obtain ⟨rfl, ht⟩ := hq; exact ⟨hS.F ht, by rw [ht, hv]; exact hP, _, rfl, by rw [hv]⟩) (Nat.le_of_ble_eq_true rfl) (Nat.le_of_ble_eq_true rfl) (W.iret (Qc := fun _ _ o t => o = .returned (some (.int s0)) ∧ t.heap = H) hx hb hr (fun t ht hW => ⟨rfl, ht⟩) hS.2.2 d_CL_cut_86)
  have B82 : ∀ (H : Heap) (locs : List Loc) (ls : Array Slot) (σ : St), v = f_CL_cut_82 σ → k_CL_cut_82 σ → lv_has ls 5 [(0, .ref (h 0))] → va_P D classes (Wc ty h σ px) H → va_D A (Wc ty h σ px) → va_S A s.heap H locs → W p l e (headSpec w_CL_cut rm_CL_cut).room s m args below meth c H locs 0 0 (xMQ below (Rx D classes (fun u => Wc ty h u px) A v) args s 1 6 A) (F0 m 82 ls []) := by
    intro H locs ls σ hv hk hl hP hD hS
    unfold f_CL_cut_82 at hv
    unfold k_CL_cut_82 at hk
    refine lv_aload_n hx hb d_CL_cut_82 rfl (lv_at hl 0 rfl) ?_
    obtain ⟨hk0, hk⟩ := hk
    refine x_callV (As := []) (rest := []) ⟨hx, hb, hml, hown, hg⟩ (c_CL_throwWrong l hlt D ty h px sa σ H.size  hk0) ⟨callB_of 0 hg (gw_C m_774) rfl rfl rfl (hg _ m_1) (hg _ m_771) hd_CL_throwWrong ⟨Nat.le_of_ble_eq_true rfl, Nat.le_of_ble_eq_true rfl⟩, hg _ m_773, hg _ ms_24⟩ (zz_preX hN hX hS hA hK hP hD 0 rfl rfl) rfl hl.1 rfl (Nat.le_of_ble_eq_true rfl) d_CL_cut_83 ⟨Nat.le_of_ble_eq_true rfl, Nat.le_of_ble_eq_true rfl⟩ (fun r9 st9 t9 L9 h09 hal9 hR9 hL9 => ?_) (fun q9 st9 t9 L9 h09 h19 hal9 hR9 hL9 => ?_)
    · obtain ⟨hF9, hP9, x, rfl, hz9⟩ := hR9
      have hv := hv.trans (xb_l hz9)
      have hk := hk _ hz9
      have hS := zz_xS hS h09 hF9 (zz_free hD hS hA) hL9
      have hD : va_D A (Wc ty h (f_CL_throwWrong σ).2 px) := zz_D hD rfl
      exact B86 _ _ _ x (f_CL_throwWrong σ).2 hv hk (lv_sub hl [] rfl) hP9 hD hS
    · obtain ⟨hF9, hP9, E9, ce9, hz9, hq9, hn9, hc9⟩ := hR9
      have hv := hv.trans (xb_r hz9)
      have hS := zz_xS hS h09 hF9 (zz_free hD hS hA) hL9
      exact x_out htab hlocks (fun t ht hal => ⟨hS.F ht, by rw [ht, hv]; exact hP9, E9, ce9, by rw [hv], by rw [ht]; exact hq9, hn9, by rw [h19.findClass]; exact hc9⟩) hS.2.2 (Nat.le_of_ble_eq_true rfl) (Nat.le_of_ble_eq_true rfl)
  have B119 : ∀ (H : Heap) (locs : List Loc) (ls : Array Slot) (s0 : Int32) (σ : St), v = f_CL_cut_119 s0 σ → k_CL_cut_119 s0 σ → lv_has ls 5 [] → va_P D classes (Wc ty h σ px) H → va_D A (Wc ty h σ px) → va_S A s.heap H locs → W p l e (headSpec w_CL_cut rm_CL_cut).room s m args below meth c H locs 1 6 (xMQ below (Rx D classes (fun u => Wc ty h u px) A v) args s 1 6 A) (F0 m 119 ls [.int s0]) := by
    intro H locs ls s0 σ hv hk hl hP hD hS
    unfold f_CL_cut_119 at hv
    unfold k_CL_cut_119 at hk
    exact x_ret (fun o t hq => by obtain ⟨rfl, ht⟩ := hq; exact ⟨hS.F ht, by rw [ht, hv]; exact hP, _, rfl, by rw [hv]⟩) (Nat.le_of_ble_eq_true rfl) (Nat.le_of_ble_eq_true rfl) (W.iret (Qc := fun _ _ o t => o = .returned (some (.int s0)) ∧ t.heap = H) hx hb hr (fun t ht hW => ⟨rfl, ht⟩) hS.2.2 d_CL_cut_119)
  have B107 : ∀ (H : Heap) (locs : List Loc) (ls : Array Slot) (σ : St), v = f_CL_cut_107 σ → k_CL_cut_107 σ → lv_has ls 5 [(0, .ref (h 0))] → va_P D classes (Wc ty h σ px) H → va_D A (Wc ty h σ px) → va_S A s.heap H locs → W p l e (headSpec w_CL_cut rm_CL_cut).room s m args below meth c H locs 0 0 (xMQ below (Rx D classes (fun u => Wc ty h u px) A v) args s 1 6 A) (F0 m 107 ls []) := by
    intro H locs ls σ hv hk hl hP hD hS
    unfold f_CL_cut_107 at hv
    unfold k_CL_cut_107 at hk
    refine lv_aload_n hx hb d_CL_cut_107 rfl (lv_at hl 0 rfl) ?_
    refine lv_aload_n hx hb d_CL_cut_108 rfl (lv_at hl 0 rfl) ?_
    refine va_get (v := .ref (h 27)) (C := R_CL) (T := T_CL) (N := 11) hx hb hg in_CL hown hK hP 0 rfl rfl 8 (by decide) (hg _ m_292) (fun _ h9 => h9) rfl d_CL_cut_109 ?_
    obtain ⟨hk0, hk⟩ := hk
    refine zz_callV (va_runV (As := []) (rest := [.ref (h 0)]) ⟨hx, hb, hml, hown, hg⟩ (c_Sc_innermost l D ty h px σ  hk0) ⟨callB_of 0 hg (gw_C m_943) rfl rfl rfl (hg _ m_11) (hg _ m_940) hd_Sc_innermost ⟨Nat.le_of_ble_eq_true rfl, Nat.le_of_ble_eq_true rfl⟩, hg _ m_941, hg _ m_942⟩ (zz_preV hN hK hP 27 rfl rfl) rfl rfl hl.1 rfl (lv_room (Nat.le_of_ble_eq_true rfl)) d_CL_cut_112 ⟨Nat.le_of_ble_eq_true rfl, Nat.le_of_ble_eq_true rfl⟩) ?_
    refine lv_iconst (v := 0) hx hb d_CL_cut_115 (by decide) ?_
    obtain ⟨hk0, hk⟩ := hk
    refine x_callV (As := [.int (f_Sc_innermost σ), .int 0]) (rest := []) ⟨hx, hb, hml, hown, hg⟩ (c_CL_enterRow l hlt D ty h px sa σ H.size (f_Sc_innermost σ) 0 hk0) ⟨callB_of 2 hg (gw_C m_947) rfl rfl rfl (hg _ m_1) (hg _ m_944) hd_CL_enterRow ⟨Nat.le_of_ble_eq_true rfl, Nat.le_of_ble_eq_true rfl⟩, hg _ m_946, hg _ ms_30⟩ (zz_preX hN hX hS hA hK hP hD 0 rfl rfl) rfl hl.1 rfl (Nat.le_of_ble_eq_true rfl) d_CL_cut_116 ⟨Nat.le_of_ble_eq_true rfl, Nat.le_of_ble_eq_true rfl⟩ (fun r9 st9 t9 L9 h09 hal9 hR9 hL9 => ?_) (fun q9 st9 t9 L9 h09 h19 hal9 hR9 hL9 => ?_)
    · obtain ⟨hF9, hP9, x, rfl, hz9⟩ := hR9
      have hv := hv.trans (xb_l hz9)
      have hk := hk _ hz9
      have hS := zz_xS hS h09 hF9 (zz_free hD hS hA) hL9
      have hD : va_D A (Wc ty h (f_CL_enterRow (f_Sc_innermost σ) 0 σ).2 px) := zz_D hD rfl
      exact B119 _ _ _ x (f_CL_enterRow (f_Sc_innermost σ) 0 σ).2 hv hk (lv_sub hl [] rfl) hP9 hD hS
    · obtain ⟨hF9, hP9, E9, ce9, hz9, hq9, hn9, hc9⟩ := hR9
      have hv := hv.trans (xb_r hz9)
      have hS := zz_xS hS h09 hF9 (zz_free hD hS hA) hL9
      exact x_out htab hlocks (fun t ht hal => ⟨hS.F ht, by rw [ht, hv]; exact hP9, E9, ce9, by rw [hv], by rw [ht]; exact hq9, hn9, by rw [h19.findClass]; exact hc9⟩) hS.2.2 (Nat.le_of_ble_eq_true rfl) (Nat.le_of_ble_eq_true rfl)
  have B100 : ∀ (H : Heap) (locs : List Loc) (ls : Array Slot) (x3 : Int32) (x4 : Int32) (σ : St), v = f_CL_cut_100 x3 x4 σ → k_CL_cut_100 x3 x4 σ → lv_has ls 5 [(0, .ref (h 0)), (3, .int x3), (4, .int x4)] → va_P D classes (Wc ty h σ px) H → va_D A (Wc ty h σ px) → va_S A s.heap H locs → W p l e (headSpec w_CL_cut rm_CL_cut).room s m args below meth c H locs 0 0 (xMQ below (Rx D classes (fun u => Wc ty h u px) A v) args s 1 6 A) (F0 m 100 ls []) := by
    intro H locs ls x3 x4 σ hv hk hl hP hD hS
    unfold f_CL_cut_100 at hv
    unfold k_CL_cut_100 at hk
    refine lv_aload_n hx hb d_CL_cut_100 rfl (lv_at hl 0 rfl) ?_
    refine lv_iload_n hx hb d_CL_cut_101 rfl (lv_at hl 1 rfl) ?_
    refine lv_iload hx hb d_CL_cut_102 (lv_at hl 2 rfl) ?_
    obtain ⟨hk0, hk⟩ := hk
    refine va_callv (va_runV (As := [.int x3, .int x4]) (rest := []) ⟨hx, hb, hml, hown, hg⟩ (c_CL_joinAllBut l D ty h px σ H.size x3 x4 hk0) ⟨callB_of 2 hg (gw_C m_988) rfl rfl rfl (hg _ m_1) (hg _ m_985) hd_CL_joinAllBut ⟨Nat.le_of_ble_eq_true rfl, Nat.le_of_ble_eq_true rfl⟩, hg _ m_987, hg _ ms_31⟩ (zz_preVW hN hK hP hD 0 rfl rfl) rfl rfl hl.1 rfl (lv_room (Nat.le_of_ble_eq_true rfl)) d_CL_cut_104 ⟨Nat.le_of_ble_eq_true rfl, Nat.le_of_ble_eq_true rfl⟩) hS (fun q _ h => zz_free hD hS hA q h) (zz_free hD hS hA) (fun u104 t H locs ht hvm hp hP1 hz hk1 hS => ?_)
    rw [ht] at hP1
    rw [← hp] at hv hk
    have hD : va_D A (Wc ty h u104 px) := zz_D hD rfl
    have hP := hP1
    exact B107 _ _ _  u104 hv hk (lv_sub hl [0] rfl) hP hD hS
  have B94 : ∀ (H : Heap) (locs : List Loc) (ls : Array Slot) (x1 : Int32) (x2 : Int32) (x3 : Int32) (x4 : Int32) (σ : St), v = f_CL_cut_94 x1 x2 x3 x4 σ → k_CL_cut_94 x1 x2 x3 x4 σ → lv_has ls 5 [(0, .ref (h 0)), (1, .int x1), (2, .int x2), (3, .int x3), (4, .int x4)] → va_P D classes (Wc ty h σ px) H → va_D A (Wc ty h σ px) → va_S A s.heap H locs → W p l e (headSpec w_CL_cut rm_CL_cut).room s m args below meth c H locs 0 0 (xMQ below (Rx D classes (fun u => Wc ty h u px) A v) args s 1 6 A) (F0 m 94 ls []) := by
    intro H locs ls x1 x2 x3 x4 σ hv hk hl hP hD hS
    unfold f_CL_cut_94 at hv
    unfold k_CL_cut_94 at hk
    refine lv_aload_n hx hb d_CL_cut_94 rfl (lv_at hl 0 rfl) ?_
    refine lv_iload_n hx hb d_CL_cut_95 rfl (lv_at hl 1 rfl) ?_
    refine lv_iload_n hx hb d_CL_cut_96 rfl (lv_at hl 2 rfl) ?_
    obtain ⟨hk0, hk⟩ := hk
    refine va_callv (va_runV (As := [.int x1, .int x2]) (rest := []) ⟨hx, hb, hml, hown, hg⟩ (c_CL_joinAllBut l D ty h px σ H.size x1 x2 hk0) ⟨callB_of 2 hg (gw_C m_988) rfl rfl rfl (hg _ m_1) (hg _ m_985) hd_CL_joinAllBut ⟨Nat.le_of_ble_eq_true rfl, Nat.le_of_ble_eq_true rfl⟩, hg _ m_987, hg _ ms_31⟩ (zz_preVW hN hK hP hD 0 rfl rfl) rfl rfl hl.1 rfl (lv_room (Nat.le_of_ble_eq_true rfl)) d_CL_cut_97 ⟨Nat.le_of_ble_eq_true rfl, Nat.le_of_ble_eq_true rfl⟩) hS (fun q _ h => zz_free hD hS hA q h) (zz_free hD hS hA) (fun u97 t H locs ht hvm hp hP1 hz hk1 hS => ?_)
    rw [ht] at hP1
    rw [← hp] at hv hk
    have hD : va_D A (Wc ty h u97 px) := zz_D hD rfl
    have hP := hP1
    exact B100 _ _ _ x3 x4 u97 hv hk (lv_sub hl [0, 3, 4] rfl) hP hD hS
  have B51 : ∀ (H : Heap) (locs : List Loc) (ls : Array Slot) (x1 : Int32) (x2 : Int32) (x3 : Int32) (x4 : Int32) (σ : St), v = f_CL_cut_51 x1 x2 x3 x4 σ → k_CL_cut_51 x1 x2 x3 x4 σ → lv_has ls 5 [(0, .ref (h 0)), (1, .int x1), (2, .int x2), (3, .int x3), (4, .int x4)] → va_P D classes (Wc ty h σ px) H → va_D A (Wc ty h σ px) → va_S A s.heap H locs → W p l e (headSpec w_CL_cut rm_CL_cut).room s m args below meth c H locs 0 0 (xMQ below (Rx D classes (fun u => Wc ty h u px) A v) args s 1 6 A) (F0 m 51 ls []) := by
    intro H locs ls x1 x2 x3 x4 σ hv hk hl hP hD hS
    unfold f_CL_cut_51 at hv
    unfold k_CL_cut_51 at hk
    refine lv_iload hx hb d_CL_cut_51 (lv_at hl 4 rfl) ?_
    refine lv_iconst (v := -1) hx hb d_CL_cut_53 (by decide) ?_
    refine lv_icmp_eq (tgt := 82) hx hb d_CL_cut_54 (by decide) (fun hc => ?_) (fun hc => ?_)
    · have hv := hv.trans (if_pos hc)
      have hk := hk.1 hc
      exact B82 _ _ _  σ hv hk (lv_sub hl [0] rfl) hP hD hS
    · have hv := hv.trans (if_neg hc)
      have hk := hk.2 hc
      refine lv_aload_n hx hb d_CL_cut_57 rfl (lv_at hl 0 rfl) ?_
      refine va_get (v := .ref (h 31)) (C := R_CL) (T := T_CL) (N := 11) hx hb hg in_CL hown hK hP 0 rfl rfl 9 (by decide) (hg _ m_293) (fun _ h9 => h9) rfl d_CL_cut_58 ?_
      refine lv_iload_n hx hb d_CL_cut_61 rfl (lv_at hl 1 rfl) ?_
      refine lv_iload_n hx hb d_CL_cut_62 rfl (lv_at hl 2 rfl) ?_
      obtain ⟨hk0, hk⟩ := hk
      refine zz_callV (va_runV (As := [.int x1, .int x2]) (rest := []) ⟨hx, hb, hml, hown, hg⟩ (c_St_holds l D ty h px σ x1 x2 hk0) ⟨callB_of 2 hg (gw_C m_983) rfl rfl rfl (hg _ m_12) (hg _ m_980) hd_St_holds ⟨Nat.le_of_ble_eq_true rfl, Nat.le_of_ble_eq_true rfl⟩, hg _ m_981, hg _ m_982⟩ (zz_preV hN hK hP 31 rfl rfl) rfl rfl hl.1 rfl (lv_room (Nat.le_of_ble_eq_true rfl)) d_CL_cut_63 ⟨Nat.le_of_ble_eq_true rfl, Nat.le_of_ble_eq_true rfl⟩) ?_
      refine lv_if_eq (tgt := 82) hx hb d_CL_cut_66 (by decide) (fun hc => ?_) (fun hc => ?_)
      · have hv := hv.trans (if_pos hc)
        have hk := hk.1 hc
        exact B82 _ _ _  σ hv hk (lv_sub hl [0] rfl) hP hD hS
      · have hv := hv.trans (if_neg hc)
        have hk := hk.2 hc
        refine lv_aload_n hx hb d_CL_cut_69 rfl (lv_at hl 0 rfl) ?_
        refine va_get (v := .ref (h 31)) (C := R_CL) (T := T_CL) (N := 11) hx hb hg in_CL hown hK hP 0 rfl rfl 9 (by decide) (hg _ m_293) (fun _ h9 => h9) rfl d_CL_cut_70 ?_
        refine lv_iload_n hx hb d_CL_cut_73 rfl (lv_at hl 3 rfl) ?_
        refine lv_iload hx hb d_CL_cut_74 (lv_at hl 4 rfl) ?_
        obtain ⟨hk0, hk⟩ := hk
        refine zz_callV (va_runV (As := [.int x3, .int x4]) (rest := []) ⟨hx, hb, hml, hown, hg⟩ (c_St_holds l D ty h px σ x3 x4 hk0) ⟨callB_of 2 hg (gw_C m_983) rfl rfl rfl (hg _ m_12) (hg _ m_980) hd_St_holds ⟨Nat.le_of_ble_eq_true rfl, Nat.le_of_ble_eq_true rfl⟩, hg _ m_981, hg _ m_982⟩ (zz_preV hN hK hP 31 rfl rfl) rfl rfl hl.1 rfl (lv_room (Nat.le_of_ble_eq_true rfl)) d_CL_cut_76 ⟨Nat.le_of_ble_eq_true rfl, Nat.le_of_ble_eq_true rfl⟩) ?_
        refine lv_if_ne (tgt := 87) hx hb d_CL_cut_79 (by decide) (fun hc => ?_) (fun hc => ?_)
        · have hv := hv.trans (if_neg hc)
          have hk := hk.2 hc
          refine lv_aload_n hx hb d_CL_cut_87 rfl (lv_at hl 0 rfl) ?_
          refine va_get (v := .ref (h 25)) (C := R_CL) (T := T_CL) (N := 11) hx hb hg in_CL hown hK hP 0 rfl rfl 7 (by decide) (hg _ m_291) (fun _ h9 => h9) rfl d_CL_cut_88 ?_
          obtain ⟨hk0, hk⟩ := hk
          refine va_callv (va_runV (As := []) (rest := []) ⟨hx, hb, hml, hown, hg⟩ (c_Ro_wipe l D ty h px σ H.size  hk0) ⟨callB_of 0 hg (gw_C m_935) rfl rfl rfl (hg _ m_10) (hg _ m_932) hd_Ro_wipe ⟨Nat.le_of_ble_eq_true rfl, Nat.le_of_ble_eq_true rfl⟩, hg _ m_933, hg _ m_934⟩ (zz_preVW hN hK hP hD 25 rfl rfl) rfl rfl hl.1 rfl (lv_room (Nat.le_of_ble_eq_true rfl)) d_CL_cut_91 ⟨Nat.le_of_ble_eq_true rfl, Nat.le_of_ble_eq_true rfl⟩) hS (fun q _ h => zz_free hD hS hA q h) (zz_free hD hS hA) (fun u91 t H locs ht hvm hp hP1 hz hk1 hS => ?_)
          rw [ht] at hP1
          rw [← hp] at hv hk
          have hD : va_D A (Wc ty h u91 px) := zz_D hD rfl
          have hP := hP1
          exact B94 _ _ _ x1 x2 x3 x4 u91 hv hk (lv_sub hl [0, 1, 2, 3, 4] rfl) hP hD hS
        · have hv := hv.trans (if_pos hc)
          have hk := hk.1 hc
          exact B82 _ _ _  σ hv hk (lv_sub hl [0] rfl) hP hD hS
  unfold f_CL_cut at hv
  unfold k_CL_cut at hk
  refine lv_aload_n hx hb d_CL_cut_0 rfl (lv_at hl 0 rfl) ?_
  obtain ⟨hk0, hk⟩ := hk
  refine zz_callV (va_runV (As := []) (rest := []) ⟨hx, hb, hml, hown, hg⟩ (c_CL_isShut l D ty h px σ  hk0) ⟨callB_of 0 hg (gw_C m_571) rfl rfl rfl (hg _ m_1) (hg _ m_568) hd_CL_isShut ⟨Nat.le_of_ble_eq_true rfl, Nat.le_of_ble_eq_true rfl⟩, hg _ m_570, hg _ ms_8⟩ (zz_preV hN hK hP 0 rfl rfl) rfl rfl hl.1 rfl (lv_room (Nat.le_of_ble_eq_true rfl)) d_CL_cut_1 ⟨Nat.le_of_ble_eq_true rfl, Nat.le_of_ble_eq_true rfl⟩) ?_
  refine lv_if_eq (tgt := 9) hx hb d_CL_cut_4 (by decide) (fun hc => ?_) (fun hc => ?_)
  · have hv := hv.trans (if_pos hc)
    have hk := hk.1 hc
    refine lv_aload_n hx hb d_CL_cut_9 rfl (lv_at hl 0 rfl) ?_
    refine lv_iload_n hx hb d_CL_cut_10 rfl (lv_at hl 1 rfl) ?_
    obtain ⟨hk0, hk⟩ := hk
    refine zz_callV (va_runV (As := [.int a1]) (rest := []) ⟨hx, hb, hml, hown, hg⟩ (c_CL_stands l D ty h px σ a1 hk0) ⟨callB_of 1 hg (gw_C m_406) rfl rfl rfl (hg _ m_1) (hg _ m_403) hd_CL_stands ⟨Nat.le_of_ble_eq_true rfl, Nat.le_of_ble_eq_true rfl⟩, hg _ m_405, hg _ ms_3⟩ (zz_preV hN hK hP 0 rfl rfl) rfl rfl hl.1 rfl (lv_room (Nat.le_of_ble_eq_true rfl)) d_CL_cut_11 ⟨Nat.le_of_ble_eq_true rfl, Nat.le_of_ble_eq_true rfl⟩) ?_
    refine lv_if_eq (tgt := 36) hx hb d_CL_cut_14 (by decide) (fun hc => ?_) (fun hc => ?_)
    · have hv := hv.trans (if_pos hc)
      have hk := hk.1 hc
      exact B36 _ _ _  σ hv hk (lv_sub hl [0] rfl) hP hD hS
    · have hv := hv.trans (if_neg hc)
      have hk := hk.2 hc
      refine lv_aload_n hx hb d_CL_cut_17 rfl (lv_at hl 0 rfl) ?_
      refine va_get (v := .ref (h 6)) (C := R_CL) (T := T_CL) (N := 11) hx hb hg in_CL hown hK hP 0 rfl rfl 1 (by decide) (hg _ m_285) (fun _ h9 => h9) rfl d_CL_cut_18 ?_
      refine lv_iload_n hx hb d_CL_cut_21 rfl (lv_at hl 2 rfl) ?_
      obtain ⟨hk0, hk⟩ := hk
      refine zz_callV (va_runV (As := [.int a2]) (rest := []) ⟨hx, hb, hml, hown, hg⟩ (c_Te_has l D ty h px σ a2 hk0) ⟨callB_of 1 hg (gw_C m_430) rfl rfl rfl (hg _ m_3) (hg _ m_427) hd_Te_has ⟨Nat.le_of_ble_eq_true rfl, Nat.le_of_ble_eq_true rfl⟩, hg _ m_428, hg _ m_429⟩ (zz_preV hN hK hP 6 rfl rfl) rfl rfl hl.1 rfl (lv_room (Nat.le_of_ble_eq_true rfl)) d_CL_cut_22 ⟨Nat.le_of_ble_eq_true rfl, Nat.le_of_ble_eq_true rfl⟩) ?_
      refine lv_if_eq (tgt := 36) hx hb d_CL_cut_25 (by decide) (fun hc => ?_) (fun hc => ?_)
      · have hv := hv.trans (if_pos hc)
        have hk := hk.1 hc
        exact B36 _ _ _  σ hv hk (lv_sub hl [0] rfl) hP hD hS
      · have hv := hv.trans (if_neg hc)
        have hk := hk.2 hc
        refine lv_aload_n hx hb d_CL_cut_28 rfl (lv_at hl 0 rfl) ?_
        refine lv_iload_n hx hb d_CL_cut_29 rfl (lv_at hl 3 rfl) ?_
        obtain ⟨hk0, hk⟩ := hk
        refine zz_callV (va_runV (As := [.int a3]) (rest := []) ⟨hx, hb, hml, hown, hg⟩ (c_CL_stands l D ty h px σ a3 hk0) ⟨callB_of 1 hg (gw_C m_406) rfl rfl rfl (hg _ m_1) (hg _ m_403) hd_CL_stands ⟨Nat.le_of_ble_eq_true rfl, Nat.le_of_ble_eq_true rfl⟩, hg _ m_405, hg _ ms_3⟩ (zz_preV hN hK hP 0 rfl rfl) rfl rfl hl.1 rfl (lv_room (Nat.le_of_ble_eq_true rfl)) d_CL_cut_30 ⟨Nat.le_of_ble_eq_true rfl, Nat.le_of_ble_eq_true rfl⟩) ?_
        refine lv_if_ne (tgt := 41) hx hb d_CL_cut_33 (by decide) (fun hc => ?_) (fun hc => ?_)
        · have hv := hv.trans (if_neg hc)
          have hk := hk.2 hc
          refine lv_aload_n hx hb d_CL_cut_41 rfl (lv_at hl 0 rfl) ?_
          refine va_get (v := .ref (h 6)) (C := R_CL) (T := T_CL) (N := 11) hx hb hg in_CL hown hK hP 0 rfl rfl 1 (by decide) (hg _ m_285) (fun _ h9 => h9) rfl d_CL_cut_42 ?_
          refine lv_iload_n hx hb d_CL_cut_45 rfl (lv_at hl 2 rfl) ?_
          obtain ⟨hk0, hk⟩ := hk
          refine zz_callV (va_runV (As := [.int a2]) (rest := []) ⟨hx, hb, hml, hown, hg⟩ (c_Te_findOpposite l D ty h px σ a2 hk0) ⟨callB_of 1 hg (gw_C m_977) rfl rfl rfl (hg _ m_3) (hg _ m_974) hd_Te_findOpposite ⟨Nat.le_of_ble_eq_true rfl, Nat.le_of_ble_eq_true rfl⟩, hg _ m_975, hg _ m_976⟩ (zz_preV hN hK hP 6 rfl rfl) rfl rfl hl.1 rfl (lv_room (Nat.le_of_ble_eq_true rfl)) d_CL_cut_46 ⟨Nat.le_of_ble_eq_true rfl, Nat.le_of_ble_eq_true rfl⟩) ?_
          refine lv_istore (lv' := [(4, .int (f_Te_findOpposite a2 σ)), (0, .ref (h 0)), (1, .int a1), (2, .int a2), (3, .int a3)]) hx hb d_CL_cut_49 hl (by decide) rfl (fun ls hl => ?_)
          exact B51 _ _ _ a1 a2 a3 (f_Te_findOpposite a2 σ) σ hv hk (lv_sub hl [1, 2, 3, 4, 0] rfl) hP hD hS
        · have hv := hv.trans (if_pos hc)
          have hk := hk.1 hc
          exact B36 _ _ _  σ hv hk (lv_sub hl [0] rfl) hP hD hS
  · have hv := hv.trans (if_neg hc)
    have hk := hk.2 hc
    refine lv_iconst (v := -1) hx hb d_CL_cut_7 (by decide) ?_
    exact x_ret (fun o t hq => by obtain ⟨rfl, ht⟩ := hq; exact ⟨hS.F ht, by rw [ht, hv]; exact hP, _, rfl, by rw [hv]⟩) (Nat.le_of_ble_eq_true rfl) (Nat.le_of_ble_eq_true rfl) (W.iret (Qc := fun _ _ o t => o = .returned (some (.int (-1))) ∧ t.heap = s.heap) hx hb hr (fun t ht hW => ⟨rfl, ht⟩) hS.2.2 d_CL_cut_8)

-- ClauseLedger.widen(II)I
abbrev b_CL_widen : ByteArray := prog_1_method_9_code
def y_CL_widen : MethodName := ⟨"ClauseLedger", "widen", "(II)I"⟩
theorem hd_CL_widen : y_CL_widen.cls ≠ "java/lang/invoke/MethodHandle" ∧ y_CL_widen.cls ≠ "java/lang/invoke/VarHandle" ∧ (parseMethodDescriptor y_CL_widen.desc).map (fun d => d.parameters.length) = some 2 := by decide +kernel
theorem d_CL_widen_0 : decode b_CL_widen 0 = .ok (.aload_n 0, 1) := by decide +kernel
theorem d_CL_widen_1 : decode b_CL_widen 1 = .ok (.invokevirtual 102, 3) := by decide +kernel
theorem d_CL_widen_4 : decode b_CL_widen 4 = .ok (.ifCond .eq 5, 3) := by decide +kernel
theorem d_CL_widen_7 : decode b_CL_widen 7 = .ok (.iconst (-1), 1) := by decide +kernel
theorem d_CL_widen_8 : decode b_CL_widen 8 = .ok (.ireturn, 1) := by decide +kernel
theorem d_CL_widen_9 : decode b_CL_widen 9 = .ok (.aload_n 0, 1) := by decide +kernel
theorem d_CL_widen_10 : decode b_CL_widen 10 = .ok (.iload_n 1, 1) := by decide +kernel
theorem d_CL_widen_11 : decode b_CL_widen 11 = .ok (.invokevirtual 152, 3) := by decide +kernel
theorem d_CL_widen_14 : decode b_CL_widen 14 = .ok (.ifCond .eq 14, 3) := by decide +kernel
theorem d_CL_widen_17 : decode b_CL_widen 17 = .ok (.aload_n 0, 1) := by decide +kernel
theorem d_CL_widen_18 : decode b_CL_widen 18 = .ok (.getfield 19, 3) := by decide +kernel
theorem d_CL_widen_21 : decode b_CL_widen 21 = .ok (.iload_n 2, 1) := by decide +kernel
theorem d_CL_widen_22 : decode b_CL_widen 22 = .ok (.invokevirtual 130, 3) := by decide +kernel
theorem d_CL_widen_25 : decode b_CL_widen 25 = .ok (.ifCond .ne 8, 3) := by decide +kernel
theorem d_CL_widen_28 : decode b_CL_widen 28 = .ok (.aload_n 0, 1) := by decide +kernel
theorem d_CL_widen_29 : decode b_CL_widen 29 = .ok (.invokevirtual 134, 3) := by decide +kernel
theorem d_CL_widen_32 : decode b_CL_widen 32 = .ok (.ireturn, 1) := by decide +kernel
theorem d_CL_widen_33 : decode b_CL_widen 33 = .ok (.aload_n 0, 1) := by decide +kernel
theorem d_CL_widen_34 : decode b_CL_widen 34 = .ok (.getfield 19, 3) := by decide +kernel
theorem d_CL_widen_37 : decode b_CL_widen 37 = .ok (.iload_n 2, 1) := by decide +kernel
theorem d_CL_widen_38 : decode b_CL_widen 38 = .ok (.invokevirtual 137, 3) := by decide +kernel
theorem d_CL_widen_41 : decode b_CL_widen 41 = .ok (.ifCond .ne 8, 3) := by decide +kernel
theorem d_CL_widen_44 : decode b_CL_widen 44 = .ok (.aload_n 0, 1) := by decide +kernel
theorem d_CL_widen_45 : decode b_CL_widen 45 = .ok (.invokevirtual 112, 3) := by decide +kernel
theorem d_CL_widen_48 : decode b_CL_widen 48 = .ok (.ireturn, 1) := by decide +kernel
theorem d_CL_widen_49 : decode b_CL_widen 49 = .ok (.aload_n 0, 1) := by decide +kernel
theorem d_CL_widen_50 : decode b_CL_widen 50 = .ok (.getfield 65, 3) := by decide +kernel
theorem d_CL_widen_53 : decode b_CL_widen 53 = .ok (.invokevirtual 140, 3) := by decide +kernel
theorem d_CL_widen_56 : decode b_CL_widen 56 = .ok (.aload_n 0, 1) := by decide +kernel
theorem d_CL_widen_57 : decode b_CL_widen 57 = .ok (.iload_n 1, 1) := by decide +kernel
theorem d_CL_widen_58 : decode b_CL_widen 58 = .ok (.iconst (-1), 1) := by decide +kernel
theorem d_CL_widen_59 : decode b_CL_widen 59 = .ok (.invokevirtual 162, 3) := by decide +kernel
theorem d_CL_widen_62 : decode b_CL_widen 62 = .ok (.aload_n 0, 1) := by decide +kernel
theorem d_CL_widen_63 : decode b_CL_widen 63 = .ok (.getfield 65, 3) := by decide +kernel
theorem d_CL_widen_66 : decode b_CL_widen 66 = .ok (.iload_n 2, 1) := by decide +kernel
theorem d_CL_widen_67 : decode b_CL_widen 67 = .ok (.invokevirtual 141, 3) := by decide +kernel
theorem d_CL_widen_70 : decode b_CL_widen 70 = .ok (.aload_n 0, 1) := by decide +kernel
theorem d_CL_widen_71 : decode b_CL_widen 71 = .ok (.aload_n 0, 1) := by decide +kernel
theorem d_CL_widen_72 : decode b_CL_widen 72 = .ok (.getfield 72, 3) := by decide +kernel
theorem d_CL_widen_75 : decode b_CL_widen 75 = .ok (.invokevirtual 145, 3) := by decide +kernel
theorem d_CL_widen_78 : decode b_CL_widen 78 = .ok (.iconst 0, 1) := by decide +kernel
theorem d_CL_widen_79 : decode b_CL_widen 79 = .ok (.invokevirtual 148, 3) := by decide +kernel
theorem d_CL_widen_82 : decode b_CL_widen 82 = .ok (.ireturn, 1) := by decide +kernel
def f_CL_widen_32 (s0 : Int32) (σ : St) : XR := (.inl s0, σ)
def k_CL_widen_32 (s0 : Int32) (σ : St) : Prop := True
def f_CL_widen_28 (σ : St) : XR := xb (f_CL_throwMissing σ) (fun x u => f_CL_widen_32 x u)
def k_CL_widen_28 (σ : St) : Prop := (k_CL_throwMissing σ) ∧ (∀ x, (f_CL_throwMissing σ).1 = .inl x → (k_CL_widen_32 x ((f_CL_throwMissing σ).2)))
def f_CL_widen_48 (s0 : Int32) (σ : St) : XR := (.inl s0, σ)
def k_CL_widen_48 (s0 : Int32) (σ : St) : Prop := True
def f_CL_widen_82 (s0 : Int32) (σ : St) : XR := (.inl s0, σ)
def k_CL_widen_82 (s0 : Int32) (σ : St) : Prop := True
def f_CL_widen_70 (σ : St) : XR := xb (f_CL_enterRow (f_Sc_innermost σ) 0 σ) (fun x u => f_CL_widen_82 x u)
def k_CL_widen_70 (σ : St) : Prop := (k_Sc_innermost σ) ∧ ((k_CL_enterRow (f_Sc_innermost σ) 0 σ) ∧ (∀ x, (f_CL_enterRow (f_Sc_innermost σ) 0 σ).1 = .inl x → (k_CL_widen_82 x ((f_CL_enterRow (f_Sc_innermost σ) 0 σ).2))))
def f_CL_widen_62 (x2 : Int32) (σ : St) : XR := f_CL_widen_70 (f_Ro_join x2 σ)
def k_CL_widen_62 (x2 : Int32) (σ : St) : Prop := (k_Ro_join x2 σ) ∧ (k_CL_widen_70 (f_Ro_join x2 σ))
def f_CL_widen_56 (x1 : Int32) (x2 : Int32) (σ : St) : XR := f_CL_widen_62 x2 (f_CL_joinAllBut x1 (-1) σ)
def k_CL_widen_56 (x1 : Int32) (x2 : Int32) (σ : St) : Prop := (k_CL_joinAllBut x1 (-1) σ) ∧ (k_CL_widen_62 x2 (f_CL_joinAllBut x1 (-1) σ))
def f_CL_widen (a1 : Int32) (a2 : Int32) (σ : St) : XR := if (f_CL_isShut σ) = 0 then (if (f_CL_stands a1 σ) = 0 then (f_CL_widen_28 σ) else (if (f_Te_has a2 σ) = 0 then (f_CL_widen_28 σ) else (if (f_Te_isTruth a2 σ) = 0 then (xb (f_CL_throwWrong σ) (fun x u => f_CL_widen_48 x u)) else (f_CL_widen_56 a1 a2 (f_Ro_wipe σ))))) else (.inl (-1), σ)
def k_CL_widen (a1 : Int32) (a2 : Int32) (σ : St) : Prop := (k_CL_isShut σ) ∧ (((f_CL_isShut σ) = 0 → ((k_CL_stands a1 σ) ∧ (((f_CL_stands a1 σ) = 0 → (k_CL_widen_28 σ)) ∧ (¬ (f_CL_stands a1 σ) = 0 → ((k_Te_has a2 σ) ∧ (((f_Te_has a2 σ) = 0 → (k_CL_widen_28 σ)) ∧ (¬ (f_Te_has a2 σ) = 0 → ((k_Te_isTruth a2 σ) ∧ (((f_Te_isTruth a2 σ) = 0 → ((k_CL_throwWrong σ) ∧ (∀ x, (f_CL_throwWrong σ).1 = .inl x → (k_CL_widen_48 x ((f_CL_throwWrong σ).2))))) ∧ (¬ (f_Te_isTruth a2 σ) = 0 → ((k_Ro_wipe σ) ∧ (k_CL_widen_56 a1 a2 (f_Ro_wipe σ))))))))))))) ∧ (¬ (f_CL_isShut σ) = 0 → True))
abbrev w_CL_widen : List Cond := Cond.code y_CL_widen b_CL_widen 3 (some .int) :: gw
abbrev rm_CL_widen : Room := { frames := 8, cells := 1, slots := 6, locals := 142 }
set_option maxHeartbeats 4000000 in
set_option maxRecDepth 100000 in
theorem c_CL_widen (l : Launch) (hlt : l.stackTraces = false) (D : va_G) (ty : Nat → ClassId) (h : Nat → Nat) (px : va_W) (sa : Nat → Nat) (σ : St) (sz : Nat) (a1 : Int32) (a2 : Int32) (hk : k_CL_widen a1 a2 σ) : xMet l y_CL_widen w_CL_widen rm_CL_widen (va_Pc [.ref (h 0), .int a1, .int a2] (fun U => U.heap.size = sz ∧ va_P D classes (Wc ty h σ px) U.heap ∧ va_K D classes (Ta ty) U ∧ NW U ∧ XK sa (va_A (Wc ty h σ px) sz) U U.heap ∧ va_D (fun _ => True) (Wc ty h σ px))) (Rx D classes (fun u => Wc ty h u px) (va_A (Wc ty h σ px) sz) (f_CL_widen a1 a2 σ)) 1 6 (va_A (Wc ty h σ px) sz) := by
  refine xMet.ofW (cc := b_CL_widen) (maxL := 3) (ret := (some .int)) (by decide) rfl ?_
  intro p e s m args below meth c s₁ B hml htab hv
  obtain ⟨ha, hsz, hP, hK, hN, hX, hD0⟩ := hv
  have hx := B.exec
  have hb := B.bytes
  have hr := B.returns
  have hg : ∀ w ∈ gw, w.before args s = true := fun w h9 => atoms_spec (ws := w_CL_widen) B.pre w (List.mem_cons_of_mem _ h9)
  have hown : s.vm.findClass "ClauseLedger" = some m.cls := findClass_of_methodNamed B.named
  have hlocks := B.notSynchronized
  subst hsz
  have hD := hD0.self (sz := s.heap.size)
  generalize hAe : va_A (Wc ty h σ px) s.heap.size = A at hD hX ⊢
  have hA : ∀ q : Nat, s.heap.size ≤ q → A q := fun q h9 => by rw [← hAe]; exact Or.inr h9
  have hS : va_S A s.heap s.heap [] := va_S.rf
  have he : entryFrame m args 3 = entryFrame m ([.ref (h 0), .int a1, .int a2] : List Value).toArray 3 := by rw [ha]
  rw [he, lg_entry_eq]
  have hl := lv_entry ([.ref (h 0), .int a1, .int a2]) (n := 3) (Nat.le_of_ble_eq_true rfl)
  generalize (lg_sl ([.ref (h 0), .int a1, .int a2]) ++ List.replicate (3 - (lg_sl ([.ref (h 0), .int a1, .int a2])).length) Slot.unset).toArray = ls at hl ⊢
  have hl : lv_has ls 3 [(0, .ref (h 0)), (1, .int a1), (2, .int a2)] := hl
  generalize hv : f_CL_widen a1 a2 σ = v
  replace hv := hv.symm
  have B32 : ∀ (H : Heap) (locs : List Loc) (ls : Array Slot) (s0 : Int32) (σ : St), v = f_CL_widen_32 s0 σ → k_CL_widen_32 s0 σ → lv_has ls 3 [] → va_P D classes (Wc ty h σ px) H → va_D A (Wc ty h σ px) → va_S A s.heap H locs → W p l e (headSpec w_CL_widen rm_CL_widen).room s m args below meth c H locs 1 6 (xMQ below (Rx D classes (fun u => Wc ty h u px) A v) args s 1 6 A) (F0 m 32 ls [.int s0]) := by
    intro H locs ls s0 σ hv hk hl hP hD hS
    unfold f_CL_widen_32 at hv
    unfold k_CL_widen_32 at hk
    exact x_ret (fun o t hq => by obtain ⟨rfl, ht⟩ := hq; exact ⟨hS.F ht, by rw [ht, hv]; exact hP, _, rfl, by rw [hv]⟩) (Nat.le_of_ble_eq_true rfl) (Nat.le_of_ble_eq_true rfl) (W.iret (Qc := fun _ _ o t => o = .returned (some (.int s0)) ∧ t.heap = H) hx hb hr (fun t ht hW => ⟨rfl, ht⟩) hS.2.2 d_CL_widen_32)
  have B28 : ∀ (H : Heap) (locs : List Loc) (ls : Array Slot) (σ : St), v = f_CL_widen_28 σ → k_CL_widen_28 σ → lv_has ls 3 [(0, .ref (h 0))] → va_P D classes (Wc ty h σ px) H → va_D A (Wc ty h σ px) → va_S A s.heap H locs → W p l e (headSpec w_CL_widen rm_CL_widen).room s m args below meth c H locs 0 0 (xMQ below (Rx D classes (fun u => Wc ty h u px) A v) args s 1 6 A) (F0 m 28 ls []) := by
    intro H locs ls σ hv hk hl hP hD hS
    unfold f_CL_widen_28 at hv
    unfold k_CL_widen_28 at hk
    refine lv_aload_n hx hb d_CL_widen_28 rfl (lv_at hl 0 rfl) ?_
    obtain ⟨hk0, hk⟩ := hk
    refine x_callV (As := []) (rest := []) ⟨hx, hb, hml, hown, hg⟩ (c_CL_throwMissing l hlt D ty h px sa σ H.size  hk0) ⟨callB_of 0 hg (gw_C m_914) rfl rfl rfl (hg _ m_1) (hg _ m_911) hd_CL_throwMissing ⟨Nat.le_of_ble_eq_true rfl, Nat.le_of_ble_eq_true rfl⟩, hg _ m_913, hg _ ms_29⟩ (zz_preX hN hX hS hA hK hP hD 0 rfl rfl) rfl hl.1 rfl (Nat.le_of_ble_eq_true rfl) d_CL_widen_29 ⟨Nat.le_of_ble_eq_true rfl, Nat.le_of_ble_eq_true rfl⟩ (fun r9 st9 t9 L9 h09 hal9 hR9 hL9 => ?_) (fun q9 st9 t9 L9 h09 h19 hal9 hR9 hL9 => ?_)
    · obtain ⟨hF9, hP9, x, rfl, hz9⟩ := hR9
      have hv := hv.trans (xb_l hz9)
      have hk := hk _ hz9
      have hS := zz_xS hS h09 hF9 (zz_free hD hS hA) hL9
      have hD : va_D A (Wc ty h (f_CL_throwMissing σ).2 px) := zz_D hD rfl
      exact B32 _ _ _ x (f_CL_throwMissing σ).2 hv hk (lv_sub hl [] rfl) hP9 hD hS
    · obtain ⟨hF9, hP9, E9, ce9, hz9, hq9, hn9, hc9⟩ := hR9
      have hv := hv.trans (xb_r hz9)
      have hS := zz_xS hS h09 hF9 (zz_free hD hS hA) hL9
      exact x_out htab hlocks (fun t ht hal => ⟨hS.F ht, by rw [ht, hv]; exact hP9, E9, ce9, by rw [hv], by rw [ht]; exact hq9, hn9, by rw [h19.findClass]; exact hc9⟩) hS.2.2 (Nat.le_of_ble_eq_true rfl) (Nat.le_of_ble_eq_true rfl)
  have B48 : ∀ (H : Heap) (locs : List Loc) (ls : Array Slot) (s0 : Int32) (σ : St), v = f_CL_widen_48 s0 σ → k_CL_widen_48 s0 σ → lv_has ls 3 [] → va_P D classes (Wc ty h σ px) H → va_D A (Wc ty h σ px) → va_S A s.heap H locs → W p l e (headSpec w_CL_widen rm_CL_widen).room s m args below meth c H locs 1 6 (xMQ below (Rx D classes (fun u => Wc ty h u px) A v) args s 1 6 A) (F0 m 48 ls [.int s0]) := by
    intro H locs ls s0 σ hv hk hl hP hD hS
    unfold f_CL_widen_48 at hv
    unfold k_CL_widen_48 at hk
    exact x_ret (fun o t hq => by obtain ⟨rfl, ht⟩ := hq; exact ⟨hS.F ht, by rw [ht, hv]; exact hP, _, rfl, by rw [hv]⟩) (Nat.le_of_ble_eq_true rfl) (Nat.le_of_ble_eq_true rfl) (W.iret (Qc := fun _ _ o t => o = .returned (some (.int s0)) ∧ t.heap = H) hx hb hr (fun t ht hW => ⟨rfl, ht⟩) hS.2.2 d_CL_widen_48)
  have B82 : ∀ (H : Heap) (locs : List Loc) (ls : Array Slot) (s0 : Int32) (σ : St), v = f_CL_widen_82 s0 σ → k_CL_widen_82 s0 σ → lv_has ls 3 [] → va_P D classes (Wc ty h σ px) H → va_D A (Wc ty h σ px) → va_S A s.heap H locs → W p l e (headSpec w_CL_widen rm_CL_widen).room s m args below meth c H locs 1 6 (xMQ below (Rx D classes (fun u => Wc ty h u px) A v) args s 1 6 A) (F0 m 82 ls [.int s0]) := by
    intro H locs ls s0 σ hv hk hl hP hD hS
    unfold f_CL_widen_82 at hv
    unfold k_CL_widen_82 at hk
    exact x_ret (fun o t hq => by obtain ⟨rfl, ht⟩ := hq; exact ⟨hS.F ht, by rw [ht, hv]; exact hP, _, rfl, by rw [hv]⟩) (Nat.le_of_ble_eq_true rfl) (Nat.le_of_ble_eq_true rfl) (W.iret (Qc := fun _ _ o t => o = .returned (some (.int s0)) ∧ t.heap = H) hx hb hr (fun t ht hW => ⟨rfl, ht⟩) hS.2.2 d_CL_widen_82)
  have B70 : ∀ (H : Heap) (locs : List Loc) (ls : Array Slot) (σ : St), v = f_CL_widen_70 σ → k_CL_widen_70 σ → lv_has ls 3 [(0, .ref (h 0))] → va_P D classes (Wc ty h σ px) H → va_D A (Wc ty h σ px) → va_S A s.heap H locs → W p l e (headSpec w_CL_widen rm_CL_widen).room s m args below meth c H locs 0 0 (xMQ below (Rx D classes (fun u => Wc ty h u px) A v) args s 1 6 A) (F0 m 70 ls []) := by
    intro H locs ls σ hv hk hl hP hD hS
    unfold f_CL_widen_70 at hv
    unfold k_CL_widen_70 at hk
    refine lv_aload_n hx hb d_CL_widen_70 rfl (lv_at hl 0 rfl) ?_
    refine lv_aload_n hx hb d_CL_widen_71 rfl (lv_at hl 0 rfl) ?_
    refine va_get (v := .ref (h 27)) (C := R_CL) (T := T_CL) (N := 11) hx hb hg in_CL hown hK hP 0 rfl rfl 8 (by decide) (hg _ m_292) (fun _ h9 => h9) rfl d_CL_widen_72 ?_
    obtain ⟨hk0, hk⟩ := hk
    refine zz_callV (va_runV (As := []) (rest := [.ref (h 0)]) ⟨hx, hb, hml, hown, hg⟩ (c_Sc_innermost l D ty h px σ  hk0) ⟨callB_of 0 hg (gw_C m_943) rfl rfl rfl (hg _ m_11) (hg _ m_940) hd_Sc_innermost ⟨Nat.le_of_ble_eq_true rfl, Nat.le_of_ble_eq_true rfl⟩, hg _ m_941, hg _ m_942⟩ (zz_preV hN hK hP 27 rfl rfl) rfl rfl hl.1 rfl (lv_room (Nat.le_of_ble_eq_true rfl)) d_CL_widen_75 ⟨Nat.le_of_ble_eq_true rfl, Nat.le_of_ble_eq_true rfl⟩) ?_
    refine lv_iconst (v := 0) hx hb d_CL_widen_78 (by decide) ?_
    obtain ⟨hk0, hk⟩ := hk
    refine x_callV (As := [.int (f_Sc_innermost σ), .int 0]) (rest := []) ⟨hx, hb, hml, hown, hg⟩ (c_CL_enterRow l hlt D ty h px sa σ H.size (f_Sc_innermost σ) 0 hk0) ⟨callB_of 2 hg (gw_C m_947) rfl rfl rfl (hg _ m_1) (hg _ m_944) hd_CL_enterRow ⟨Nat.le_of_ble_eq_true rfl, Nat.le_of_ble_eq_true rfl⟩, hg _ m_946, hg _ ms_30⟩ (zz_preX hN hX hS hA hK hP hD 0 rfl rfl) rfl hl.1 rfl (Nat.le_of_ble_eq_true rfl) d_CL_widen_79 ⟨Nat.le_of_ble_eq_true rfl, Nat.le_of_ble_eq_true rfl⟩ (fun r9 st9 t9 L9 h09 hal9 hR9 hL9 => ?_) (fun q9 st9 t9 L9 h09 h19 hal9 hR9 hL9 => ?_)
    · obtain ⟨hF9, hP9, x, rfl, hz9⟩ := hR9
      have hv := hv.trans (xb_l hz9)
      have hk := hk _ hz9
      have hS := zz_xS hS h09 hF9 (zz_free hD hS hA) hL9
      have hD : va_D A (Wc ty h (f_CL_enterRow (f_Sc_innermost σ) 0 σ).2 px) := zz_D hD rfl
      exact B82 _ _ _ x (f_CL_enterRow (f_Sc_innermost σ) 0 σ).2 hv hk (lv_sub hl [] rfl) hP9 hD hS
    · obtain ⟨hF9, hP9, E9, ce9, hz9, hq9, hn9, hc9⟩ := hR9
      have hv := hv.trans (xb_r hz9)
      have hS := zz_xS hS h09 hF9 (zz_free hD hS hA) hL9
      exact x_out htab hlocks (fun t ht hal => ⟨hS.F ht, by rw [ht, hv]; exact hP9, E9, ce9, by rw [hv], by rw [ht]; exact hq9, hn9, by rw [h19.findClass]; exact hc9⟩) hS.2.2 (Nat.le_of_ble_eq_true rfl) (Nat.le_of_ble_eq_true rfl)
  have B62 : ∀ (H : Heap) (locs : List Loc) (ls : Array Slot) (x2 : Int32) (σ : St), v = f_CL_widen_62 x2 σ → k_CL_widen_62 x2 σ → lv_has ls 3 [(0, .ref (h 0)), (2, .int x2)] → va_P D classes (Wc ty h σ px) H → va_D A (Wc ty h σ px) → va_S A s.heap H locs → W p l e (headSpec w_CL_widen rm_CL_widen).room s m args below meth c H locs 0 0 (xMQ below (Rx D classes (fun u => Wc ty h u px) A v) args s 1 6 A) (F0 m 62 ls []) := by
    intro H locs ls x2 σ hv hk hl hP hD hS
    unfold f_CL_widen_62 at hv
    unfold k_CL_widen_62 at hk
    refine lv_aload_n hx hb d_CL_widen_62 rfl (lv_at hl 0 rfl) ?_
    refine va_get (v := .ref (h 25)) (C := R_CL) (T := T_CL) (N := 11) hx hb hg in_CL hown hK hP 0 rfl rfl 7 (by decide) (hg _ m_291) (fun _ h9 => h9) rfl d_CL_widen_63 ?_
    refine lv_iload_n hx hb d_CL_widen_66 rfl (lv_at hl 1 rfl) ?_
    obtain ⟨hk0, hk⟩ := hk
    refine va_callv (va_runV (As := [.int x2]) (rest := []) ⟨hx, hb, hml, hown, hg⟩ (c_Ro_join l D ty h px σ H.size x2 hk0) ⟨callB_of 1 hg (gw_C m_939) rfl rfl rfl (hg _ m_10) (hg _ m_936) hd_Ro_join ⟨Nat.le_of_ble_eq_true rfl, Nat.le_of_ble_eq_true rfl⟩, hg _ m_937, hg _ m_938⟩ (zz_preVW hN hK hP hD 25 rfl rfl) rfl rfl hl.1 rfl (lv_room (Nat.le_of_ble_eq_true rfl)) d_CL_widen_67 ⟨Nat.le_of_ble_eq_true rfl, Nat.le_of_ble_eq_true rfl⟩) hS (fun q _ h => zz_free hD hS hA q h) (zz_free hD hS hA) (fun u67 t H locs ht hvm hp hP1 hz hk1 hS => ?_)
    rw [ht] at hP1
    rw [← hp] at hv hk
    have hD : va_D A (Wc ty h u67 px) := zz_D hD rfl
    have hP := hP1
    exact B70 _ _ _  u67 hv hk (lv_sub hl [0] rfl) hP hD hS
  have B56 : ∀ (H : Heap) (locs : List Loc) (ls : Array Slot) (x1 : Int32) (x2 : Int32) (σ : St), v = f_CL_widen_56 x1 x2 σ → k_CL_widen_56 x1 x2 σ → lv_has ls 3 [(0, .ref (h 0)), (1, .int x1), (2, .int x2)] → va_P D classes (Wc ty h σ px) H → va_D A (Wc ty h σ px) → va_S A s.heap H locs → W p l e (headSpec w_CL_widen rm_CL_widen).room s m args below meth c H locs 0 0 (xMQ below (Rx D classes (fun u => Wc ty h u px) A v) args s 1 6 A) (F0 m 56 ls []) := by
    intro H locs ls x1 x2 σ hv hk hl hP hD hS
    unfold f_CL_widen_56 at hv
    unfold k_CL_widen_56 at hk
    refine lv_aload_n hx hb d_CL_widen_56 rfl (lv_at hl 0 rfl) ?_
    refine lv_iload_n hx hb d_CL_widen_57 rfl (lv_at hl 1 rfl) ?_
    refine lv_iconst (v := -1) hx hb d_CL_widen_58 (by decide) ?_
    obtain ⟨hk0, hk⟩ := hk
    refine va_callv (va_runV (As := [.int x1, .int (-1)]) (rest := []) ⟨hx, hb, hml, hown, hg⟩ (c_CL_joinAllBut l D ty h px σ H.size x1 (-1) hk0) ⟨callB_of 2 hg (gw_C m_988) rfl rfl rfl (hg _ m_1) (hg _ m_985) hd_CL_joinAllBut ⟨Nat.le_of_ble_eq_true rfl, Nat.le_of_ble_eq_true rfl⟩, hg _ m_987, hg _ ms_31⟩ (zz_preVW hN hK hP hD 0 rfl rfl) rfl rfl hl.1 rfl (lv_room (Nat.le_of_ble_eq_true rfl)) d_CL_widen_59 ⟨Nat.le_of_ble_eq_true rfl, Nat.le_of_ble_eq_true rfl⟩) hS (fun q _ h => zz_free hD hS hA q h) (zz_free hD hS hA) (fun u59 t H locs ht hvm hp hP1 hz hk1 hS => ?_)
    rw [ht] at hP1
    rw [← hp] at hv hk
    have hD : va_D A (Wc ty h u59 px) := zz_D hD rfl
    have hP := hP1
    exact B62 _ _ _ x2 u59 hv hk (lv_sub hl [0, 2] rfl) hP hD hS
  unfold f_CL_widen at hv
  unfold k_CL_widen at hk
  refine lv_aload_n hx hb d_CL_widen_0 rfl (lv_at hl 0 rfl) ?_
  obtain ⟨hk0, hk⟩ := hk
  refine zz_callV (va_runV (As := []) (rest := []) ⟨hx, hb, hml, hown, hg⟩ (c_CL_isShut l D ty h px σ  hk0) ⟨callB_of 0 hg (gw_C m_571) rfl rfl rfl (hg _ m_1) (hg _ m_568) hd_CL_isShut ⟨Nat.le_of_ble_eq_true rfl, Nat.le_of_ble_eq_true rfl⟩, hg _ m_570, hg _ ms_8⟩ (zz_preV hN hK hP 0 rfl rfl) rfl rfl hl.1 rfl (lv_room (Nat.le_of_ble_eq_true rfl)) d_CL_widen_1 ⟨Nat.le_of_ble_eq_true rfl, Nat.le_of_ble_eq_true rfl⟩) ?_
  refine lv_if_eq (tgt := 9) hx hb d_CL_widen_4 (by decide) (fun hc => ?_) (fun hc => ?_)
  · have hv := hv.trans (if_pos hc)
    have hk := hk.1 hc
    refine lv_aload_n hx hb d_CL_widen_9 rfl (lv_at hl 0 rfl) ?_
    refine lv_iload_n hx hb d_CL_widen_10 rfl (lv_at hl 1 rfl) ?_
    obtain ⟨hk0, hk⟩ := hk
    refine zz_callV (va_runV (As := [.int a1]) (rest := []) ⟨hx, hb, hml, hown, hg⟩ (c_CL_stands l D ty h px σ a1 hk0) ⟨callB_of 1 hg (gw_C m_406) rfl rfl rfl (hg _ m_1) (hg _ m_403) hd_CL_stands ⟨Nat.le_of_ble_eq_true rfl, Nat.le_of_ble_eq_true rfl⟩, hg _ m_405, hg _ ms_3⟩ (zz_preV hN hK hP 0 rfl rfl) rfl rfl hl.1 rfl (lv_room (Nat.le_of_ble_eq_true rfl)) d_CL_widen_11 ⟨Nat.le_of_ble_eq_true rfl, Nat.le_of_ble_eq_true rfl⟩) ?_
    refine lv_if_eq (tgt := 28) hx hb d_CL_widen_14 (by decide) (fun hc => ?_) (fun hc => ?_)
    · have hv := hv.trans (if_pos hc)
      have hk := hk.1 hc
      exact B28 _ _ _  σ hv hk (lv_sub hl [0] rfl) hP hD hS
    · have hv := hv.trans (if_neg hc)
      have hk := hk.2 hc
      refine lv_aload_n hx hb d_CL_widen_17 rfl (lv_at hl 0 rfl) ?_
      refine va_get (v := .ref (h 6)) (C := R_CL) (T := T_CL) (N := 11) hx hb hg in_CL hown hK hP 0 rfl rfl 1 (by decide) (hg _ m_285) (fun _ h9 => h9) rfl d_CL_widen_18 ?_
      refine lv_iload_n hx hb d_CL_widen_21 rfl (lv_at hl 2 rfl) ?_
      obtain ⟨hk0, hk⟩ := hk
      refine zz_callV (va_runV (As := [.int a2]) (rest := []) ⟨hx, hb, hml, hown, hg⟩ (c_Te_has l D ty h px σ a2 hk0) ⟨callB_of 1 hg (gw_C m_430) rfl rfl rfl (hg _ m_3) (hg _ m_427) hd_Te_has ⟨Nat.le_of_ble_eq_true rfl, Nat.le_of_ble_eq_true rfl⟩, hg _ m_428, hg _ m_429⟩ (zz_preV hN hK hP 6 rfl rfl) rfl rfl hl.1 rfl (lv_room (Nat.le_of_ble_eq_true rfl)) d_CL_widen_22 ⟨Nat.le_of_ble_eq_true rfl, Nat.le_of_ble_eq_true rfl⟩) ?_
      refine lv_if_ne (tgt := 33) hx hb d_CL_widen_25 (by decide) (fun hc => ?_) (fun hc => ?_)
      · have hv := hv.trans (if_neg hc)
        have hk := hk.2 hc
        refine lv_aload_n hx hb d_CL_widen_33 rfl (lv_at hl 0 rfl) ?_
        refine va_get (v := .ref (h 6)) (C := R_CL) (T := T_CL) (N := 11) hx hb hg in_CL hown hK hP 0 rfl rfl 1 (by decide) (hg _ m_285) (fun _ h9 => h9) rfl d_CL_widen_34 ?_
        refine lv_iload_n hx hb d_CL_widen_37 rfl (lv_at hl 2 rfl) ?_
        obtain ⟨hk0, hk⟩ := hk
        refine zz_callV (va_runV (As := [.int a2]) (rest := []) ⟨hx, hb, hml, hown, hg⟩ (c_Te_isTruth l D ty h px σ a2 hk0) ⟨callB_of 1 hg (gw_C m_661) rfl rfl rfl (hg _ m_3) (hg _ m_931) hd_Te_isTruth ⟨Nat.le_of_ble_eq_true rfl, Nat.le_of_ble_eq_true rfl⟩, hg _ m_659, hg _ m_660⟩ (zz_preV hN hK hP 6 rfl rfl) rfl rfl hl.1 rfl (lv_room (Nat.le_of_ble_eq_true rfl)) d_CL_widen_38 ⟨Nat.le_of_ble_eq_true rfl, Nat.le_of_ble_eq_true rfl⟩) ?_
        refine lv_if_ne (tgt := 49) hx hb d_CL_widen_41 (by decide) (fun hc => ?_) (fun hc => ?_)
        · have hv := hv.trans (if_neg hc)
          have hk := hk.2 hc
          refine lv_aload_n hx hb d_CL_widen_49 rfl (lv_at hl 0 rfl) ?_
          refine va_get (v := .ref (h 25)) (C := R_CL) (T := T_CL) (N := 11) hx hb hg in_CL hown hK hP 0 rfl rfl 7 (by decide) (hg _ m_291) (fun _ h9 => h9) rfl d_CL_widen_50 ?_
          obtain ⟨hk0, hk⟩ := hk
          refine va_callv (va_runV (As := []) (rest := []) ⟨hx, hb, hml, hown, hg⟩ (c_Ro_wipe l D ty h px σ s.heap.size  hk0) ⟨callB_of 0 hg (gw_C m_935) rfl rfl rfl (hg _ m_10) (hg _ m_932) hd_Ro_wipe ⟨Nat.le_of_ble_eq_true rfl, Nat.le_of_ble_eq_true rfl⟩, hg _ m_933, hg _ m_934⟩ (zz_preVW hN hK hP hD 25 rfl rfl) rfl rfl hl.1 rfl (lv_room (Nat.le_of_ble_eq_true rfl)) d_CL_widen_53 ⟨Nat.le_of_ble_eq_true rfl, Nat.le_of_ble_eq_true rfl⟩) hS (fun q _ h => zz_free hD hS hA q h) (zz_free hD hS hA) (fun u53 t H locs ht hvm hp hP1 hz hk1 hS => ?_)
          rw [ht] at hP1
          rw [← hp] at hv hk
          have hD : va_D A (Wc ty h u53 px) := zz_D hD rfl
          have hP := hP1
          exact B56 _ _ _ a1 a2 u53 hv hk (lv_sub hl [0, 1, 2] rfl) hP hD hS
        · have hv := hv.trans (if_pos hc)
          have hk := hk.1 hc
          refine lv_aload_n hx hb d_CL_widen_44 rfl (lv_at hl 0 rfl) ?_
          obtain ⟨hk0, hk⟩ := hk
          refine x_callV (As := []) (rest := []) ⟨hx, hb, hml, hown, hg⟩ (c_CL_throwWrong l hlt D ty h px sa σ s.heap.size  hk0) ⟨callB_of 0 hg (gw_C m_774) rfl rfl rfl (hg _ m_1) (hg _ m_771) hd_CL_throwWrong ⟨Nat.le_of_ble_eq_true rfl, Nat.le_of_ble_eq_true rfl⟩, hg _ m_773, hg _ ms_24⟩ (zz_preX hN hX hS hA hK hP hD 0 rfl rfl) rfl hl.1 rfl (Nat.le_of_ble_eq_true rfl) d_CL_widen_45 ⟨Nat.le_of_ble_eq_true rfl, Nat.le_of_ble_eq_true rfl⟩ (fun r9 st9 t9 L9 h09 hal9 hR9 hL9 => ?_) (fun q9 st9 t9 L9 h09 h19 hal9 hR9 hL9 => ?_)
          · obtain ⟨hF9, hP9, x, rfl, hz9⟩ := hR9
            have hv := hv.trans (xb_l hz9)
            have hk := hk _ hz9
            have hS := zz_xS hS h09 hF9 (zz_free hD hS hA) hL9
            have hD : va_D A (Wc ty h (f_CL_throwWrong σ).2 px) := zz_D hD rfl
            exact B48 _ _ _ x (f_CL_throwWrong σ).2 hv hk (lv_sub hl [] rfl) hP9 hD hS
          · obtain ⟨hF9, hP9, E9, ce9, hz9, hq9, hn9, hc9⟩ := hR9
            have hv := hv.trans (xb_r hz9)
            have hS := zz_xS hS h09 hF9 (zz_free hD hS hA) hL9
            exact x_out htab hlocks (fun t ht hal => ⟨hS.F ht, by rw [ht, hv]; exact hP9, E9, ce9, by rw [hv], by rw [ht]; exact hq9, hn9, by rw [h19.findClass]; exact hc9⟩) hS.2.2 (Nat.le_of_ble_eq_true rfl) (Nat.le_of_ble_eq_true rfl)
      · have hv := hv.trans (if_pos hc)
        have hk := hk.1 hc
        exact B28 _ _ _  σ hv hk (lv_sub hl [0] rfl) hP hD hS
  · have hv := hv.trans (if_neg hc)
    have hk := hk.2 hc
    refine lv_iconst (v := -1) hx hb d_CL_widen_7 (by decide) ?_
    exact x_ret (fun o t hq => by obtain ⟨rfl, ht⟩ := hq; exact ⟨hS.F ht, by rw [ht, hv]; exact hP, _, rfl, by rw [hv]⟩) (Nat.le_of_ble_eq_true rfl) (Nat.le_of_ble_eq_true rfl) (W.iret (Qc := fun _ _ o t => o = .returned (some (.int (-1))) ∧ t.heap = s.heap) hx hb hr (fun t ht hW => ⟨rfl, ht⟩) hS.2.2 d_CL_widen_8)

-- ClauseLedger$Terms.secondOf(I)I
abbrev b_Te_secondOf : ByteArray := prog_11_method_9_code
def y_Te_secondOf : MethodName := ⟨"ClauseLedger$Terms", "secondOf", "(I)I"⟩
theorem hd_Te_secondOf : y_Te_secondOf.cls ≠ "java/lang/invoke/MethodHandle" ∧ y_Te_secondOf.cls ≠ "java/lang/invoke/VarHandle" ∧ (parseMethodDescriptor y_Te_secondOf.desc).map (fun d => d.parameters.length) = some 1 := by decide +kernel
theorem d_Te_secondOf_0 : decode b_Te_secondOf 0 = .ok (.aload_n 0, 1) := by decide +kernel
theorem d_Te_secondOf_1 : decode b_Te_secondOf 1 = .ok (.iload_n 1, 1) := by decide +kernel
theorem d_Te_secondOf_2 : decode b_Te_secondOf 2 = .ok (.invokevirtual 57, 3) := by decide +kernel
theorem d_Te_secondOf_5 : decode b_Te_secondOf 5 = .ok (.ifCond .eq 12, 3) := by decide +kernel
theorem d_Te_secondOf_8 : decode b_Te_secondOf 8 = .ok (.aload_n 0, 1) := by decide +kernel
theorem d_Te_secondOf_9 : decode b_Te_secondOf 9 = .ok (.getfield 24, 3) := by decide +kernel
theorem d_Te_secondOf_12 : decode b_Te_secondOf 12 = .ok (.iload_n 1, 1) := by decide +kernel
theorem d_Te_secondOf_13 : decode b_Te_secondOf 13 = .ok (.iaload, 1) := by decide +kernel
theorem d_Te_secondOf_14 : decode b_Te_secondOf 14 = .ok (.goto 4, 3) := by decide +kernel
theorem d_Te_secondOf_17 : decode b_Te_secondOf 17 = .ok (.iconst (-1), 1) := by decide +kernel
theorem d_Te_secondOf_18 : decode b_Te_secondOf 18 = .ok (.ireturn, 1) := by decide +kernel
def f_Te_secondOf_18 (s0 : Int32) (σ : St) : Int32 := s0
def k_Te_secondOf_18 (s0 : Int32) (σ : St) : Prop := True
def f_Te_secondOf (a1 : Int32) (σ : St) : Int32 := if (f_Te_has a1 σ) = 0 then (f_Te_secondOf_18 (-1) σ) else (f_Te_secondOf_18 (σ.1 11 a1.toNatClampNeg) σ)
def k_Te_secondOf (a1 : Int32) (σ : St) : Prop := (k_Te_has a1 σ) ∧ (((f_Te_has a1 σ) = 0 → (k_Te_secondOf_18 (-1) σ)) ∧ (¬ (f_Te_has a1 σ) = 0 → (vp_in a1 208 ∧ (k_Te_secondOf_18 (σ.1 11 a1.toNatClampNeg) σ))))
abbrev w_Te_secondOf : List Cond := Cond.code y_Te_secondOf b_Te_secondOf 2 (some .int) :: gw
abbrev rm_Te_secondOf : Room := { frames := 1, cells := 0, slots := 0, locals := 21 }
set_option maxHeartbeats 4000000 in
set_option maxRecDepth 100000 in
theorem c_Te_secondOf (l : Launch) (D : va_G) (ty : Nat → ClassId) (h : Nat → Nat) (px : va_W) (σ : St) (a1 : Int32) (hk : k_Te_secondOf a1 σ) : Met l y_Te_secondOf w_Te_secondOf rm_Te_secondOf (va_Pc [.ref (h 6), .int a1] (fun U => va_P D classes (Wc ty h σ px) U.heap ∧ va_K D classes (Ta ty) U ∧ NW U)) (k2_QcV (.int (f_Te_secondOf a1 σ))) 0 0 (fun _ => False) := by
  refine Met.ofW (cc := b_Te_secondOf) (maxL := 2) (ret := (some .int)) (by decide) rfl ?_
  intro p e s m args below meth c s₁ B hml hv
  obtain ⟨ha, hP, hK, hN⟩ := hv
  have hx := B.exec
  have hb := B.bytes
  have hr := B.returns
  have hg : ∀ w ∈ gw, w.before args s = true := fun w h9 => atoms_spec (ws := w_Te_secondOf) B.pre w (List.mem_cons_of_mem _ h9)
  have hown : s.vm.findClass "ClauseLedger$Terms" = some m.cls := findClass_of_methodNamed B.named
  have hlocks := B.notSynchronized
  have he : entryFrame m args 2 = entryFrame m ([.ref (h 6), .int a1] : List Value).toArray 2 := by rw [ha]
  rw [he, lg_entry_eq]
  have hl := lv_entry ([.ref (h 6), .int a1]) (n := 2) (Nat.le_of_ble_eq_true rfl)
  generalize (lg_sl ([.ref (h 6), .int a1]) ++ List.replicate (2 - (lg_sl ([.ref (h 6), .int a1])).length) Slot.unset).toArray = ls at hl ⊢
  have hl : lv_has ls 2 [(0, .ref (h 6)), (1, .int a1)] := hl
  generalize hv : f_Te_secondOf a1 σ = v
  replace hv := hv.symm
  have B18 : ∀ (ls : Array Slot) (s0 : Int32), v = f_Te_secondOf_18 s0 σ → k_Te_secondOf_18 s0 σ → lv_has ls 2 [] → W p l e (headSpec w_Te_secondOf rm_Te_secondOf).room s m args below meth c s.heap [] 0 0 (MQ below (k2_QcV (.int v)) args s 0 0 (fun _ => False)) (F0 m 18 ls [.int s0]) := by
    intro ls s0 hv hk hl
    unfold f_Te_secondOf_18 at hv
    unfold k_Te_secondOf_18 at hk
    exact W.iret hx hb hr (fun t ht hW => ⟨by rw [hv], ht⟩) (fun q h => nomatch h) d_Te_secondOf_18
  unfold f_Te_secondOf at hv
  unfold k_Te_secondOf at hk
  refine lv_aload_n hx hb d_Te_secondOf_0 rfl (lv_at hl 0 rfl) ?_
  refine lv_iload_n hx hb d_Te_secondOf_1 rfl (lv_at hl 1 rfl) ?_
  obtain ⟨hk0, hk⟩ := hk
  refine zz_callV (va_runV (As := [.int a1]) (rest := []) ⟨hx, hb, hml, hown, hg⟩ (c_Te_has l D ty h px σ a1 hk0) ⟨callB_of 1 hg (gw_C m_430) rfl rfl rfl (hg _ m_3) (hg _ m_435) hd_Te_has ⟨Nat.le_of_ble_eq_true rfl, Nat.le_of_ble_eq_true rfl⟩, hg _ m_428, hg _ m_429⟩ (zz_preV hN hK hP 6 rfl rfl) rfl rfl hl.1 rfl (lv_room (Nat.le_of_ble_eq_true rfl)) d_Te_secondOf_2 ⟨Nat.le_of_ble_eq_true rfl, Nat.le_of_ble_eq_true rfl⟩) ?_
  refine lv_if_eq (tgt := 17) hx hb d_Te_secondOf_5 (by decide) (fun hc => ?_) (fun hc => ?_)
  · have hv := hv.trans (if_pos hc)
    have hk := hk.1 hc
    refine lv_iconst (v := -1) hx hb d_Te_secondOf_17 (by decide) ?_
    exact B18 _ (-1) hv hk (lv_sub hl [] rfl)
  · have hv := hv.trans (if_neg hc)
    have hk := hk.2 hc
    refine lv_aload_n hx hb d_Te_secondOf_8 rfl (lv_at hl 0 rfl) ?_
    refine va_get (v := .ref (h 11)) (C := R_Te) (T := T_Te) (N := 14) hx hb hg in_Te hown hK hP 6 rfl rfl 4 (by decide) (hg _ m_73) (fun _ h9 => h9) rfl d_Te_secondOf_9 ?_
    refine lv_iload_n hx hb d_Te_secondOf_12 rfl (lv_at hl 1 rfl) ?_
    obtain ⟨hk0, hk⟩ := hk
    refine va_iald hx hb hK hP 11 0 rfl rfl hk0 d_Te_secondOf_13 ?_
    refine lv_goto (tgt := 18) hx hb d_Te_secondOf_14 (by decide) ?_
    exact B18 _ (σ.1 11 a1.toNatClampNeg) hv hk (lv_sub hl [] rfl)

-- ClauseLedger$Terms.append(JIII)I
abbrev b_Te_append : ByteArray := prog_11_method_28_code
def y_Te_append : MethodName := ⟨"ClauseLedger$Terms", "append", "(JIII)I"⟩
theorem hd_Te_append : y_Te_append.cls ≠ "java/lang/invoke/MethodHandle" ∧ y_Te_append.cls ≠ "java/lang/invoke/VarHandle" ∧ (parseMethodDescriptor y_Te_append.desc).map (fun d => d.parameters.length) = some 4 := by decide +kernel
theorem d_Te_append_0 : decode b_Te_append 0 = .ok (.aload_n 0, 1) := by decide +kernel
theorem d_Te_append_1 : decode b_Te_append 1 = .ok (.getfield 46, 3) := by decide +kernel
theorem d_Te_append_4 : decode b_Te_append 4 = .ok (.sipush 207, 3) := by decide +kernel
theorem d_Te_append_7 : decode b_Te_append 7 = .ok (.invokestatic 123, 3) := by decide +kernel
theorem d_Te_append_10 : decode b_Te_append 10 = .ok (.istore 6, 2) := by decide +kernel
theorem d_Te_append_12 : decode b_Te_append 12 = .ok (.aload_n 0, 1) := by decide +kernel
theorem d_Te_append_13 : decode b_Te_append 13 = .ok (.iload 6, 2) := by decide +kernel
theorem d_Te_append_15 : decode b_Te_append 15 = .ok (.iconst 1, 1) := by decide +kernel
theorem d_Te_append_16 : decode b_Te_append 16 = .ok (.iadd, 1) := by decide +kernel
theorem d_Te_append_17 : decode b_Te_append 17 = .ok (.putfield 46, 3) := by decide +kernel
theorem d_Te_append_20 : decode b_Te_append 20 = .ok (.aload_n 0, 1) := by decide +kernel
theorem d_Te_append_21 : decode b_Te_append 21 = .ok (.getfield 42, 3) := by decide +kernel
theorem d_Te_append_24 : decode b_Te_append 24 = .ok (.iload 6, 2) := by decide +kernel
theorem d_Te_append_26 : decode b_Te_append 26 = .ok (.lload_n 1, 1) := by decide +kernel
theorem d_Te_append_27 : decode b_Te_append 27 = .ok (.lastore, 1) := by decide +kernel
theorem d_Te_append_28 : decode b_Te_append 28 = .ok (.aload_n 0, 1) := by decide +kernel
theorem d_Te_append_29 : decode b_Te_append 29 = .ok (.getfield 11, 3) := by decide +kernel
theorem d_Te_append_32 : decode b_Te_append 32 = .ok (.iload 6, 2) := by decide +kernel
theorem d_Te_append_34 : decode b_Te_append 34 = .ok (.iload_n 3, 1) := by decide +kernel
theorem d_Te_append_35 : decode b_Te_append 35 = .ok (.iastore, 1) := by decide +kernel
theorem d_Te_append_36 : decode b_Te_append 36 = .ok (.aload_n 0, 1) := by decide +kernel
theorem d_Te_append_37 : decode b_Te_append 37 = .ok (.getfield 15, 3) := by decide +kernel
theorem d_Te_append_40 : decode b_Te_append 40 = .ok (.iload 6, 2) := by decide +kernel
theorem d_Te_append_42 : decode b_Te_append 42 = .ok (.iload 4, 2) := by decide +kernel
theorem d_Te_append_44 : decode b_Te_append 44 = .ok (.iastore, 1) := by decide +kernel
theorem d_Te_append_45 : decode b_Te_append 45 = .ok (.aload_n 0, 1) := by decide +kernel
theorem d_Te_append_46 : decode b_Te_append 46 = .ok (.getfield 18, 3) := by decide +kernel
theorem d_Te_append_49 : decode b_Te_append 49 = .ok (.iload 6, 2) := by decide +kernel
theorem d_Te_append_51 : decode b_Te_append 51 = .ok (.iload 5, 2) := by decide +kernel
theorem d_Te_append_53 : decode b_Te_append 53 = .ok (.iastore, 1) := by decide +kernel
theorem d_Te_append_54 : decode b_Te_append 54 = .ok (.iload 6, 2) := by decide +kernel
theorem d_Te_append_56 : decode b_Te_append 56 = .ok (.ireturn, 1) := by decide +kernel
def f_Te_append_54 (x6 : Int32) (σ : St) : Int32 × St := (x6, σ)
def k_Te_append_54 (x6 : Int32) (σ : St) : Prop := True
def f_Te_append_45 (x5 : Int32) (x6 : Int32) (σ : St) : Int32 × St := f_Te_append_54 x6 (sA σ 9 x6 x5)
def k_Te_append_45 (x5 : Int32) (x6 : Int32) (σ : St) : Prop := vp_in x6 208 ∧ (k_Te_append_54 x6 (sA σ 9 x6 x5))
def f_Te_append_36 (x4 : Int32) (x5 : Int32) (x6 : Int32) (σ : St) : Int32 × St := f_Te_append_45 x5 x6 (sA σ 8 x6 x4)
def k_Te_append_36 (x4 : Int32) (x5 : Int32) (x6 : Int32) (σ : St) : Prop := vp_in x6 208 ∧ (k_Te_append_45 x5 x6 (sA σ 8 x6 x4))
def f_Te_append_28 (x3 : Int32) (x4 : Int32) (x5 : Int32) (x6 : Int32) (σ : St) : Int32 × St := f_Te_append_36 x4 x5 x6 (sA σ 7 x6 x3)
def k_Te_append_28 (x3 : Int32) (x4 : Int32) (x5 : Int32) (x6 : Int32) (σ : St) : Prop := vp_in x6 208 ∧ (k_Te_append_36 x4 x5 x6 (sA σ 7 x6 x3))
def f_Te_append_20 (x1 : Int64) (x3 : Int32) (x4 : Int32) (x5 : Int32) (x6 : Int32) (σ : St) : Int32 × St := f_Te_append_28 x3 x4 x5 x6 (sL σ 17 x6 x1)
def k_Te_append_20 (x1 : Int64) (x3 : Int32) (x4 : Int32) (x5 : Int32) (x6 : Int32) (σ : St) : Prop := vp_in x6 208 ∧ (k_Te_append_28 x3 x4 x5 x6 (sL σ 17 x6 x1))
def f_Te_append_12 (x1 : Int64) (x3 : Int32) (x4 : Int32) (x5 : Int32) (x6 : Int32) (σ : St) : Int32 × St := f_Te_append_20 x1 x3 x4 x5 x6 (sF σ 6 11 (x6 + 1))
def k_Te_append_12 (x1 : Int64) (x3 : Int32) (x4 : Int32) (x5 : Int32) (x6 : Int32) (σ : St) : Prop := k_Te_append_20 x1 x3 x4 x5 x6 (sF σ 6 11 (x6 + 1))
def f_Te_append (a1 : Int64) (a3 : Int32) (a4 : Int32) (a5 : Int32) (σ : St) : Int32 × St := f_Te_append_12 a1 a3 a4 a5 (if 207 < (σ.1 6 11) then 207 else (σ.1 6 11)) σ
def k_Te_append (a1 : Int64) (a3 : Int32) (a4 : Int32) (a5 : Int32) (σ : St) : Prop := k_Te_append_12 a1 a3 a4 a5 (if 207 < (σ.1 6 11) then 207 else (σ.1 6 11)) σ
abbrev w_Te_append : List Cond := Cond.code y_Te_append b_Te_append 7 (some .int) :: gw
abbrev rm_Te_append : Room := { frames := 1, cells := 0, slots := 0, locals := 21 }
set_option maxHeartbeats 4000000 in
set_option maxRecDepth 100000 in
theorem c_Te_append (l : Launch) (D : va_G) (ty : Nat → ClassId) (h : Nat → Nat) (px : va_W) (σ : St) (sz : Nat) (a1 : Int64) (a3 : Int32) (a4 : Int32) (a5 : Int32) (hk : k_Te_append a1 a3 a4 a5 σ) : Met l y_Te_append w_Te_append rm_Te_append (va_Pc [.ref (h 6), .long a1, .int a3, .int a4, .int a5] (fun U => U.heap.size = sz ∧ va_P D classes (Wc ty h σ px) U.heap ∧ va_K D classes (Ta ty) U ∧ NW U ∧ va_D (fun _ => True) (Wc ty h σ px))) (va_Qi (fun r (u : St) => (r, u) = f_Te_append a1 a3 a4 a5 σ) (fun u t => va_P D classes (Wc ty h u px) t.heap) (va_A (Wc ty h σ px) sz)) 0 0 (va_A (Wc ty h σ px) sz) := by
  refine Met.ofW (cc := b_Te_append) (maxL := 7) (ret := (some .int)) (by decide) rfl ?_
  intro p e s m args below meth c s₁ B hml hv
  obtain ⟨ha, hsz, hP, hK, hN, hD0⟩ := hv
  have hx := B.exec
  have hb := B.bytes
  have hr := B.returns
  have hg : ∀ w ∈ gw, w.before args s = true := fun w h9 => atoms_spec (ws := w_Te_append) B.pre w (List.mem_cons_of_mem _ h9)
  have hown : s.vm.findClass "ClauseLedger$Terms" = some m.cls := findClass_of_methodNamed B.named
  have hlocks := B.notSynchronized
  subst hsz
  have hD := hD0.self (sz := s.heap.size)
  generalize hAe : va_A (Wc ty h σ px) s.heap.size = A at hD ⊢
  have hA : ∀ q : Nat, s.heap.size ≤ q → A q := fun q h9 => by rw [← hAe]; exact Or.inr h9
  have hS : va_S A s.heap s.heap [] := va_S.rf
  have he : entryFrame m args 7 = entryFrame m ([.ref (h 6), .long a1, .int a3, .int a4, .int a5] : List Value).toArray 7 := by rw [ha]
  rw [he, lg_entry_eq]
  have hl := lv_entry ([.ref (h 6), .long a1, .int a3, .int a4, .int a5]) (n := 7) (Nat.le_of_ble_eq_true rfl)
  generalize (lg_sl ([.ref (h 6), .long a1, .int a3, .int a4, .int a5]) ++ List.replicate (7 - (lg_sl ([.ref (h 6), .long a1, .int a3, .int a4, .int a5])).length) Slot.unset).toArray = ls at hl ⊢
  have hl : lv_has ls 7 [(0, .ref (h 6)), (1, .long a1), (3, .int a3), (4, .int a4), (5, .int a5)] := hl
  generalize hv : f_Te_append a1 a3 a4 a5 σ = v
  replace hv := hv.symm
  have B54 : ∀ (H : Heap) (locs : List Loc) (ls : Array Slot) (x6 : Int32) (σ : St), v = f_Te_append_54 x6 σ → k_Te_append_54 x6 σ → lv_has ls 7 [(6, .int x6)] → va_P D classes (Wc ty h σ px) H → va_D A (Wc ty h σ px) → va_S A s.heap H locs → W p l e (headSpec w_Te_append rm_Te_append).room s m args below meth c H locs 0 0 (MQ below (va_Qi (fun r (u : St) => (r, u) = v) (fun u t => va_P D classes (Wc ty h u px) t.heap) A) args s 0 0 A) (F0 m 54 ls []) := by
    intro H locs ls x6 σ hv hk hl hP hD hS
    unfold f_Te_append_54 at hv
    unfold k_Te_append_54 at hk
    refine lv_iload hx hb d_Te_append_54 (lv_at hl 0 rfl) ?_
    exact W.iret hx hb hr (fun t ht hW => ⟨⟨_, _, rfl, hv.symm, by dsimp only; rw [ht]; exact hP⟩, hS.F ht⟩) hS.2.2 d_Te_append_56
  have B45 : ∀ (H : Heap) (locs : List Loc) (ls : Array Slot) (x5 : Int32) (x6 : Int32) (σ : St), v = f_Te_append_45 x5 x6 σ → k_Te_append_45 x5 x6 σ → lv_has ls 7 [(0, .ref (h 6)), (5, .int x5), (6, .int x6)] → va_P D classes (Wc ty h σ px) H → va_D A (Wc ty h σ px) → va_S A s.heap H locs → W p l e (headSpec w_Te_append rm_Te_append).room s m args below meth c H locs 0 0 (MQ below (va_Qi (fun r (u : St) => (r, u) = v) (fun u t => va_P D classes (Wc ty h u px) t.heap) A) args s 0 0 A) (F0 m 45 ls []) := by
    intro H locs ls x5 x6 σ hv hk hl hP hD hS
    unfold f_Te_append_45 at hv
    unfold k_Te_append_45 at hk
    refine lv_aload_n hx hb d_Te_append_45 rfl (lv_at hl 0 rfl) ?_
    refine va_get (v := .ref (h 9)) (C := R_Te) (T := T_Te) (N := 14) hx hb hg in_Te hown hK hP 6 rfl rfl 2 (by decide) (hg _ m_71) (fun _ h9 => h9) rfl d_Te_append_46 ?_
    refine lv_iload hx hb d_Te_append_49 (lv_at hl 2 rfl) ?_
    refine lv_iload hx hb d_Te_append_51 (lv_at hl 1 rfl) ?_
    obtain ⟨hk0, hk⟩ := hk
    refine va_iast hx hb hK hP hD hS 9 0 rfl rfl hk0 d_Te_append_53 (fun H locs hP hD hS => ?_)
    have hP : va_P D classes (Wc ty h (sA σ 9 x6 x5) px) H := hP
    have hD : va_D A (Wc ty h (sA σ 9 x6 x5) px) := hD
    exact B54 _ _ _ x6 (sA σ 9 x6 x5) hv hk (lv_sub hl [2] rfl) hP hD hS
  have B36 : ∀ (H : Heap) (locs : List Loc) (ls : Array Slot) (x4 : Int32) (x5 : Int32) (x6 : Int32) (σ : St), v = f_Te_append_36 x4 x5 x6 σ → k_Te_append_36 x4 x5 x6 σ → lv_has ls 7 [(0, .ref (h 6)), (4, .int x4), (5, .int x5), (6, .int x6)] → va_P D classes (Wc ty h σ px) H → va_D A (Wc ty h σ px) → va_S A s.heap H locs → W p l e (headSpec w_Te_append rm_Te_append).room s m args below meth c H locs 0 0 (MQ below (va_Qi (fun r (u : St) => (r, u) = v) (fun u t => va_P D classes (Wc ty h u px) t.heap) A) args s 0 0 A) (F0 m 36 ls []) := by
    intro H locs ls x4 x5 x6 σ hv hk hl hP hD hS
    unfold f_Te_append_36 at hv
    unfold k_Te_append_36 at hk
    refine lv_aload_n hx hb d_Te_append_36 rfl (lv_at hl 0 rfl) ?_
    refine va_get (v := .ref (h 8)) (C := R_Te) (T := T_Te) (N := 14) hx hb hg in_Te hown hK hP 6 rfl rfl 1 (by decide) (hg _ m_70) (fun _ h9 => h9) rfl d_Te_append_37 ?_
    refine lv_iload hx hb d_Te_append_40 (lv_at hl 3 rfl) ?_
    refine lv_iload hx hb d_Te_append_42 (lv_at hl 1 rfl) ?_
    obtain ⟨hk0, hk⟩ := hk
    refine va_iast hx hb hK hP hD hS 8 0 rfl rfl hk0 d_Te_append_44 (fun H locs hP hD hS => ?_)
    have hP : va_P D classes (Wc ty h (sA σ 8 x6 x4) px) H := hP
    have hD : va_D A (Wc ty h (sA σ 8 x6 x4) px) := hD
    exact B45 _ _ _ x5 x6 (sA σ 8 x6 x4) hv hk (lv_sub hl [0, 2, 3] rfl) hP hD hS
  have B28 : ∀ (H : Heap) (locs : List Loc) (ls : Array Slot) (x3 : Int32) (x4 : Int32) (x5 : Int32) (x6 : Int32) (σ : St), v = f_Te_append_28 x3 x4 x5 x6 σ → k_Te_append_28 x3 x4 x5 x6 σ → lv_has ls 7 [(0, .ref (h 6)), (3, .int x3), (4, .int x4), (5, .int x5), (6, .int x6)] → va_P D classes (Wc ty h σ px) H → va_D A (Wc ty h σ px) → va_S A s.heap H locs → W p l e (headSpec w_Te_append rm_Te_append).room s m args below meth c H locs 0 0 (MQ below (va_Qi (fun r (u : St) => (r, u) = v) (fun u t => va_P D classes (Wc ty h u px) t.heap) A) args s 0 0 A) (F0 m 28 ls []) := by
    intro H locs ls x3 x4 x5 x6 σ hv hk hl hP hD hS
    unfold f_Te_append_28 at hv
    unfold k_Te_append_28 at hk
    refine lv_aload_n hx hb d_Te_append_28 rfl (lv_at hl 0 rfl) ?_
    refine va_get (v := .ref (h 7)) (C := R_Te) (T := T_Te) (N := 14) hx hb hg in_Te hown hK hP 6 rfl rfl 0 (by decide) (hg _ m_69) (fun _ h9 => h9) rfl d_Te_append_29 ?_
    refine lv_iload hx hb d_Te_append_32 (lv_at hl 4 rfl) ?_
    refine lv_iload_n hx hb d_Te_append_34 rfl (lv_at hl 1 rfl) ?_
    obtain ⟨hk0, hk⟩ := hk
    refine va_iast hx hb hK hP hD hS 7 0 rfl rfl hk0 d_Te_append_35 (fun H locs hP hD hS => ?_)
    have hP : va_P D classes (Wc ty h (sA σ 7 x6 x3) px) H := hP
    have hD : va_D A (Wc ty h (sA σ 7 x6 x3) px) := hD
    exact B36 _ _ _ x4 x5 x6 (sA σ 7 x6 x3) hv hk (lv_sub hl [0, 2, 3, 4] rfl) hP hD hS
  have B20 : ∀ (H : Heap) (locs : List Loc) (ls : Array Slot) (x1 : Int64) (x3 : Int32) (x4 : Int32) (x5 : Int32) (x6 : Int32) (σ : St), v = f_Te_append_20 x1 x3 x4 x5 x6 σ → k_Te_append_20 x1 x3 x4 x5 x6 σ → lv_has ls 7 [(0, .ref (h 6)), (1, .long x1), (3, .int x3), (4, .int x4), (5, .int x5), (6, .int x6)] → va_P D classes (Wc ty h σ px) H → va_D A (Wc ty h σ px) → va_S A s.heap H locs → W p l e (headSpec w_Te_append rm_Te_append).room s m args below meth c H locs 0 0 (MQ below (va_Qi (fun r (u : St) => (r, u) = v) (fun u t => va_P D classes (Wc ty h u px) t.heap) A) args s 0 0 A) (F0 m 20 ls []) := by
    intro H locs ls x1 x3 x4 x5 x6 σ hv hk hl hP hD hS
    unfold f_Te_append_20 at hv
    unfold k_Te_append_20 at hk
    refine lv_aload_n hx hb d_Te_append_20 rfl (lv_at hl 0 rfl) ?_
    refine va_get (v := .ref (h 17)) (C := R_Te) (T := T_Te) (N := 14) hx hb hg in_Te hown hK hP 6 rfl rfl 10 (by decide) (hg _ m_79) (fun _ h9 => h9) rfl d_Te_append_21 ?_
    refine lv_iload hx hb d_Te_append_24 (lv_at hl 5 rfl) ?_
    refine lv_lload_n hx hb d_Te_append_26 rfl (lv_at hl 1 rfl) ?_
    obtain ⟨hk0, hk⟩ := hk
    refine va_last hx hb hK hP hD hS 17 1 rfl rfl hk0 d_Te_append_27 (fun H locs hP hD hS => ?_)
    have hP : va_P D classes (Wc ty h (sL σ 17 x6 x1) px) H := hP
    have hD : va_D A (Wc ty h (sL σ 17 x6 x1) px) := hD
    exact B28 _ _ _ x3 x4 x5 x6 (sL σ 17 x6 x1) hv hk (lv_sub hl [0, 2, 3, 4, 5] rfl) hP hD hS
  have B12 : ∀ (H : Heap) (locs : List Loc) (ls : Array Slot) (x1 : Int64) (x3 : Int32) (x4 : Int32) (x5 : Int32) (x6 : Int32) (σ : St), v = f_Te_append_12 x1 x3 x4 x5 x6 σ → k_Te_append_12 x1 x3 x4 x5 x6 σ → lv_has ls 7 [(0, .ref (h 6)), (1, .long x1), (3, .int x3), (4, .int x4), (5, .int x5), (6, .int x6)] → va_P D classes (Wc ty h σ px) H → va_D A (Wc ty h σ px) → va_S A s.heap H locs → W p l e (headSpec w_Te_append rm_Te_append).room s m args below meth c H locs 0 0 (MQ below (va_Qi (fun r (u : St) => (r, u) = v) (fun u t => va_P D classes (Wc ty h u px) t.heap) A) args s 0 0 A) (F0 m 12 ls []) := by
    intro H locs ls x1 x3 x4 x5 x6 σ hv hk hl hP hD hS
    unfold f_Te_append_12 at hv
    unfold k_Te_append_12 at hk
    refine lv_aload_n hx hb d_Te_append_12 rfl (lv_at hl 0 rfl) ?_
    refine lv_iload hx hb d_Te_append_13 (lv_at hl 5 rfl) ?_
    refine lv_iconst (v := 1) hx hb d_Te_append_15 (by decide) ?_
    refine lv_iadd hx hb d_Te_append_16 ?_
    refine va_put (v := .int (x6 + 1)) (ty := .int) (C := R_Te) (T := T_Te) (N := 14) hx hb hg in_Te ty_Te ok_Te nm_Te hown hK hP hD hS 6 rfl rfl 11 (by decide) (hg _ m_80) (fun _ h9 => h9) rfl (by decide +kernel) rfl rfl (Nat.le_of_ble_eq_true rfl) d_Te_append_17 (fun H locs hP hD hS => ?_)
    have hP : va_P D classes (Wc ty h (sF σ 6 11 (x6 + 1)) px) H := hP
    have hD : va_D A (Wc ty h (sF σ 6 11 (x6 + 1)) px) := hD
    exact B20 _ _ _ x1 x3 x4 x5 x6 (sF σ 6 11 (x6 + 1)) hv hk (lv_sub hl [0, 1, 2, 3, 4, 5] rfl) hP hD hS
  unfold f_Te_append at hv
  unfold k_Te_append at hk
  refine lv_aload_n hx hb d_Te_append_0 rfl (lv_at hl 0 rfl) ?_
  refine va_get (v := .int (σ.1 6 11)) (C := R_Te) (T := T_Te) (N := 14) hx hb hg in_Te hown hK hP 6 rfl rfl 11 (by decide) (hg _ m_80) (fun _ h9 => h9) rfl d_Te_append_1 ?_
  refine lv_sipush (v := 207) hx hb d_Te_append_4 (by decide) ?_
  refine va_mmin hx hb (hml.trans hl.1.symm) hown (hg _ m_639) (hg _ m_640) (hg _ m_14) (hg _ m_641) (Nat.le_of_ble_eq_true rfl) (Nat.le_of_ble_eq_true rfl) (Nat.le_of_ble_eq_true rfl) (Nat.le_of_ble_eq_true rfl) d_Te_append_7 ?_
  refine lv_istore (lv' := [(6, .int (if 207 < (σ.1 6 11) then 207 else (σ.1 6 11))), (0, .ref (h 6)), (1, .long a1), (3, .int a3), (4, .int a4), (5, .int a5)]) hx hb d_Te_append_10 hl (by decide) rfl (fun ls hl => ?_)
  exact B12 _ _ _ a1 a3 a4 a5 (if 207 < (σ.1 6 11) then 207 else (σ.1 6 11)) σ hv hk (lv_sub hl [1, 2, 3, 4, 5, 0] rfl) hP hD hS

-- ClauseLedger$Terms.depthOf(I)I
abbrev b_Te_depthOf : ByteArray := prog_11_method_12_code
def y_Te_depthOf : MethodName := ⟨"ClauseLedger$Terms", "depthOf", "(I)I"⟩
theorem hd_Te_depthOf : y_Te_depthOf.cls ≠ "java/lang/invoke/MethodHandle" ∧ y_Te_depthOf.cls ≠ "java/lang/invoke/VarHandle" ∧ (parseMethodDescriptor y_Te_depthOf.desc).map (fun d => d.parameters.length) = some 1 := by decide +kernel
theorem d_Te_depthOf_0 : decode b_Te_depthOf 0 = .ok (.aload_n 0, 1) := by decide +kernel
theorem d_Te_depthOf_1 : decode b_Te_depthOf 1 = .ok (.iload_n 1, 1) := by decide +kernel
theorem d_Te_depthOf_2 : decode b_Te_depthOf 2 = .ok (.invokevirtual 57, 3) := by decide +kernel
theorem d_Te_depthOf_5 : decode b_Te_depthOf 5 = .ok (.ifCond .eq 12, 3) := by decide +kernel
theorem d_Te_depthOf_8 : decode b_Te_depthOf 8 = .ok (.aload_n 0, 1) := by decide +kernel
theorem d_Te_depthOf_9 : decode b_Te_depthOf 9 = .ok (.getfield 33, 3) := by decide +kernel
theorem d_Te_depthOf_12 : decode b_Te_depthOf 12 = .ok (.iload_n 1, 1) := by decide +kernel
theorem d_Te_depthOf_13 : decode b_Te_depthOf 13 = .ok (.iaload, 1) := by decide +kernel
theorem d_Te_depthOf_14 : decode b_Te_depthOf 14 = .ok (.goto 4, 3) := by decide +kernel
theorem d_Te_depthOf_17 : decode b_Te_depthOf 17 = .ok (.iconst 0, 1) := by decide +kernel
theorem d_Te_depthOf_18 : decode b_Te_depthOf 18 = .ok (.ireturn, 1) := by decide +kernel
def f_Te_depthOf_18 (s0 : Int32) (σ : St) : Int32 := s0
def k_Te_depthOf_18 (s0 : Int32) (σ : St) : Prop := True
def f_Te_depthOf (a1 : Int32) (σ : St) : Int32 := if (f_Te_has a1 σ) = 0 then (f_Te_depthOf_18 0 σ) else (f_Te_depthOf_18 (σ.1 14 a1.toNatClampNeg) σ)
def k_Te_depthOf (a1 : Int32) (σ : St) : Prop := (k_Te_has a1 σ) ∧ (((f_Te_has a1 σ) = 0 → (k_Te_depthOf_18 0 σ)) ∧ (¬ (f_Te_has a1 σ) = 0 → (vp_in a1 208 ∧ (k_Te_depthOf_18 (σ.1 14 a1.toNatClampNeg) σ))))
abbrev w_Te_depthOf : List Cond := Cond.code y_Te_depthOf b_Te_depthOf 2 (some .int) :: gw
abbrev rm_Te_depthOf : Room := { frames := 1, cells := 0, slots := 0, locals := 21 }
set_option maxHeartbeats 4000000 in
set_option maxRecDepth 100000 in
theorem c_Te_depthOf (l : Launch) (D : va_G) (ty : Nat → ClassId) (h : Nat → Nat) (px : va_W) (σ : St) (a1 : Int32) (hk : k_Te_depthOf a1 σ) : Met l y_Te_depthOf w_Te_depthOf rm_Te_depthOf (va_Pc [.ref (h 6), .int a1] (fun U => va_P D classes (Wc ty h σ px) U.heap ∧ va_K D classes (Ta ty) U ∧ NW U)) (k2_QcV (.int (f_Te_depthOf a1 σ))) 0 0 (fun _ => False) := by
  refine Met.ofW (cc := b_Te_depthOf) (maxL := 2) (ret := (some .int)) (by decide) rfl ?_
  intro p e s m args below meth c s₁ B hml hv
  obtain ⟨ha, hP, hK, hN⟩ := hv
  have hx := B.exec
  have hb := B.bytes
  have hr := B.returns
  have hg : ∀ w ∈ gw, w.before args s = true := fun w h9 => atoms_spec (ws := w_Te_depthOf) B.pre w (List.mem_cons_of_mem _ h9)
  have hown : s.vm.findClass "ClauseLedger$Terms" = some m.cls := findClass_of_methodNamed B.named
  have hlocks := B.notSynchronized
  have he : entryFrame m args 2 = entryFrame m ([.ref (h 6), .int a1] : List Value).toArray 2 := by rw [ha]
  rw [he, lg_entry_eq]
  have hl := lv_entry ([.ref (h 6), .int a1]) (n := 2) (Nat.le_of_ble_eq_true rfl)
  generalize (lg_sl ([.ref (h 6), .int a1]) ++ List.replicate (2 - (lg_sl ([.ref (h 6), .int a1])).length) Slot.unset).toArray = ls at hl ⊢
  have hl : lv_has ls 2 [(0, .ref (h 6)), (1, .int a1)] := hl
  generalize hv : f_Te_depthOf a1 σ = v
  replace hv := hv.symm
  have B18 : ∀ (ls : Array Slot) (s0 : Int32), v = f_Te_depthOf_18 s0 σ → k_Te_depthOf_18 s0 σ → lv_has ls 2 [] → W p l e (headSpec w_Te_depthOf rm_Te_depthOf).room s m args below meth c s.heap [] 0 0 (MQ below (k2_QcV (.int v)) args s 0 0 (fun _ => False)) (F0 m 18 ls [.int s0]) := by
    intro ls s0 hv hk hl
    unfold f_Te_depthOf_18 at hv
    unfold k_Te_depthOf_18 at hk
    exact W.iret hx hb hr (fun t ht hW => ⟨by rw [hv], ht⟩) (fun q h => nomatch h) d_Te_depthOf_18
  unfold f_Te_depthOf at hv
  unfold k_Te_depthOf at hk
  refine lv_aload_n hx hb d_Te_depthOf_0 rfl (lv_at hl 0 rfl) ?_
  refine lv_iload_n hx hb d_Te_depthOf_1 rfl (lv_at hl 1 rfl) ?_
  obtain ⟨hk0, hk⟩ := hk
  refine zz_callV (va_runV (As := [.int a1]) (rest := []) ⟨hx, hb, hml, hown, hg⟩ (c_Te_has l D ty h px σ a1 hk0) ⟨callB_of 1 hg (gw_C m_430) rfl rfl rfl (hg _ m_3) (hg _ m_435) hd_Te_has ⟨Nat.le_of_ble_eq_true rfl, Nat.le_of_ble_eq_true rfl⟩, hg _ m_428, hg _ m_429⟩ (zz_preV hN hK hP 6 rfl rfl) rfl rfl hl.1 rfl (lv_room (Nat.le_of_ble_eq_true rfl)) d_Te_depthOf_2 ⟨Nat.le_of_ble_eq_true rfl, Nat.le_of_ble_eq_true rfl⟩) ?_
  refine lv_if_eq (tgt := 17) hx hb d_Te_depthOf_5 (by decide) (fun hc => ?_) (fun hc => ?_)
  · have hv := hv.trans (if_pos hc)
    have hk := hk.1 hc
    refine lv_iconst (v := 0) hx hb d_Te_depthOf_17 (by decide) ?_
    exact B18 _ 0 hv hk (lv_sub hl [] rfl)
  · have hv := hv.trans (if_neg hc)
    have hk := hk.2 hc
    refine lv_aload_n hx hb d_Te_depthOf_8 rfl (lv_at hl 0 rfl) ?_
    refine va_get (v := .ref (h 14)) (C := R_Te) (T := T_Te) (N := 14) hx hb hg in_Te hown hK hP 6 rfl rfl 7 (by decide) (hg _ m_76) (fun _ h9 => h9) rfl d_Te_depthOf_9 ?_
    refine lv_iload_n hx hb d_Te_depthOf_12 rfl (lv_at hl 1 rfl) ?_
    obtain ⟨hk0, hk⟩ := hk
    refine va_iald hx hb hK hP 14 0 rfl rfl hk0 d_Te_depthOf_13 ?_
    refine lv_goto (tgt := 18) hx hb d_Te_depthOf_14 (by decide) ?_
    exact B18 _ (σ.1 14 a1.toNatClampNeg) hv hk (lv_sub hl [] rfl)

-- ClauseLedger$Terms.lengthOf(I)I
abbrev b_Te_lengthOf : ByteArray := prog_11_method_13_code
def y_Te_lengthOf : MethodName := ⟨"ClauseLedger$Terms", "lengthOf", "(I)I"⟩
theorem hd_Te_lengthOf : y_Te_lengthOf.cls ≠ "java/lang/invoke/MethodHandle" ∧ y_Te_lengthOf.cls ≠ "java/lang/invoke/VarHandle" ∧ (parseMethodDescriptor y_Te_lengthOf.desc).map (fun d => d.parameters.length) = some 1 := by decide +kernel
theorem d_Te_lengthOf_0 : decode b_Te_lengthOf 0 = .ok (.aload_n 0, 1) := by decide +kernel
theorem d_Te_lengthOf_1 : decode b_Te_lengthOf 1 = .ok (.iload_n 1, 1) := by decide +kernel
theorem d_Te_lengthOf_2 : decode b_Te_lengthOf 2 = .ok (.invokevirtual 57, 3) := by decide +kernel
theorem d_Te_lengthOf_5 : decode b_Te_lengthOf 5 = .ok (.ifCond .eq 12, 3) := by decide +kernel
theorem d_Te_lengthOf_8 : decode b_Te_lengthOf 8 = .ok (.aload_n 0, 1) := by decide +kernel
theorem d_Te_lengthOf_9 : decode b_Te_lengthOf 9 = .ok (.getfield 36, 3) := by decide +kernel
theorem d_Te_lengthOf_12 : decode b_Te_lengthOf 12 = .ok (.iload_n 1, 1) := by decide +kernel
theorem d_Te_lengthOf_13 : decode b_Te_lengthOf 13 = .ok (.iaload, 1) := by decide +kernel
theorem d_Te_lengthOf_14 : decode b_Te_lengthOf 14 = .ok (.goto 4, 3) := by decide +kernel
theorem d_Te_lengthOf_17 : decode b_Te_lengthOf 17 = .ok (.iconst 0, 1) := by decide +kernel
theorem d_Te_lengthOf_18 : decode b_Te_lengthOf 18 = .ok (.ireturn, 1) := by decide +kernel
def f_Te_lengthOf_18 (s0 : Int32) (σ : St) : Int32 := s0
def k_Te_lengthOf_18 (s0 : Int32) (σ : St) : Prop := True
def f_Te_lengthOf (a1 : Int32) (σ : St) : Int32 := if (f_Te_has a1 σ) = 0 then (f_Te_lengthOf_18 0 σ) else (f_Te_lengthOf_18 (σ.1 15 a1.toNatClampNeg) σ)
def k_Te_lengthOf (a1 : Int32) (σ : St) : Prop := (k_Te_has a1 σ) ∧ (((f_Te_has a1 σ) = 0 → (k_Te_lengthOf_18 0 σ)) ∧ (¬ (f_Te_has a1 σ) = 0 → (vp_in a1 208 ∧ (k_Te_lengthOf_18 (σ.1 15 a1.toNatClampNeg) σ))))
abbrev w_Te_lengthOf : List Cond := Cond.code y_Te_lengthOf b_Te_lengthOf 2 (some .int) :: gw
abbrev rm_Te_lengthOf : Room := { frames := 1, cells := 0, slots := 0, locals := 21 }
set_option maxHeartbeats 4000000 in
set_option maxRecDepth 100000 in
theorem c_Te_lengthOf (l : Launch) (D : va_G) (ty : Nat → ClassId) (h : Nat → Nat) (px : va_W) (σ : St) (a1 : Int32) (hk : k_Te_lengthOf a1 σ) : Met l y_Te_lengthOf w_Te_lengthOf rm_Te_lengthOf (va_Pc [.ref (h 6), .int a1] (fun U => va_P D classes (Wc ty h σ px) U.heap ∧ va_K D classes (Ta ty) U ∧ NW U)) (k2_QcV (.int (f_Te_lengthOf a1 σ))) 0 0 (fun _ => False) := by
  refine Met.ofW (cc := b_Te_lengthOf) (maxL := 2) (ret := (some .int)) (by decide) rfl ?_
  intro p e s m args below meth c s₁ B hml hv
  obtain ⟨ha, hP, hK, hN⟩ := hv
  have hx := B.exec
  have hb := B.bytes
  have hr := B.returns
  have hg : ∀ w ∈ gw, w.before args s = true := fun w h9 => atoms_spec (ws := w_Te_lengthOf) B.pre w (List.mem_cons_of_mem _ h9)
  have hown : s.vm.findClass "ClauseLedger$Terms" = some m.cls := findClass_of_methodNamed B.named
  have hlocks := B.notSynchronized
  have he : entryFrame m args 2 = entryFrame m ([.ref (h 6), .int a1] : List Value).toArray 2 := by rw [ha]
  rw [he, lg_entry_eq]
  have hl := lv_entry ([.ref (h 6), .int a1]) (n := 2) (Nat.le_of_ble_eq_true rfl)
  generalize (lg_sl ([.ref (h 6), .int a1]) ++ List.replicate (2 - (lg_sl ([.ref (h 6), .int a1])).length) Slot.unset).toArray = ls at hl ⊢
  have hl : lv_has ls 2 [(0, .ref (h 6)), (1, .int a1)] := hl
  generalize hv : f_Te_lengthOf a1 σ = v
  replace hv := hv.symm
  have B18 : ∀ (ls : Array Slot) (s0 : Int32), v = f_Te_lengthOf_18 s0 σ → k_Te_lengthOf_18 s0 σ → lv_has ls 2 [] → W p l e (headSpec w_Te_lengthOf rm_Te_lengthOf).room s m args below meth c s.heap [] 0 0 (MQ below (k2_QcV (.int v)) args s 0 0 (fun _ => False)) (F0 m 18 ls [.int s0]) := by
    intro ls s0 hv hk hl
    unfold f_Te_lengthOf_18 at hv
    unfold k_Te_lengthOf_18 at hk
    exact W.iret hx hb hr (fun t ht hW => ⟨by rw [hv], ht⟩) (fun q h => nomatch h) d_Te_lengthOf_18
  unfold f_Te_lengthOf at hv
  unfold k_Te_lengthOf at hk
  refine lv_aload_n hx hb d_Te_lengthOf_0 rfl (lv_at hl 0 rfl) ?_
  refine lv_iload_n hx hb d_Te_lengthOf_1 rfl (lv_at hl 1 rfl) ?_
  obtain ⟨hk0, hk⟩ := hk
  refine zz_callV (va_runV (As := [.int a1]) (rest := []) ⟨hx, hb, hml, hown, hg⟩ (c_Te_has l D ty h px σ a1 hk0) ⟨callB_of 1 hg (gw_C m_430) rfl rfl rfl (hg _ m_3) (hg _ m_435) hd_Te_has ⟨Nat.le_of_ble_eq_true rfl, Nat.le_of_ble_eq_true rfl⟩, hg _ m_428, hg _ m_429⟩ (zz_preV hN hK hP 6 rfl rfl) rfl rfl hl.1 rfl (lv_room (Nat.le_of_ble_eq_true rfl)) d_Te_lengthOf_2 ⟨Nat.le_of_ble_eq_true rfl, Nat.le_of_ble_eq_true rfl⟩) ?_
  refine lv_if_eq (tgt := 17) hx hb d_Te_lengthOf_5 (by decide) (fun hc => ?_) (fun hc => ?_)
  · have hv := hv.trans (if_pos hc)
    have hk := hk.1 hc
    refine lv_iconst (v := 0) hx hb d_Te_lengthOf_17 (by decide) ?_
    exact B18 _ 0 hv hk (lv_sub hl [] rfl)
  · have hv := hv.trans (if_neg hc)
    have hk := hk.2 hc
    refine lv_aload_n hx hb d_Te_lengthOf_8 rfl (lv_at hl 0 rfl) ?_
    refine va_get (v := .ref (h 15)) (C := R_Te) (T := T_Te) (N := 14) hx hb hg in_Te hown hK hP 6 rfl rfl 8 (by decide) (hg _ m_77) (fun _ h9 => h9) rfl d_Te_lengthOf_9 ?_
    refine lv_iload_n hx hb d_Te_lengthOf_12 rfl (lv_at hl 1 rfl) ?_
    obtain ⟨hk0, hk⟩ := hk
    refine va_iald hx hb hK hP 15 0 rfl rfl hk0 d_Te_lengthOf_13 ?_
    refine lv_goto (tgt := 18) hx hb d_Te_lengthOf_14 (by decide) ?_
    exact B18 _ (σ.1 15 a1.toNatClampNeg) hv hk (lv_sub hl [] rfl)

-- ClauseLedger$Writer.headLength(I)I
abbrev b_Wr_headLength : ByteArray := prog_12_method_5_code
def y_Wr_headLength : MethodName := ⟨"ClauseLedger$Writer", "headLength", "(I)I"⟩
theorem hd_Wr_headLength : y_Wr_headLength.cls ≠ "java/lang/invoke/MethodHandle" ∧ y_Wr_headLength.cls ≠ "java/lang/invoke/VarHandle" ∧ (parseMethodDescriptor y_Wr_headLength.desc).map (fun d => d.parameters.length) = some 1 := by decide +kernel
theorem d_Wr_headLength_0 : decode b_Wr_headLength 0 = .ok (.iload_n 0, 1) := by decide +kernel
theorem d_Wr_headLength_1 : decode b_Wr_headLength 1 = .ok (.bipush 10, 2) := by decide +kernel
theorem d_Wr_headLength_3 : decode b_Wr_headLength 3 = .ok (.if_icmp .ne 7, 3) := by decide +kernel
theorem d_Wr_headLength_6 : decode b_Wr_headLength 6 = .ok (.iconst 5, 1) := by decide +kernel
theorem d_Wr_headLength_7 : decode b_Wr_headLength 7 = .ok (.goto 4, 3) := by decide +kernel
theorem d_Wr_headLength_10 : decode b_Wr_headLength 10 = .ok (.iconst 3, 1) := by decide +kernel
theorem d_Wr_headLength_11 : decode b_Wr_headLength 11 = .ok (.ireturn, 1) := by decide +kernel
def f_Wr_headLength_11 (s0 : Int32) (σ : St) : Int32 := s0
def k_Wr_headLength_11 (s0 : Int32) (σ : St) : Prop := True
def f_Wr_headLength (a0 : Int32) (σ : St) : Int32 := if a0 = 10 then (f_Wr_headLength_11 5 σ) else (f_Wr_headLength_11 3 σ)
def k_Wr_headLength (a0 : Int32) (σ : St) : Prop := (a0 = 10 → (k_Wr_headLength_11 5 σ)) ∧ (¬ a0 = 10 → (k_Wr_headLength_11 3 σ))
abbrev w_Wr_headLength : List Cond := Cond.code y_Wr_headLength b_Wr_headLength 1 (some .int) :: gw
abbrev rm_Wr_headLength : Room := { frames := 0, cells := 0, slots := 0, locals := 0 }
set_option maxHeartbeats 4000000 in
set_option maxRecDepth 100000 in
theorem c_Wr_headLength (l : Launch) (D : va_G) (ty : Nat → ClassId) (h : Nat → Nat) (px : va_W) (σ : St) (a0 : Int32) (hk : k_Wr_headLength a0 σ) : Met l y_Wr_headLength w_Wr_headLength rm_Wr_headLength (va_Pc [.int a0] (fun U => va_P D classes (Wc ty h σ px) U.heap ∧ va_K D classes (Ta ty) U ∧ NW U)) (k2_QcV (.int (f_Wr_headLength a0 σ))) 0 0 (fun _ => False) := by
  refine Met.ofW (cc := b_Wr_headLength) (maxL := 1) (ret := (some .int)) (by decide) rfl ?_
  intro p e s m args below meth c s₁ B hml hv
  obtain ⟨ha, hP, hK, hN⟩ := hv
  have hx := B.exec
  have hb := B.bytes
  have hr := B.returns
  have hg : ∀ w ∈ gw, w.before args s = true := fun w h9 => atoms_spec (ws := w_Wr_headLength) B.pre w (List.mem_cons_of_mem _ h9)
  have hown : s.vm.findClass "ClauseLedger$Writer" = some m.cls := findClass_of_methodNamed B.named
  have hlocks := B.notSynchronized
  have he : entryFrame m args 1 = entryFrame m ([.int a0] : List Value).toArray 1 := by rw [ha]
  rw [he, lg_entry_eq]
  have hl := lv_entry ([.int a0]) (n := 1) (Nat.le_of_ble_eq_true rfl)
  generalize (lg_sl ([.int a0]) ++ List.replicate (1 - (lg_sl ([.int a0])).length) Slot.unset).toArray = ls at hl ⊢
  have hl : lv_has ls 1 [(0, .int a0)] := hl
  generalize hv : f_Wr_headLength a0 σ = v
  replace hv := hv.symm
  have B11 : ∀ (ls : Array Slot) (s0 : Int32), v = f_Wr_headLength_11 s0 σ → k_Wr_headLength_11 s0 σ → lv_has ls 1 [] → W p l e (headSpec w_Wr_headLength rm_Wr_headLength).room s m args below meth c s.heap [] 0 0 (MQ below (k2_QcV (.int v)) args s 0 0 (fun _ => False)) (F0 m 11 ls [.int s0]) := by
    intro ls s0 hv hk hl
    unfold f_Wr_headLength_11 at hv
    unfold k_Wr_headLength_11 at hk
    exact W.iret hx hb hr (fun t ht hW => ⟨by rw [hv], ht⟩) (fun q h => nomatch h) d_Wr_headLength_11
  unfold f_Wr_headLength at hv
  unfold k_Wr_headLength at hk
  refine lv_iload_n hx hb d_Wr_headLength_0 rfl (lv_at hl 0 rfl) ?_
  refine lv_bipush (v := 10) hx hb d_Wr_headLength_1 (by decide) ?_
  refine lv_icmp_ne (tgt := 10) hx hb d_Wr_headLength_3 (by decide) (fun hc => ?_) (fun hc => ?_)
  · have hv := hv.trans (if_neg hc)
    have hk := hk.2 hc
    refine lv_iconst (v := 3) hx hb d_Wr_headLength_10 (by decide) ?_
    exact B11 _ 3 hv hk (lv_sub hl [] rfl)
  · have hv := hv.trans (if_pos hc)
    have hk := hk.1 hc
    refine lv_iconst (v := 5) hx hb d_Wr_headLength_6 (by decide) ?_
    refine lv_goto (tgt := 11) hx hb d_Wr_headLength_7 (by decide) ?_
    exact B11 _ 5 hv hk (lv_sub hl [] rfl)

-- ClauseLedger$Writer.length(IZI)I
abbrev b_Wr_length : ByteArray := prog_12_method_2_code
def y_Wr_length : MethodName := ⟨"ClauseLedger$Writer", "length", "(IZI)I"⟩
theorem hd_Wr_length : y_Wr_length.cls ≠ "java/lang/invoke/MethodHandle" ∧ y_Wr_length.cls ≠ "java/lang/invoke/VarHandle" ∧ (parseMethodDescriptor y_Wr_length.desc).map (fun d => d.parameters.length) = some 3 := by decide +kernel
theorem d_Wr_length_0 : decode b_Wr_length 0 = .ok (.iload_n 1, 1) := by decide +kernel
theorem d_Wr_length_1 : decode b_Wr_length 1 = .ok (.ifCond .eq 14, 3) := by decide +kernel
theorem d_Wr_length_4 : decode b_Wr_length 4 = .ok (.iload_n 0, 1) := by decide +kernel
theorem d_Wr_length_5 : decode b_Wr_length 5 = .ok (.invokestatic 15, 3) := by decide +kernel
theorem d_Wr_length_8 : decode b_Wr_length 8 = .ok (.iload_n 2, 1) := by decide +kernel
theorem d_Wr_length_9 : decode b_Wr_length 9 = .ok (.iadd, 1) := by decide +kernel
theorem d_Wr_length_10 : decode b_Wr_length 10 = .ok (.iconst 1, 1) := by decide +kernel
theorem d_Wr_length_11 : decode b_Wr_length 11 = .ok (.iadd, 1) := by decide +kernel
theorem d_Wr_length_12 : decode b_Wr_length 12 = .ok (.goto 4, 3) := by decide +kernel
theorem d_Wr_length_15 : decode b_Wr_length 15 = .ok (.iconst 1, 1) := by decide +kernel
theorem d_Wr_length_16 : decode b_Wr_length 16 = .ok (.ireturn, 1) := by decide +kernel
def f_Wr_length_16 (s0 : Int32) (σ : St) : Int32 := s0
def k_Wr_length_16 (s0 : Int32) (σ : St) : Prop := True
def f_Wr_length (a0 : Int32) (a1 : Int32) (a2 : Int32) (σ : St) : Int32 := if a1 = 0 then (f_Wr_length_16 1 σ) else (f_Wr_length_16 (((f_Wr_headLength a0 σ) + a2) + 1) σ)
def k_Wr_length (a0 : Int32) (a1 : Int32) (a2 : Int32) (σ : St) : Prop := (a1 = 0 → (k_Wr_length_16 1 σ)) ∧ (¬ a1 = 0 → ((k_Wr_headLength a0 σ) ∧ (k_Wr_length_16 (((f_Wr_headLength a0 σ) + a2) + 1) σ)))
abbrev w_Wr_length : List Cond := Cond.code y_Wr_length b_Wr_length 3 (some .int) :: gw
abbrev rm_Wr_length : Room := { frames := 1, cells := 0, slots := 0, locals := 20 }
set_option maxHeartbeats 4000000 in
set_option maxRecDepth 100000 in
theorem c_Wr_length (l : Launch) (D : va_G) (ty : Nat → ClassId) (h : Nat → Nat) (px : va_W) (σ : St) (a0 : Int32) (a1 : Int32) (a2 : Int32) (hk : k_Wr_length a0 a1 a2 σ) : Met l y_Wr_length w_Wr_length rm_Wr_length (va_Pc [.int a0, .int a1, .int a2] (fun U => va_P D classes (Wc ty h σ px) U.heap ∧ va_K D classes (Ta ty) U ∧ NW U)) (k2_QcV (.int (f_Wr_length a0 a1 a2 σ))) 0 0 (fun _ => False) := by
  refine Met.ofW (cc := b_Wr_length) (maxL := 3) (ret := (some .int)) (by decide) rfl ?_
  intro p e s m args below meth c s₁ B hml hv
  obtain ⟨ha, hP, hK, hN⟩ := hv
  have hx := B.exec
  have hb := B.bytes
  have hr := B.returns
  have hg : ∀ w ∈ gw, w.before args s = true := fun w h9 => atoms_spec (ws := w_Wr_length) B.pre w (List.mem_cons_of_mem _ h9)
  have hown : s.vm.findClass "ClauseLedger$Writer" = some m.cls := findClass_of_methodNamed B.named
  have hlocks := B.notSynchronized
  have he : entryFrame m args 3 = entryFrame m ([.int a0, .int a1, .int a2] : List Value).toArray 3 := by rw [ha]
  rw [he, lg_entry_eq]
  have hl := lv_entry ([.int a0, .int a1, .int a2]) (n := 3) (Nat.le_of_ble_eq_true rfl)
  generalize (lg_sl ([.int a0, .int a1, .int a2]) ++ List.replicate (3 - (lg_sl ([.int a0, .int a1, .int a2])).length) Slot.unset).toArray = ls at hl ⊢
  have hl : lv_has ls 3 [(0, .int a0), (1, .int a1), (2, .int a2)] := hl
  generalize hv : f_Wr_length a0 a1 a2 σ = v
  replace hv := hv.symm
  have B16 : ∀ (ls : Array Slot) (s0 : Int32), v = f_Wr_length_16 s0 σ → k_Wr_length_16 s0 σ → lv_has ls 3 [] → W p l e (headSpec w_Wr_length rm_Wr_length).room s m args below meth c s.heap [] 0 0 (MQ below (k2_QcV (.int v)) args s 0 0 (fun _ => False)) (F0 m 16 ls [.int s0]) := by
    intro ls s0 hv hk hl
    unfold f_Wr_length_16 at hv
    unfold k_Wr_length_16 at hk
    exact W.iret hx hb hr (fun t ht hW => ⟨by rw [hv], ht⟩) (fun q h => nomatch h) d_Wr_length_16
  unfold f_Wr_length at hv
  unfold k_Wr_length at hk
  refine lv_iload_n hx hb d_Wr_length_0 rfl (lv_at hl 1 rfl) ?_
  refine lv_if_eq (tgt := 15) hx hb d_Wr_length_1 (by decide) (fun hc => ?_) (fun hc => ?_)
  · have hv := hv.trans (if_pos hc)
    have hk := hk.1 hc
    refine lv_iconst (v := 1) hx hb d_Wr_length_15 (by decide) ?_
    exact B16 _ 1 hv hk (lv_sub hl [] rfl)
  · have hv := hv.trans (if_neg hc)
    have hk := hk.2 hc
    refine lv_iload_n hx hb d_Wr_length_4 rfl (lv_at hl 0 rfl) ?_
    obtain ⟨hk0, hk⟩ := hk
    refine zz_callV (va_runS (As := [.int a0]) (rest := []) ⟨hx, hb, hml, hown, hg⟩ (c_Wr_headLength l D ty h px σ a0 hk0) ⟨callB_of 1 hg (gw_C m_472) rfl rfl rfl (hg _ m_6) (hg _ m_470) hd_Wr_headLength ⟨Nat.le_of_ble_eq_true rfl, Nat.le_of_ble_eq_true rfl⟩, hg _ m_471⟩ (zz_preS hN hK hP) rfl rfl hl.1 rfl (lv_room (Nat.le_of_ble_eq_true rfl)) d_Wr_length_5 ⟨Nat.le_of_ble_eq_true rfl, Nat.le_of_ble_eq_true rfl⟩) ?_
    refine lv_iload_n hx hb d_Wr_length_8 rfl (lv_at hl 2 rfl) ?_
    refine lv_iadd hx hb d_Wr_length_9 ?_
    refine lv_iconst (v := 1) hx hb d_Wr_length_10 (by decide) ?_
    refine lv_iadd hx hb d_Wr_length_11 ?_
    refine lv_goto (tgt := 16) hx hb d_Wr_length_12 (by decide) ?_
    exact B16 _ (((f_Wr_headLength a0 σ) + a2) + 1) hv hk (lv_sub hl [] rfl)

-- ClauseLedger$Terms.freeOf(I)I
abbrev b_Te_freeOf : ByteArray := prog_11_method_24_code
def y_Te_freeOf : MethodName := ⟨"ClauseLedger$Terms", "freeOf", "(I)I"⟩
theorem hd_Te_freeOf : y_Te_freeOf.cls ≠ "java/lang/invoke/MethodHandle" ∧ y_Te_freeOf.cls ≠ "java/lang/invoke/VarHandle" ∧ (parseMethodDescriptor y_Te_freeOf.desc).map (fun d => d.parameters.length) = some 1 := by decide +kernel
theorem d_Te_freeOf_0 : decode b_Te_freeOf 0 = .ok (.aload_n 0, 1) := by decide +kernel
theorem d_Te_freeOf_1 : decode b_Te_freeOf 1 = .ok (.iload_n 1, 1) := by decide +kernel
theorem d_Te_freeOf_2 : decode b_Te_freeOf 2 = .ok (.invokevirtual 57, 3) := by decide +kernel
theorem d_Te_freeOf_5 : decode b_Te_freeOf 5 = .ok (.ifCond .eq 12, 3) := by decide +kernel
theorem d_Te_freeOf_8 : decode b_Te_freeOf 8 = .ok (.aload_n 0, 1) := by decide +kernel
theorem d_Te_freeOf_9 : decode b_Te_freeOf 9 = .ok (.getfield 39, 3) := by decide +kernel
theorem d_Te_freeOf_12 : decode b_Te_freeOf 12 = .ok (.iload_n 1, 1) := by decide +kernel
theorem d_Te_freeOf_13 : decode b_Te_freeOf 13 = .ok (.iaload, 1) := by decide +kernel
theorem d_Te_freeOf_14 : decode b_Te_freeOf 14 = .ok (.goto 4, 3) := by decide +kernel
theorem d_Te_freeOf_17 : decode b_Te_freeOf 17 = .ok (.iconst 0, 1) := by decide +kernel
theorem d_Te_freeOf_18 : decode b_Te_freeOf 18 = .ok (.ireturn, 1) := by decide +kernel
def f_Te_freeOf_18 (s0 : Int32) (σ : St) : Int32 := s0
def k_Te_freeOf_18 (s0 : Int32) (σ : St) : Prop := True
def f_Te_freeOf (a1 : Int32) (σ : St) : Int32 := if (f_Te_has a1 σ) = 0 then (f_Te_freeOf_18 0 σ) else (f_Te_freeOf_18 (σ.1 16 a1.toNatClampNeg) σ)
def k_Te_freeOf (a1 : Int32) (σ : St) : Prop := (k_Te_has a1 σ) ∧ (((f_Te_has a1 σ) = 0 → (k_Te_freeOf_18 0 σ)) ∧ (¬ (f_Te_has a1 σ) = 0 → (vp_in a1 208 ∧ (k_Te_freeOf_18 (σ.1 16 a1.toNatClampNeg) σ))))
abbrev w_Te_freeOf : List Cond := Cond.code y_Te_freeOf b_Te_freeOf 2 (some .int) :: gw
abbrev rm_Te_freeOf : Room := { frames := 1, cells := 0, slots := 0, locals := 21 }
set_option maxHeartbeats 4000000 in
set_option maxRecDepth 100000 in
theorem c_Te_freeOf (l : Launch) (D : va_G) (ty : Nat → ClassId) (h : Nat → Nat) (px : va_W) (σ : St) (a1 : Int32) (hk : k_Te_freeOf a1 σ) : Met l y_Te_freeOf w_Te_freeOf rm_Te_freeOf (va_Pc [.ref (h 6), .int a1] (fun U => va_P D classes (Wc ty h σ px) U.heap ∧ va_K D classes (Ta ty) U ∧ NW U)) (k2_QcV (.int (f_Te_freeOf a1 σ))) 0 0 (fun _ => False) := by
  refine Met.ofW (cc := b_Te_freeOf) (maxL := 2) (ret := (some .int)) (by decide) rfl ?_
  intro p e s m args below meth c s₁ B hml hv
  obtain ⟨ha, hP, hK, hN⟩ := hv
  have hx := B.exec
  have hb := B.bytes
  have hr := B.returns
  have hg : ∀ w ∈ gw, w.before args s = true := fun w h9 => atoms_spec (ws := w_Te_freeOf) B.pre w (List.mem_cons_of_mem _ h9)
  have hown : s.vm.findClass "ClauseLedger$Terms" = some m.cls := findClass_of_methodNamed B.named
  have hlocks := B.notSynchronized
  have he : entryFrame m args 2 = entryFrame m ([.ref (h 6), .int a1] : List Value).toArray 2 := by rw [ha]
  rw [he, lg_entry_eq]
  have hl := lv_entry ([.ref (h 6), .int a1]) (n := 2) (Nat.le_of_ble_eq_true rfl)
  generalize (lg_sl ([.ref (h 6), .int a1]) ++ List.replicate (2 - (lg_sl ([.ref (h 6), .int a1])).length) Slot.unset).toArray = ls at hl ⊢
  have hl : lv_has ls 2 [(0, .ref (h 6)), (1, .int a1)] := hl
  generalize hv : f_Te_freeOf a1 σ = v
  replace hv := hv.symm
  have B18 : ∀ (ls : Array Slot) (s0 : Int32), v = f_Te_freeOf_18 s0 σ → k_Te_freeOf_18 s0 σ → lv_has ls 2 [] → W p l e (headSpec w_Te_freeOf rm_Te_freeOf).room s m args below meth c s.heap [] 0 0 (MQ below (k2_QcV (.int v)) args s 0 0 (fun _ => False)) (F0 m 18 ls [.int s0]) := by
    intro ls s0 hv hk hl
    unfold f_Te_freeOf_18 at hv
    unfold k_Te_freeOf_18 at hk
    exact W.iret hx hb hr (fun t ht hW => ⟨by rw [hv], ht⟩) (fun q h => nomatch h) d_Te_freeOf_18
  unfold f_Te_freeOf at hv
  unfold k_Te_freeOf at hk
  refine lv_aload_n hx hb d_Te_freeOf_0 rfl (lv_at hl 0 rfl) ?_
  refine lv_iload_n hx hb d_Te_freeOf_1 rfl (lv_at hl 1 rfl) ?_
  obtain ⟨hk0, hk⟩ := hk
  refine zz_callV (va_runV (As := [.int a1]) (rest := []) ⟨hx, hb, hml, hown, hg⟩ (c_Te_has l D ty h px σ a1 hk0) ⟨callB_of 1 hg (gw_C m_430) rfl rfl rfl (hg _ m_3) (hg _ m_435) hd_Te_has ⟨Nat.le_of_ble_eq_true rfl, Nat.le_of_ble_eq_true rfl⟩, hg _ m_428, hg _ m_429⟩ (zz_preV hN hK hP 6 rfl rfl) rfl rfl hl.1 rfl (lv_room (Nat.le_of_ble_eq_true rfl)) d_Te_freeOf_2 ⟨Nat.le_of_ble_eq_true rfl, Nat.le_of_ble_eq_true rfl⟩) ?_
  refine lv_if_eq (tgt := 17) hx hb d_Te_freeOf_5 (by decide) (fun hc => ?_) (fun hc => ?_)
  · have hv := hv.trans (if_pos hc)
    have hk := hk.1 hc
    refine lv_iconst (v := 0) hx hb d_Te_freeOf_17 (by decide) ?_
    exact B18 _ 0 hv hk (lv_sub hl [] rfl)
  · have hv := hv.trans (if_neg hc)
    have hk := hk.2 hc
    refine lv_aload_n hx hb d_Te_freeOf_8 rfl (lv_at hl 0 rfl) ?_
    refine va_get (v := .ref (h 16)) (C := R_Te) (T := T_Te) (N := 14) hx hb hg in_Te hown hK hP 6 rfl rfl 9 (by decide) (hg _ m_78) (fun _ h9 => h9) rfl d_Te_freeOf_9 ?_
    refine lv_iload_n hx hb d_Te_freeOf_12 rfl (lv_at hl 1 rfl) ?_
    obtain ⟨hk0, hk⟩ := hk
    refine va_iald hx hb hK hP 16 0 rfl rfl hk0 d_Te_freeOf_13 ?_
    refine lv_goto (tgt := 18) hx hb d_Te_freeOf_14 (by decide) ?_
    exact B18 _ (σ.1 16 a1.toNatClampNeg) hv hk (lv_sub hl [] rfl)

-- ClauseLedger$Terms.freeBy(III)I
abbrev b_Te_freeBy : ByteArray := prog_11_method_25_code
def y_Te_freeBy : MethodName := ⟨"ClauseLedger$Terms", "freeBy", "(III)I"⟩
theorem hd_Te_freeBy : y_Te_freeBy.cls ≠ "java/lang/invoke/MethodHandle" ∧ y_Te_freeBy.cls ≠ "java/lang/invoke/VarHandle" ∧ (parseMethodDescriptor y_Te_freeBy.desc).map (fun d => d.parameters.length) = some 3 := by decide +kernel
theorem d_Te_freeBy_0 : decode b_Te_freeBy 0 = .ok (.iload_n 0, 1) := by decide +kernel
theorem d_Te_freeBy_1 : decode b_Te_freeBy 1 = .ok (.iconst 1, 1) := by decide +kernel
theorem d_Te_freeBy_2 : decode b_Te_freeBy 2 = .ok (.if_icmp .ne 7, 3) := by decide +kernel
theorem d_Te_freeBy_5 : decode b_Te_freeBy 5 = .ok (.iconst 1, 1) := by decide +kernel
theorem d_Te_freeBy_6 : decode b_Te_freeBy 6 = .ok (.iload_n 1, 1) := by decide +kernel
theorem d_Te_freeBy_7 : decode b_Te_freeBy 7 = .ok (.ishl, 1) := by decide +kernel
theorem d_Te_freeBy_8 : decode b_Te_freeBy 8 = .ok (.ireturn, 1) := by decide +kernel
theorem d_Te_freeBy_9 : decode b_Te_freeBy 9 = .ok (.iload_n 0, 1) := by decide +kernel
theorem d_Te_freeBy_10 : decode b_Te_freeBy 10 = .ok (.bipush 10, 2) := by decide +kernel
theorem d_Te_freeBy_12 : decode b_Te_freeBy 12 = .ok (.if_icmp .ne 13, 3) := by decide +kernel
theorem d_Te_freeBy_15 : decode b_Te_freeBy 15 = .ok (.iload_n 2, 1) := by decide +kernel
theorem d_Te_freeBy_16 : decode b_Te_freeBy 16 = .ok (.iconst 1, 1) := by decide +kernel
theorem d_Te_freeBy_17 : decode b_Te_freeBy 17 = .ok (.iload_n 1, 1) := by decide +kernel
theorem d_Te_freeBy_18 : decode b_Te_freeBy 18 = .ok (.ishl, 1) := by decide +kernel
theorem d_Te_freeBy_19 : decode b_Te_freeBy 19 = .ok (.iconst (-1), 1) := by decide +kernel
theorem d_Te_freeBy_20 : decode b_Te_freeBy 20 = .ok (.ixor, 1) := by decide +kernel
theorem d_Te_freeBy_21 : decode b_Te_freeBy 21 = .ok (.iand, 1) := by decide +kernel
theorem d_Te_freeBy_22 : decode b_Te_freeBy 22 = .ok (.goto 4, 3) := by decide +kernel
theorem d_Te_freeBy_25 : decode b_Te_freeBy 25 = .ok (.iload_n 2, 1) := by decide +kernel
theorem d_Te_freeBy_26 : decode b_Te_freeBy 26 = .ok (.ireturn, 1) := by decide +kernel
def f_Te_freeBy_26 (s0 : Int32) (σ : St) : Int32 := s0
def k_Te_freeBy_26 (s0 : Int32) (σ : St) : Prop := True
def f_Te_freeBy (a0 : Int32) (a1 : Int32) (a2 : Int32) (σ : St) : Int32 := if a0 = 1 then (1 <<< (a1 &&& 31)) else (if a0 = 10 then (f_Te_freeBy_26 (a2 &&& ((1 <<< (a1 &&& 31)) ^^^ (-1))) σ) else (f_Te_freeBy_26 a2 σ))
def k_Te_freeBy (a0 : Int32) (a1 : Int32) (a2 : Int32) (σ : St) : Prop := (a0 = 1 → True) ∧ (¬ a0 = 1 → ((a0 = 10 → (k_Te_freeBy_26 (a2 &&& ((1 <<< (a1 &&& 31)) ^^^ (-1))) σ)) ∧ (¬ a0 = 10 → (k_Te_freeBy_26 a2 σ))))
abbrev w_Te_freeBy : List Cond := Cond.code y_Te_freeBy b_Te_freeBy 3 (some .int) :: gw
abbrev rm_Te_freeBy : Room := { frames := 0, cells := 0, slots := 0, locals := 0 }
set_option maxHeartbeats 4000000 in
set_option maxRecDepth 100000 in
theorem c_Te_freeBy (l : Launch) (D : va_G) (ty : Nat → ClassId) (h : Nat → Nat) (px : va_W) (σ : St) (a0 : Int32) (a1 : Int32) (a2 : Int32) (hk : k_Te_freeBy a0 a1 a2 σ) : Met l y_Te_freeBy w_Te_freeBy rm_Te_freeBy (va_Pc [.int a0, .int a1, .int a2] (fun U => va_P D classes (Wc ty h σ px) U.heap ∧ va_K D classes (Ta ty) U ∧ NW U)) (k2_QcV (.int (f_Te_freeBy a0 a1 a2 σ))) 0 0 (fun _ => False) := by
  refine Met.ofW (cc := b_Te_freeBy) (maxL := 3) (ret := (some .int)) (by decide) rfl ?_
  intro p e s m args below meth c s₁ B hml hv
  obtain ⟨ha, hP, hK, hN⟩ := hv
  have hx := B.exec
  have hb := B.bytes
  have hr := B.returns
  have hg : ∀ w ∈ gw, w.before args s = true := fun w h9 => atoms_spec (ws := w_Te_freeBy) B.pre w (List.mem_cons_of_mem _ h9)
  have hown : s.vm.findClass "ClauseLedger$Terms" = some m.cls := findClass_of_methodNamed B.named
  have hlocks := B.notSynchronized
  have he : entryFrame m args 3 = entryFrame m ([.int a0, .int a1, .int a2] : List Value).toArray 3 := by rw [ha]
  rw [he, lg_entry_eq]
  have hl := lv_entry ([.int a0, .int a1, .int a2]) (n := 3) (Nat.le_of_ble_eq_true rfl)
  generalize (lg_sl ([.int a0, .int a1, .int a2]) ++ List.replicate (3 - (lg_sl ([.int a0, .int a1, .int a2])).length) Slot.unset).toArray = ls at hl ⊢
  have hl : lv_has ls 3 [(0, .int a0), (1, .int a1), (2, .int a2)] := hl
  generalize hv : f_Te_freeBy a0 a1 a2 σ = v
  replace hv := hv.symm
  have B26 : ∀ (ls : Array Slot) (s0 : Int32), v = f_Te_freeBy_26 s0 σ → k_Te_freeBy_26 s0 σ → lv_has ls 3 [] → W p l e (headSpec w_Te_freeBy rm_Te_freeBy).room s m args below meth c s.heap [] 0 0 (MQ below (k2_QcV (.int v)) args s 0 0 (fun _ => False)) (F0 m 26 ls [.int s0]) := by
    intro ls s0 hv hk hl
    unfold f_Te_freeBy_26 at hv
    unfold k_Te_freeBy_26 at hk
    exact W.iret hx hb hr (fun t ht hW => ⟨by rw [hv], ht⟩) (fun q h => nomatch h) d_Te_freeBy_26
  unfold f_Te_freeBy at hv
  unfold k_Te_freeBy at hk
  refine lv_iload_n hx hb d_Te_freeBy_0 rfl (lv_at hl 0 rfl) ?_
  refine lv_iconst (v := 1) hx hb d_Te_freeBy_1 (by decide) ?_
  refine lv_icmp_ne (tgt := 9) hx hb d_Te_freeBy_2 (by decide) (fun hc => ?_) (fun hc => ?_)
  · have hv := hv.trans (if_neg hc)
    have hk := hk.2 hc
    refine lv_iload_n hx hb d_Te_freeBy_9 rfl (lv_at hl 0 rfl) ?_
    refine lv_bipush (v := 10) hx hb d_Te_freeBy_10 (by decide) ?_
    refine lv_icmp_ne (tgt := 25) hx hb d_Te_freeBy_12 (by decide) (fun hc => ?_) (fun hc => ?_)
    · have hv := hv.trans (if_neg hc)
      have hk := hk.2 hc
      refine lv_iload_n hx hb d_Te_freeBy_25 rfl (lv_at hl 2 rfl) ?_
      exact B26 _ a2 hv hk (lv_sub hl [] rfl)
    · have hv := hv.trans (if_pos hc)
      have hk := hk.1 hc
      refine lv_iload_n hx hb d_Te_freeBy_15 rfl (lv_at hl 2 rfl) ?_
      refine lv_iconst (v := 1) hx hb d_Te_freeBy_16 (by decide) ?_
      refine lv_iload_n hx hb d_Te_freeBy_17 rfl (lv_at hl 1 rfl) ?_
      refine lv_ishl hx hb d_Te_freeBy_18 ?_
      refine lv_iconst (v := -1) hx hb d_Te_freeBy_19 (by decide) ?_
      refine lv_ixor hx hb d_Te_freeBy_20 ?_
      refine lv_iand hx hb d_Te_freeBy_21 ?_
      refine lv_goto (tgt := 26) hx hb d_Te_freeBy_22 (by decide) ?_
      exact B26 _ (a2 &&& ((1 <<< (a1 &&& 31)) ^^^ (-1))) hv hk (lv_sub hl [] rfl)
  · have hv := hv.trans (if_pos hc)
    have hk := hk.1 hc
    refine lv_iconst (v := 1) hx hb d_Te_freeBy_5 (by decide) ?_
    refine lv_iload_n hx hb d_Te_freeBy_6 rfl (lv_at hl 1 rfl) ?_
    refine lv_ishl hx hb d_Te_freeBy_7 ?_
    exact W.iret hx hb hr (fun t ht hW => ⟨by rw [hv], ht⟩) (fun q h => nomatch h) d_Te_freeBy_8

-- ClauseLedger$Terms.make(IIIII)I
abbrev b_Te_make : ByteArray := prog_11_method_19_code
def y_Te_make : MethodName := ⟨"ClauseLedger$Terms", "make", "(IIIII)I"⟩
theorem hd_Te_make : y_Te_make.cls ≠ "java/lang/invoke/MethodHandle" ∧ y_Te_make.cls ≠ "java/lang/invoke/VarHandle" ∧ (parseMethodDescriptor y_Te_make.desc).map (fun d => d.parameters.length) = some 5 := by decide +kernel
theorem d_Te_make_0 : decode b_Te_make 0 = .ok (.iload_n 1, 1) := by decide +kernel
theorem d_Te_make_1 : decode b_Te_make 1 = .ok (.iload_n 3, 1) := by decide +kernel
theorem d_Te_make_2 : decode b_Te_make 2 = .ok (.iload 4, 2) := by decide +kernel
theorem d_Te_make_4 : decode b_Te_make 4 = .ok (.iload 5, 2) := by decide +kernel
theorem d_Te_make_6 : decode b_Te_make 6 = .ok (.invokestatic 68, 3) := by decide +kernel
theorem d_Te_make_9 : decode b_Te_make 9 = .ok (.lstore 6, 2) := by decide +kernel
theorem d_Te_make_11 : decode b_Te_make 11 = .ok (.aload_n 0, 1) := by decide +kernel
theorem d_Te_make_12 : decode b_Te_make 12 = .ok (.lload 6, 2) := by decide +kernel
theorem d_Te_make_14 : decode b_Te_make 14 = .ok (.iload 4, 2) := by decide +kernel
theorem d_Te_make_16 : decode b_Te_make 16 = .ok (.iload 5, 2) := by decide +kernel
theorem d_Te_make_18 : decode b_Te_make 18 = .ok (.invokestatic 72, 3) := by decide +kernel
theorem d_Te_make_21 : decode b_Te_make 21 = .ok (.iconst 1, 1) := by decide +kernel
theorem d_Te_make_22 : decode b_Te_make 22 = .ok (.iadd, 1) := by decide +kernel
theorem d_Te_make_23 : decode b_Te_make 23 = .ok (.invokevirtual 78, 3) := by decide +kernel
theorem d_Te_make_26 : decode b_Te_make 26 = .ok (.istore 8, 2) := by decide +kernel
theorem d_Te_make_28 : decode b_Te_make 28 = .ok (.iload 8, 2) := by decide +kernel
theorem d_Te_make_30 : decode b_Te_make 30 = .ok (.iconst (-1), 1) := by decide +kernel
theorem d_Te_make_31 : decode b_Te_make 31 = .ok (.if_icmp .eq 6, 3) := by decide +kernel
theorem d_Te_make_34 : decode b_Te_make 34 = .ok (.iload 8, 2) := by decide +kernel
theorem d_Te_make_36 : decode b_Te_make 36 = .ok (.ireturn, 1) := by decide +kernel
theorem d_Te_make_37 : decode b_Te_make 37 = .ok (.aload_n 0, 1) := by decide +kernel
theorem d_Te_make_38 : decode b_Te_make 38 = .ok (.lload 6, 2) := by decide +kernel
theorem d_Te_make_40 : decode b_Te_make 40 = .ok (.iload_n 1, 1) := by decide +kernel
theorem d_Te_make_41 : decode b_Te_make 41 = .ok (.iload_n 2, 1) := by decide +kernel
theorem d_Te_make_42 : decode b_Te_make 42 = .ok (.iload_n 3, 1) := by decide +kernel
theorem d_Te_make_43 : decode b_Te_make 43 = .ok (.invokevirtual 82, 3) := by decide +kernel
theorem d_Te_make_46 : decode b_Te_make 46 = .ok (.istore 9, 2) := by decide +kernel
theorem d_Te_make_48 : decode b_Te_make 48 = .ok (.aload_n 0, 1) := by decide +kernel
theorem d_Te_make_49 : decode b_Te_make 49 = .ok (.getfield 21, 3) := by decide +kernel
theorem d_Te_make_52 : decode b_Te_make 52 = .ok (.iload 9, 2) := by decide +kernel
theorem d_Te_make_54 : decode b_Te_make 54 = .ok (.iload 4, 2) := by decide +kernel
theorem d_Te_make_56 : decode b_Te_make 56 = .ok (.iastore, 1) := by decide +kernel
theorem d_Te_make_57 : decode b_Te_make 57 = .ok (.aload_n 0, 1) := by decide +kernel
theorem d_Te_make_58 : decode b_Te_make 58 = .ok (.getfield 24, 3) := by decide +kernel
theorem d_Te_make_61 : decode b_Te_make 61 = .ok (.iload 9, 2) := by decide +kernel
theorem d_Te_make_63 : decode b_Te_make 63 = .ok (.iload 5, 2) := by decide +kernel
theorem d_Te_make_65 : decode b_Te_make 65 = .ok (.iastore, 1) := by decide +kernel
theorem d_Te_make_66 : decode b_Te_make 66 = .ok (.aload_n 0, 1) := by decide +kernel
theorem d_Te_make_67 : decode b_Te_make 67 = .ok (.getfield 33, 3) := by decide +kernel
theorem d_Te_make_70 : decode b_Te_make 70 = .ok (.iload 9, 2) := by decide +kernel
theorem d_Te_make_72 : decode b_Te_make 72 = .ok (.iconst 1, 1) := by decide +kernel
theorem d_Te_make_73 : decode b_Te_make 73 = .ok (.aload_n 0, 1) := by decide +kernel
theorem d_Te_make_74 : decode b_Te_make 74 = .ok (.iload 4, 2) := by decide +kernel
theorem d_Te_make_76 : decode b_Te_make 76 = .ok (.invokevirtual 86, 3) := by decide +kernel
theorem d_Te_make_79 : decode b_Te_make 79 = .ok (.aload_n 0, 1) := by decide +kernel
theorem d_Te_make_80 : decode b_Te_make 80 = .ok (.iload 5, 2) := by decide +kernel
theorem d_Te_make_82 : decode b_Te_make 82 = .ok (.invokevirtual 86, 3) := by decide +kernel
theorem d_Te_make_85 : decode b_Te_make 85 = .ok (.invokestatic 72, 3) := by decide +kernel
theorem d_Te_make_88 : decode b_Te_make 88 = .ok (.iadd, 1) := by decide +kernel
theorem d_Te_make_89 : decode b_Te_make 89 = .ok (.iastore, 1) := by decide +kernel
theorem d_Te_make_90 : decode b_Te_make 90 = .ok (.aload_n 0, 1) := by decide +kernel
theorem d_Te_make_91 : decode b_Te_make 91 = .ok (.getfield 36, 3) := by decide +kernel
theorem d_Te_make_94 : decode b_Te_make 94 = .ok (.iload 9, 2) := by decide +kernel
theorem d_Te_make_96 : decode b_Te_make 96 = .ok (.iload_n 1, 1) := by decide +kernel
theorem d_Te_make_97 : decode b_Te_make 97 = .ok (.iload 4, 2) := by decide +kernel
theorem d_Te_make_99 : decode b_Te_make 99 = .ok (.iconst (-1), 1) := by decide +kernel
theorem d_Te_make_100 : decode b_Te_make 100 = .ok (.if_icmp .eq 7, 3) := by decide +kernel
theorem d_Te_make_103 : decode b_Te_make 103 = .ok (.iconst 1, 1) := by decide +kernel
theorem d_Te_make_104 : decode b_Te_make 104 = .ok (.goto 4, 3) := by decide +kernel
theorem d_Te_make_107 : decode b_Te_make 107 = .ok (.iconst 0, 1) := by decide +kernel
theorem d_Te_make_108 : decode b_Te_make 108 = .ok (.aload_n 0, 1) := by decide +kernel
theorem d_Te_make_109 : decode b_Te_make 109 = .ok (.iload 4, 2) := by decide +kernel
theorem d_Te_make_111 : decode b_Te_make 111 = .ok (.invokevirtual 89, 3) := by decide +kernel
theorem d_Te_make_114 : decode b_Te_make 114 = .ok (.invokestatic 92, 3) := by decide +kernel
theorem d_Te_make_117 : decode b_Te_make 117 = .ok (.iload 5, 2) := by decide +kernel
theorem d_Te_make_119 : decode b_Te_make 119 = .ok (.iconst (-1), 1) := by decide +kernel
theorem d_Te_make_120 : decode b_Te_make 120 = .ok (.if_icmp .ne 7, 3) := by decide +kernel
theorem d_Te_make_123 : decode b_Te_make 123 = .ok (.iconst 0, 1) := by decide +kernel
theorem d_Te_make_124 : decode b_Te_make 124 = .ok (.goto 11, 3) := by decide +kernel
theorem d_Te_make_127 : decode b_Te_make 127 = .ok (.iconst 1, 1) := by decide +kernel
theorem d_Te_make_128 : decode b_Te_make 128 = .ok (.aload_n 0, 1) := by decide +kernel
theorem d_Te_make_129 : decode b_Te_make 129 = .ok (.iload 5, 2) := by decide +kernel
theorem d_Te_make_131 : decode b_Te_make 131 = .ok (.invokevirtual 89, 3) := by decide +kernel
theorem d_Te_make_134 : decode b_Te_make 134 = .ok (.iadd, 1) := by decide +kernel
theorem d_Te_make_135 : decode b_Te_make 135 = .ok (.iadd, 1) := by decide +kernel
theorem d_Te_make_136 : decode b_Te_make 136 = .ok (.iastore, 1) := by decide +kernel
theorem d_Te_make_137 : decode b_Te_make 137 = .ok (.aload_n 0, 1) := by decide +kernel
theorem d_Te_make_138 : decode b_Te_make 138 = .ok (.getfield 39, 3) := by decide +kernel
theorem d_Te_make_141 : decode b_Te_make 141 = .ok (.iload 9, 2) := by decide +kernel
theorem d_Te_make_143 : decode b_Te_make 143 = .ok (.iload_n 1, 1) := by decide +kernel
theorem d_Te_make_144 : decode b_Te_make 144 = .ok (.iload_n 3, 1) := by decide +kernel
theorem d_Te_make_145 : decode b_Te_make 145 = .ok (.aload_n 0, 1) := by decide +kernel
theorem d_Te_make_146 : decode b_Te_make 146 = .ok (.iload 4, 2) := by decide +kernel
theorem d_Te_make_148 : decode b_Te_make 148 = .ok (.invokevirtual 65, 3) := by decide +kernel
theorem d_Te_make_151 : decode b_Te_make 151 = .ok (.aload_n 0, 1) := by decide +kernel
theorem d_Te_make_152 : decode b_Te_make 152 = .ok (.iload 5, 2) := by decide +kernel
theorem d_Te_make_154 : decode b_Te_make 154 = .ok (.invokevirtual 65, 3) := by decide +kernel
theorem d_Te_make_157 : decode b_Te_make 157 = .ok (.ior, 1) := by decide +kernel
theorem d_Te_make_158 : decode b_Te_make 158 = .ok (.invokestatic 98, 3) := by decide +kernel
theorem d_Te_make_161 : decode b_Te_make 161 = .ok (.iastore, 1) := by decide +kernel
theorem d_Te_make_162 : decode b_Te_make 162 = .ok (.aload_n 0, 1) := by decide +kernel
theorem d_Te_make_163 : decode b_Te_make 163 = .ok (.aload_n 0, 1) := by decide +kernel
theorem d_Te_make_164 : decode b_Te_make 164 = .ok (.getfield 53, 3) := by decide +kernel
theorem d_Te_make_167 : decode b_Te_make 167 = .ok (.ifCond .ne 15, 3) := by decide +kernel
theorem d_Te_make_170 : decode b_Te_make 170 = .ok (.aload_n 0, 1) := by decide +kernel
theorem d_Te_make_171 : decode b_Te_make 171 = .ok (.getfield 33, 3) := by decide +kernel
theorem d_Te_make_174 : decode b_Te_make 174 = .ok (.iload 9, 2) := by decide +kernel
theorem d_Te_make_176 : decode b_Te_make 176 = .ok (.iaload, 1) := by decide +kernel
theorem d_Te_make_177 : decode b_Te_make 177 = .ok (.bipush 12, 2) := by decide +kernel
theorem d_Te_make_179 : decode b_Te_make 179 = .ok (.if_icmp .le 7, 3) := by decide +kernel
theorem d_Te_make_182 : decode b_Te_make 182 = .ok (.iconst 1, 1) := by decide +kernel
theorem d_Te_make_183 : decode b_Te_make 183 = .ok (.goto 4, 3) := by decide +kernel
theorem d_Te_make_186 : decode b_Te_make 186 = .ok (.iconst 0, 1) := by decide +kernel
theorem d_Te_make_187 : decode b_Te_make 187 = .ok (.putfield 53, 3) := by decide +kernel
theorem d_Te_make_190 : decode b_Te_make 190 = .ok (.iload 9, 2) := by decide +kernel
theorem d_Te_make_192 : decode b_Te_make 192 = .ok (.ireturn, 1) := by decide +kernel
def f_Te_make_190 (x9 : Int32) (σ : St) : Int32 × St := (x9, σ)
def k_Te_make_190 (x9 : Int32) (σ : St) : Prop := True
def f_Te_make_187 (x9 : Int32) (s0 : Int32) (σ : St) : Int32 × St := f_Te_make_190 x9 (sF σ 6 13 s0)
def k_Te_make_187 (x9 : Int32) (s0 : Int32) (σ : St) : Prop := (narrow .boolean (.int s0) = .int s0 ∧ fits .boolean (.int s0) = true) ∧ (k_Te_make_190 x9 (sF σ 6 13 s0))
def f_Te_make_182 (x9 : Int32) (σ : St) : Int32 × St := f_Te_make_187 x9 1 σ
def k_Te_make_182 (x9 : Int32) (σ : St) : Prop := k_Te_make_187 x9 1 σ
def f_Te_make_162 (x9 : Int32) (σ : St) : Int32 × St := if (σ.1 6 13) = 0 then (if (σ.1 14 x9.toNatClampNeg) ≤ 12 then (f_Te_make_187 x9 0 σ) else (f_Te_make_182 x9 σ)) else (f_Te_make_182 x9 σ)
def k_Te_make_162 (x9 : Int32) (σ : St) : Prop := ((σ.1 6 13) = 0 → (vp_in x9 208 ∧ (((σ.1 14 x9.toNatClampNeg) ≤ 12 → (k_Te_make_187 x9 0 σ)) ∧ (¬ (σ.1 14 x9.toNatClampNeg) ≤ 12 → (k_Te_make_182 x9 σ))))) ∧ (¬ (σ.1 6 13) = 0 → (k_Te_make_182 x9 σ))
def f_Te_make_137 (x1 : Int32) (x3 : Int32) (x4 : Int32) (x5 : Int32) (x9 : Int32) (σ : St) : Int32 × St := f_Te_make_162 x9 (sA σ 16 x9 (f_Te_freeBy x1 x3 ((f_Te_freeOf x4 σ) ||| (f_Te_freeOf x5 σ)) σ))
def k_Te_make_137 (x1 : Int32) (x3 : Int32) (x4 : Int32) (x5 : Int32) (x9 : Int32) (σ : St) : Prop := (k_Te_freeOf x4 σ) ∧ ((k_Te_freeOf x5 σ) ∧ ((k_Te_freeBy x1 x3 ((f_Te_freeOf x4 σ) ||| (f_Te_freeOf x5 σ)) σ) ∧ (vp_in x9 208 ∧ (k_Te_make_162 x9 (sA σ 16 x9 (f_Te_freeBy x1 x3 ((f_Te_freeOf x4 σ) ||| (f_Te_freeOf x5 σ)) σ))))))
def f_Te_make_135 (x1 : Int32) (x3 : Int32) (x4 : Int32) (x5 : Int32) (x9 : Int32) (s0 : Int32) (s1 : Int32) (s2 : Int32) (σ : St) : Int32 × St := f_Te_make_137 x1 x3 x4 x5 x9 (sA σ 15 s2 (s1 + s0))
def k_Te_make_135 (x1 : Int32) (x3 : Int32) (x4 : Int32) (x5 : Int32) (x9 : Int32) (s0 : Int32) (s1 : Int32) (s2 : Int32) (σ : St) : Prop := vp_in s2 208 ∧ (k_Te_make_137 x1 x3 x4 x5 x9 (sA σ 15 s2 (s1 + s0)))
def f_Te_make_108 (x1 : Int32) (x3 : Int32) (x4 : Int32) (x5 : Int32) (x9 : Int32) (s0 : Int32) (s1 : Int32) (s2 : Int32) (σ : St) : Int32 × St := if x5 = (-1) then (f_Te_make_135 x1 x3 x4 x5 x9 0 (f_Wr_length s1 s0 (f_Te_lengthOf x4 σ) σ) s2 σ) else (f_Te_make_135 x1 x3 x4 x5 x9 (1 + (f_Te_lengthOf x5 σ)) (f_Wr_length s1 s0 (f_Te_lengthOf x4 σ) σ) s2 σ)
def k_Te_make_108 (x1 : Int32) (x3 : Int32) (x4 : Int32) (x5 : Int32) (x9 : Int32) (s0 : Int32) (s1 : Int32) (s2 : Int32) (σ : St) : Prop := (k_Te_lengthOf x4 σ) ∧ ((k_Wr_length s1 s0 (f_Te_lengthOf x4 σ) σ) ∧ ((x5 = (-1) → (k_Te_make_135 x1 x3 x4 x5 x9 0 (f_Wr_length s1 s0 (f_Te_lengthOf x4 σ) σ) s2 σ)) ∧ (¬ x5 = (-1) → ((k_Te_lengthOf x5 σ) ∧ (k_Te_make_135 x1 x3 x4 x5 x9 (1 + (f_Te_lengthOf x5 σ)) (f_Wr_length s1 s0 (f_Te_lengthOf x4 σ) σ) s2 σ)))))
def f_Te_make_90 (x1 : Int32) (x3 : Int32) (x4 : Int32) (x5 : Int32) (x9 : Int32) (σ : St) : Int32 × St := if x4 = (-1) then (f_Te_make_108 x1 x3 x4 x5 x9 0 x1 x9 σ) else (f_Te_make_108 x1 x3 x4 x5 x9 1 x1 x9 σ)
def k_Te_make_90 (x1 : Int32) (x3 : Int32) (x4 : Int32) (x5 : Int32) (x9 : Int32) (σ : St) : Prop := (x4 = (-1) → (k_Te_make_108 x1 x3 x4 x5 x9 0 x1 x9 σ)) ∧ (¬ x4 = (-1) → (k_Te_make_108 x1 x3 x4 x5 x9 1 x1 x9 σ))
def f_Te_make_66 (x1 : Int32) (x3 : Int32) (x4 : Int32) (x5 : Int32) (x9 : Int32) (σ : St) : Int32 × St := f_Te_make_90 x1 x3 x4 x5 x9 (sA σ 14 x9 (1 + (if (f_Te_depthOf x4 σ) < (f_Te_depthOf x5 σ) then (f_Te_depthOf x5 σ) else (f_Te_depthOf x4 σ))))
def k_Te_make_66 (x1 : Int32) (x3 : Int32) (x4 : Int32) (x5 : Int32) (x9 : Int32) (σ : St) : Prop := (k_Te_depthOf x4 σ) ∧ ((k_Te_depthOf x5 σ) ∧ (vp_in x9 208 ∧ (k_Te_make_90 x1 x3 x4 x5 x9 (sA σ 14 x9 (1 + (if (f_Te_depthOf x4 σ) < (f_Te_depthOf x5 σ) then (f_Te_depthOf x5 σ) else (f_Te_depthOf x4 σ)))))))
def f_Te_make_57 (x1 : Int32) (x3 : Int32) (x4 : Int32) (x5 : Int32) (x9 : Int32) (σ : St) : Int32 × St := f_Te_make_66 x1 x3 x4 x5 x9 (sA σ 11 x9 x5)
def k_Te_make_57 (x1 : Int32) (x3 : Int32) (x4 : Int32) (x5 : Int32) (x9 : Int32) (σ : St) : Prop := vp_in x9 208 ∧ (k_Te_make_66 x1 x3 x4 x5 x9 (sA σ 11 x9 x5))
def f_Te_make_48 (x1 : Int32) (x3 : Int32) (x4 : Int32) (x5 : Int32) (x9 : Int32) (σ : St) : Int32 × St := f_Te_make_57 x1 x3 x4 x5 x9 (sA σ 10 x9 x4)
def k_Te_make_48 (x1 : Int32) (x3 : Int32) (x4 : Int32) (x5 : Int32) (x9 : Int32) (σ : St) : Prop := vp_in x9 208 ∧ (k_Te_make_57 x1 x3 x4 x5 x9 (sA σ 10 x9 x4))
def f_Te_make_46 (x1 : Int32) (x3 : Int32) (x4 : Int32) (x5 : Int32) (s0 : Int32) (σ : St) : Int32 × St := f_Te_make_48 x1 x3 x4 x5 s0 σ
def k_Te_make_46 (x1 : Int32) (x3 : Int32) (x4 : Int32) (x5 : Int32) (s0 : Int32) (σ : St) : Prop := k_Te_make_48 x1 x3 x4 x5 s0 σ
def f_Te_make_28 (x1 : Int32) (x2 : Int32) (x3 : Int32) (x4 : Int32) (x5 : Int32) (x6 : Int64) (x8 : Int32) (σ : St) : Int32 × St := if x8 = (-1) then (f_Te_make_46 x1 x3 x4 x5 ((f_Te_append x6 x1 x2 x3 σ).1) ((f_Te_append x6 x1 x2 x3 σ).2)) else (x8, σ)
def k_Te_make_28 (x1 : Int32) (x2 : Int32) (x3 : Int32) (x4 : Int32) (x5 : Int32) (x6 : Int64) (x8 : Int32) (σ : St) : Prop := (x8 = (-1) → ((k_Te_append x6 x1 x2 x3 σ) ∧ (k_Te_make_46 x1 x3 x4 x5 ((f_Te_append x6 x1 x2 x3 σ).1) ((f_Te_append x6 x1 x2 x3 σ).2)))) ∧ (¬ x8 = (-1) → True)
def f_Te_make_11 (x1 : Int32) (x2 : Int32) (x3 : Int32) (x4 : Int32) (x5 : Int32) (x6 : Int64) (σ : St) : Int32 × St := f_Te_make_28 x1 x2 x3 x4 x5 x6 (f_Te_find x6 ((if x4 < x5 then x5 else x4) + 1) σ) σ
def k_Te_make_11 (x1 : Int32) (x2 : Int32) (x3 : Int32) (x4 : Int32) (x5 : Int32) (x6 : Int64) (σ : St) : Prop := (k_Te_find x6 ((if x4 < x5 then x5 else x4) + 1) σ) ∧ (k_Te_make_28 x1 x2 x3 x4 x5 x6 (f_Te_find x6 ((if x4 < x5 then x5 else x4) + 1) σ) σ)
def f_Te_make (a1 : Int32) (a2 : Int32) (a3 : Int32) (a4 : Int32) (a5 : Int32) (σ : St) : Int32 × St := f_Te_make_11 a1 a2 a3 a4 a5 (f_Te_keyOf a1 a3 a4 a5 σ) σ
def k_Te_make (a1 : Int32) (a2 : Int32) (a3 : Int32) (a4 : Int32) (a5 : Int32) (σ : St) : Prop := (k_Te_keyOf a1 a3 a4 a5 σ) ∧ (k_Te_make_11 a1 a2 a3 a4 a5 (f_Te_keyOf a1 a3 a4 a5 σ) σ)
abbrev w_Te_make : List Cond := Cond.code y_Te_make b_Te_make 10 (some .int) :: gw
abbrev rm_Te_make : Room := { frames := 2, cells := 0, slots := 0, locals := 47 }
set_option maxHeartbeats 4000000 in
set_option maxRecDepth 100000 in
theorem c_Te_make (l : Launch) (D : va_G) (ty : Nat → ClassId) (h : Nat → Nat) (px : va_W) (σ : St) (sz : Nat) (a1 : Int32) (a2 : Int32) (a3 : Int32) (a4 : Int32) (a5 : Int32) (hk : k_Te_make a1 a2 a3 a4 a5 σ) : Met l y_Te_make w_Te_make rm_Te_make (va_Pc [.ref (h 6), .int a1, .int a2, .int a3, .int a4, .int a5] (fun U => U.heap.size = sz ∧ va_P D classes (Wc ty h σ px) U.heap ∧ va_K D classes (Ta ty) U ∧ NW U ∧ va_D (fun _ => True) (Wc ty h σ px))) (va_Qi (fun r (u : St) => (r, u) = f_Te_make a1 a2 a3 a4 a5 σ) (fun u t => va_P D classes (Wc ty h u px) t.heap) (va_A (Wc ty h σ px) sz)) 0 0 (va_A (Wc ty h σ px) sz) := by
  refine Met.ofW (cc := b_Te_make) (maxL := 10) (ret := (some .int)) (by decide) rfl ?_
  intro p e s m args below meth c s₁ B hml hv
  obtain ⟨ha, hsz, hP, hK, hN, hD0⟩ := hv
  have hx := B.exec
  have hb := B.bytes
  have hr := B.returns
  have hg : ∀ w ∈ gw, w.before args s = true := fun w h9 => atoms_spec (ws := w_Te_make) B.pre w (List.mem_cons_of_mem _ h9)
  have hown : s.vm.findClass "ClauseLedger$Terms" = some m.cls := findClass_of_methodNamed B.named
  have hlocks := B.notSynchronized
  subst hsz
  have hD := hD0.self (sz := s.heap.size)
  generalize hAe : va_A (Wc ty h σ px) s.heap.size = A at hD ⊢
  have hA : ∀ q : Nat, s.heap.size ≤ q → A q := fun q h9 => by rw [← hAe]; exact Or.inr h9
  have hS : va_S A s.heap s.heap [] := va_S.rf
  have he : entryFrame m args 10 = entryFrame m ([.ref (h 6), .int a1, .int a2, .int a3, .int a4, .int a5] : List Value).toArray 10 := by rw [ha]
  rw [he, lg_entry_eq]
  have hl := lv_entry ([.ref (h 6), .int a1, .int a2, .int a3, .int a4, .int a5]) (n := 10) (Nat.le_of_ble_eq_true rfl)
  generalize (lg_sl ([.ref (h 6), .int a1, .int a2, .int a3, .int a4, .int a5]) ++ List.replicate (10 - (lg_sl ([.ref (h 6), .int a1, .int a2, .int a3, .int a4, .int a5])).length) Slot.unset).toArray = ls at hl ⊢
  have hl : lv_has ls 10 [(0, .ref (h 6)), (1, .int a1), (2, .int a2), (3, .int a3), (4, .int a4), (5, .int a5)] := hl
  generalize hv : f_Te_make a1 a2 a3 a4 a5 σ = v
  replace hv := hv.symm
  have B190 : ∀ (H : Heap) (locs : List Loc) (ls : Array Slot) (x9 : Int32) (σ : St), v = f_Te_make_190 x9 σ → k_Te_make_190 x9 σ → lv_has ls 10 [(9, .int x9)] → va_P D classes (Wc ty h σ px) H → va_D A (Wc ty h σ px) → va_S A s.heap H locs → W p l e (headSpec w_Te_make rm_Te_make).room s m args below meth c H locs 0 0 (MQ below (va_Qi (fun r (u : St) => (r, u) = v) (fun u t => va_P D classes (Wc ty h u px) t.heap) A) args s 0 0 A) (F0 m 190 ls []) := by
    intro H locs ls x9 σ hv hk hl hP hD hS
    unfold f_Te_make_190 at hv
    unfold k_Te_make_190 at hk
    refine lv_iload hx hb d_Te_make_190 (lv_at hl 0 rfl) ?_
    exact W.iret hx hb hr (fun t ht hW => ⟨⟨_, _, rfl, hv.symm, by dsimp only; rw [ht]; exact hP⟩, hS.F ht⟩) hS.2.2 d_Te_make_192
  have B187 : ∀ (H : Heap) (locs : List Loc) (ls : Array Slot) (x9 : Int32) (s0 : Int32) (σ : St), v = f_Te_make_187 x9 s0 σ → k_Te_make_187 x9 s0 σ → lv_has ls 10 [(9, .int x9)] → va_P D classes (Wc ty h σ px) H → va_D A (Wc ty h σ px) → va_S A s.heap H locs → W p l e (headSpec w_Te_make rm_Te_make).room s m args below meth c H locs 0 0 (MQ below (va_Qi (fun r (u : St) => (r, u) = v) (fun u t => va_P D classes (Wc ty h u px) t.heap) A) args s 0 0 A) (F0 m 187 ls [.int s0, .ref (h 6)]) := by
    intro H locs ls x9 s0 σ hv hk hl hP hD hS
    unfold f_Te_make_187 at hv
    unfold k_Te_make_187 at hk
    obtain ⟨hk0, hk⟩ := hk
    refine va_put (v := .int s0) (ty := .boolean) (C := R_Te) (T := T_Te) (N := 14) hx hb hg in_Te ty_Te ok_Te nm_Te hown hK hP hD hS 6 rfl rfl 13 (by decide) (hg _ m_82) (fun _ h9 => h9) rfl (by decide +kernel) hk0.1 hk0.2 (Nat.le_of_ble_eq_true rfl) d_Te_make_187 (fun H locs hP hD hS => ?_)
    have hP : va_P D classes (Wc ty h (sF σ 6 13 s0) px) H := hP
    have hD : va_D A (Wc ty h (sF σ 6 13 s0) px) := hD
    exact B190 _ _ _ x9 (sF σ 6 13 s0) hv hk (lv_sub hl [0] rfl) hP hD hS
  have B182 : ∀ (H : Heap) (locs : List Loc) (ls : Array Slot) (x9 : Int32) (σ : St), v = f_Te_make_182 x9 σ → k_Te_make_182 x9 σ → lv_has ls 10 [(9, .int x9)] → va_P D classes (Wc ty h σ px) H → va_D A (Wc ty h σ px) → va_S A s.heap H locs → W p l e (headSpec w_Te_make rm_Te_make).room s m args below meth c H locs 0 0 (MQ below (va_Qi (fun r (u : St) => (r, u) = v) (fun u t => va_P D classes (Wc ty h u px) t.heap) A) args s 0 0 A) (F0 m 182 ls [.ref (h 6)]) := by
    intro H locs ls x9 σ hv hk hl hP hD hS
    unfold f_Te_make_182 at hv
    unfold k_Te_make_182 at hk
    refine lv_iconst (v := 1) hx hb d_Te_make_182 (by decide) ?_
    refine lv_goto (tgt := 187) hx hb d_Te_make_183 (by decide) ?_
    exact B187 _ _ _ x9 1 σ hv hk (lv_sub hl [0] rfl) hP hD hS
  have B162 : ∀ (H : Heap) (locs : List Loc) (ls : Array Slot) (x9 : Int32) (σ : St), v = f_Te_make_162 x9 σ → k_Te_make_162 x9 σ → lv_has ls 10 [(0, .ref (h 6)), (9, .int x9)] → va_P D classes (Wc ty h σ px) H → va_D A (Wc ty h σ px) → va_S A s.heap H locs → W p l e (headSpec w_Te_make rm_Te_make).room s m args below meth c H locs 0 0 (MQ below (va_Qi (fun r (u : St) => (r, u) = v) (fun u t => va_P D classes (Wc ty h u px) t.heap) A) args s 0 0 A) (F0 m 162 ls []) := by
    intro H locs ls x9 σ hv hk hl hP hD hS
    unfold f_Te_make_162 at hv
    unfold k_Te_make_162 at hk
    refine lv_aload_n hx hb d_Te_make_162 rfl (lv_at hl 0 rfl) ?_
    refine lv_aload_n hx hb d_Te_make_163 rfl (lv_at hl 0 rfl) ?_
    refine va_get (v := .int (σ.1 6 13)) (C := R_Te) (T := T_Te) (N := 14) hx hb hg in_Te hown hK hP 6 rfl rfl 13 (by decide) (hg _ m_82) (fun _ h9 => h9) rfl d_Te_make_164 ?_
    refine lv_if_ne (tgt := 182) hx hb d_Te_make_167 (by decide) (fun hc => ?_) (fun hc => ?_)
    · have hv := hv.trans (if_neg hc)
      have hk := hk.2 hc
      exact B182 _ _ _ x9 σ hv hk (lv_sub hl [1] rfl) hP hD hS
    · have hv := hv.trans (if_pos hc)
      have hk := hk.1 hc
      refine lv_aload_n hx hb d_Te_make_170 rfl (lv_at hl 0 rfl) ?_
      refine va_get (v := .ref (h 14)) (C := R_Te) (T := T_Te) (N := 14) hx hb hg in_Te hown hK hP 6 rfl rfl 7 (by decide) (hg _ m_76) (fun _ h9 => h9) rfl d_Te_make_171 ?_
      refine lv_iload hx hb d_Te_make_174 (lv_at hl 1 rfl) ?_
      obtain ⟨hk0, hk⟩ := hk
      refine va_iald hx hb hK hP 14 0 rfl rfl hk0 d_Te_make_176 ?_
      refine lv_bipush (v := 12) hx hb d_Te_make_177 (by decide) ?_
      refine lv_icmp_le (tgt := 186) hx hb d_Te_make_179 (by decide) (fun hc => ?_) (fun hc => ?_)
      · have hv := hv.trans (if_pos hc)
        have hk := hk.1 hc
        refine lv_iconst (v := 0) hx hb d_Te_make_186 (by decide) ?_
        exact B187 _ _ _ x9 0 σ hv hk (lv_sub hl [1] rfl) hP hD hS
      · have hv := hv.trans (if_neg hc)
        have hk := hk.2 hc
        exact B182 _ _ _ x9 σ hv hk (lv_sub hl [1] rfl) hP hD hS
  have B137 : ∀ (H : Heap) (locs : List Loc) (ls : Array Slot) (x1 : Int32) (x3 : Int32) (x4 : Int32) (x5 : Int32) (x9 : Int32) (σ : St), v = f_Te_make_137 x1 x3 x4 x5 x9 σ → k_Te_make_137 x1 x3 x4 x5 x9 σ → lv_has ls 10 [(0, .ref (h 6)), (1, .int x1), (3, .int x3), (4, .int x4), (5, .int x5), (9, .int x9)] → va_P D classes (Wc ty h σ px) H → va_D A (Wc ty h σ px) → va_S A s.heap H locs → W p l e (headSpec w_Te_make rm_Te_make).room s m args below meth c H locs 0 0 (MQ below (va_Qi (fun r (u : St) => (r, u) = v) (fun u t => va_P D classes (Wc ty h u px) t.heap) A) args s 0 0 A) (F0 m 137 ls []) := by
    intro H locs ls x1 x3 x4 x5 x9 σ hv hk hl hP hD hS
    unfold f_Te_make_137 at hv
    unfold k_Te_make_137 at hk
    refine lv_aload_n hx hb d_Te_make_137 rfl (lv_at hl 0 rfl) ?_
    refine va_get (v := .ref (h 16)) (C := R_Te) (T := T_Te) (N := 14) hx hb hg in_Te hown hK hP 6 rfl rfl 9 (by decide) (hg _ m_78) (fun _ h9 => h9) rfl d_Te_make_138 ?_
    refine lv_iload hx hb d_Te_make_141 (lv_at hl 5 rfl) ?_
    refine lv_iload_n hx hb d_Te_make_143 rfl (lv_at hl 1 rfl) ?_
    refine lv_iload_n hx hb d_Te_make_144 rfl (lv_at hl 2 rfl) ?_
    refine lv_aload_n hx hb d_Te_make_145 rfl (lv_at hl 0 rfl) ?_
    refine lv_iload hx hb d_Te_make_146 (lv_at hl 3 rfl) ?_
    obtain ⟨hk0, hk⟩ := hk
    refine zz_callV (va_runV (As := [.int x4]) (rest := [.int x3, .int x1, .int x9, .ref (h 16)]) ⟨hx, hb, hml, hown, hg⟩ (c_Te_freeOf l D ty h px σ x4 hk0) ⟨callB_of 1 hg (gw_C m_650) rfl rfl rfl (hg _ m_3) (hg _ m_647) hd_Te_freeOf ⟨Nat.le_of_ble_eq_true rfl, Nat.le_of_ble_eq_true rfl⟩, hg _ m_649, hg _ ms_16⟩ (zz_preV hN hK hP 6 rfl rfl) rfl rfl hl.1 rfl (lv_room (Nat.le_of_ble_eq_true rfl)) d_Te_make_148 ⟨Nat.le_of_ble_eq_true rfl, Nat.le_of_ble_eq_true rfl⟩) ?_
    refine lv_aload_n hx hb d_Te_make_151 rfl (lv_at hl 0 rfl) ?_
    refine lv_iload hx hb d_Te_make_152 (lv_at hl 4 rfl) ?_
    obtain ⟨hk0, hk⟩ := hk
    refine zz_callV (va_runV (As := [.int x5]) (rest := [.int (f_Te_freeOf x4 σ), .int x3, .int x1, .int x9, .ref (h 16)]) ⟨hx, hb, hml, hown, hg⟩ (c_Te_freeOf l D ty h px σ x5 hk0) ⟨callB_of 1 hg (gw_C m_650) rfl rfl rfl (hg _ m_3) (hg _ m_647) hd_Te_freeOf ⟨Nat.le_of_ble_eq_true rfl, Nat.le_of_ble_eq_true rfl⟩, hg _ m_649, hg _ ms_16⟩ (zz_preV hN hK hP 6 rfl rfl) rfl rfl hl.1 rfl (lv_room (Nat.le_of_ble_eq_true rfl)) d_Te_make_154 ⟨Nat.le_of_ble_eq_true rfl, Nat.le_of_ble_eq_true rfl⟩) ?_
    refine lv_ior hx hb d_Te_make_157 ?_
    obtain ⟨hk0, hk⟩ := hk
    refine zz_callV (va_runS (As := [.int x1, .int x3, .int ((f_Te_freeOf x4 σ) ||| (f_Te_freeOf x5 σ))]) (rest := [.int x9, .ref (h 16)]) ⟨hx, hb, hml, hown, hg⟩ (c_Te_freeBy l D ty h px σ x1 x3 ((f_Te_freeOf x4 σ) ||| (f_Te_freeOf x5 σ)) hk0) ⟨callB_of 3 hg (gw_C m_653) rfl rfl rfl (hg _ m_3) (hg _ m_651) hd_Te_freeBy ⟨Nat.le_of_ble_eq_true rfl, Nat.le_of_ble_eq_true rfl⟩, hg _ m_652⟩ (zz_preS hN hK hP) rfl rfl hl.1 rfl (lv_room (Nat.le_of_ble_eq_true rfl)) d_Te_make_158 ⟨Nat.le_of_ble_eq_true rfl, Nat.le_of_ble_eq_true rfl⟩) ?_
    obtain ⟨hk0, hk⟩ := hk
    refine va_iast hx hb hK hP hD hS 16 0 rfl rfl hk0 d_Te_make_161 (fun H locs hP hD hS => ?_)
    have hP : va_P D classes (Wc ty h (sA σ 16 x9 (f_Te_freeBy x1 x3 ((f_Te_freeOf x4 σ) ||| (f_Te_freeOf x5 σ)) σ)) px) H := hP
    have hD : va_D A (Wc ty h (sA σ 16 x9 (f_Te_freeBy x1 x3 ((f_Te_freeOf x4 σ) ||| (f_Te_freeOf x5 σ)) σ)) px) := hD
    exact B162 _ _ _ x9 (sA σ 16 x9 (f_Te_freeBy x1 x3 ((f_Te_freeOf x4 σ) ||| (f_Te_freeOf x5 σ)) σ)) hv hk (lv_sub hl [0, 5] rfl) hP hD hS
  have B135 : ∀ (H : Heap) (locs : List Loc) (ls : Array Slot) (x1 : Int32) (x3 : Int32) (x4 : Int32) (x5 : Int32) (x9 : Int32) (s0 : Int32) (s1 : Int32) (s2 : Int32) (σ : St), v = f_Te_make_135 x1 x3 x4 x5 x9 s0 s1 s2 σ → k_Te_make_135 x1 x3 x4 x5 x9 s0 s1 s2 σ → lv_has ls 10 [(0, .ref (h 6)), (1, .int x1), (3, .int x3), (4, .int x4), (5, .int x5), (9, .int x9)] → va_P D classes (Wc ty h σ px) H → va_D A (Wc ty h σ px) → va_S A s.heap H locs → W p l e (headSpec w_Te_make rm_Te_make).room s m args below meth c H locs 0 0 (MQ below (va_Qi (fun r (u : St) => (r, u) = v) (fun u t => va_P D classes (Wc ty h u px) t.heap) A) args s 0 0 A) (F0 m 135 ls [.int s0, .int s1, .int s2, .ref (h 15)]) := by
    intro H locs ls x1 x3 x4 x5 x9 s0 s1 s2 σ hv hk hl hP hD hS
    unfold f_Te_make_135 at hv
    unfold k_Te_make_135 at hk
    refine lv_iadd hx hb d_Te_make_135 ?_
    obtain ⟨hk0, hk⟩ := hk
    refine va_iast hx hb hK hP hD hS 15 0 rfl rfl hk0 d_Te_make_136 (fun H locs hP hD hS => ?_)
    have hP : va_P D classes (Wc ty h (sA σ 15 s2 (s1 + s0)) px) H := hP
    have hD : va_D A (Wc ty h (sA σ 15 s2 (s1 + s0)) px) := hD
    exact B137 _ _ _ x1 x3 x4 x5 x9 (sA σ 15 s2 (s1 + s0)) hv hk (lv_sub hl [0, 1, 2, 3, 4, 5] rfl) hP hD hS
  have B108 : ∀ (H : Heap) (locs : List Loc) (ls : Array Slot) (x1 : Int32) (x3 : Int32) (x4 : Int32) (x5 : Int32) (x9 : Int32) (s0 : Int32) (s1 : Int32) (s2 : Int32) (σ : St), v = f_Te_make_108 x1 x3 x4 x5 x9 s0 s1 s2 σ → k_Te_make_108 x1 x3 x4 x5 x9 s0 s1 s2 σ → lv_has ls 10 [(0, .ref (h 6)), (1, .int x1), (3, .int x3), (4, .int x4), (5, .int x5), (9, .int x9)] → va_P D classes (Wc ty h σ px) H → va_D A (Wc ty h σ px) → va_S A s.heap H locs → W p l e (headSpec w_Te_make rm_Te_make).room s m args below meth c H locs 0 0 (MQ below (va_Qi (fun r (u : St) => (r, u) = v) (fun u t => va_P D classes (Wc ty h u px) t.heap) A) args s 0 0 A) (F0 m 108 ls [.int s0, .int s1, .int s2, .ref (h 15)]) := by
    intro H locs ls x1 x3 x4 x5 x9 s0 s1 s2 σ hv hk hl hP hD hS
    unfold f_Te_make_108 at hv
    unfold k_Te_make_108 at hk
    refine lv_aload_n hx hb d_Te_make_108 rfl (lv_at hl 0 rfl) ?_
    refine lv_iload hx hb d_Te_make_109 (lv_at hl 3 rfl) ?_
    obtain ⟨hk0, hk⟩ := hk
    refine zz_callV (va_runV (As := [.int x4]) (rest := [.int s0, .int s1, .int s2, .ref (h 15)]) ⟨hx, hb, hml, hown, hg⟩ (c_Te_lengthOf l D ty h px σ x4 hk0) ⟨callB_of 1 hg (gw_C m_463) rfl rfl rfl (hg _ m_3) (hg _ m_643) hd_Te_lengthOf ⟨Nat.le_of_ble_eq_true rfl, Nat.le_of_ble_eq_true rfl⟩, hg _ m_461, hg _ m_462⟩ (zz_preV hN hK hP 6 rfl rfl) rfl rfl hl.1 rfl (lv_room (Nat.le_of_ble_eq_true rfl)) d_Te_make_111 ⟨Nat.le_of_ble_eq_true rfl, Nat.le_of_ble_eq_true rfl⟩) ?_
    obtain ⟨hk0, hk⟩ := hk
    refine zz_callV (va_runS (As := [.int s1, .int s0, .int (f_Te_lengthOf x4 σ)]) (rest := [.int s2, .ref (h 15)]) ⟨hx, hb, hml, hown, hg⟩ (c_Wr_length l D ty h px σ s1 s0 (f_Te_lengthOf x4 σ) hk0) ⟨callB_of 3 hg (gw_C m_646) rfl rfl rfl (hg _ m_6) (hg _ m_644) hd_Wr_length ⟨Nat.le_of_ble_eq_true rfl, Nat.le_of_ble_eq_true rfl⟩, hg _ m_645⟩ (zz_preS hN hK hP) rfl rfl hl.1 rfl (lv_room (Nat.le_of_ble_eq_true rfl)) d_Te_make_114 ⟨Nat.le_of_ble_eq_true rfl, Nat.le_of_ble_eq_true rfl⟩) ?_
    refine lv_iload hx hb d_Te_make_117 (lv_at hl 4 rfl) ?_
    refine lv_iconst (v := -1) hx hb d_Te_make_119 (by decide) ?_
    refine lv_icmp_ne (tgt := 127) hx hb d_Te_make_120 (by decide) (fun hc => ?_) (fun hc => ?_)
    · have hv := hv.trans (if_neg hc)
      have hk := hk.2 hc
      refine lv_iconst (v := 1) hx hb d_Te_make_127 (by decide) ?_
      refine lv_aload_n hx hb d_Te_make_128 rfl (lv_at hl 0 rfl) ?_
      refine lv_iload hx hb d_Te_make_129 (lv_at hl 4 rfl) ?_
      obtain ⟨hk0, hk⟩ := hk
      refine zz_callV (va_runV (As := [.int x5]) (rest := [.int 1, .int (f_Wr_length s1 s0 (f_Te_lengthOf x4 σ) σ), .int s2, .ref (h 15)]) ⟨hx, hb, hml, hown, hg⟩ (c_Te_lengthOf l D ty h px σ x5 hk0) ⟨callB_of 1 hg (gw_C m_463) rfl rfl rfl (hg _ m_3) (hg _ m_643) hd_Te_lengthOf ⟨Nat.le_of_ble_eq_true rfl, Nat.le_of_ble_eq_true rfl⟩, hg _ m_461, hg _ m_462⟩ (zz_preV hN hK hP 6 rfl rfl) rfl rfl hl.1 rfl (lv_room (Nat.le_of_ble_eq_true rfl)) d_Te_make_131 ⟨Nat.le_of_ble_eq_true rfl, Nat.le_of_ble_eq_true rfl⟩) ?_
      refine lv_iadd hx hb d_Te_make_134 ?_
      exact B135 _ _ _ x1 x3 x4 x5 x9 (1 + (f_Te_lengthOf x5 σ)) (f_Wr_length s1 s0 (f_Te_lengthOf x4 σ) σ) s2 σ hv hk (lv_sub hl [0, 1, 2, 3, 4, 5] rfl) hP hD hS
    · have hv := hv.trans (if_pos hc)
      have hk := hk.1 hc
      refine lv_iconst (v := 0) hx hb d_Te_make_123 (by decide) ?_
      refine lv_goto (tgt := 135) hx hb d_Te_make_124 (by decide) ?_
      exact B135 _ _ _ x1 x3 x4 x5 x9 0 (f_Wr_length s1 s0 (f_Te_lengthOf x4 σ) σ) s2 σ hv hk (lv_sub hl [0, 1, 2, 3, 4, 5] rfl) hP hD hS
  have B90 : ∀ (H : Heap) (locs : List Loc) (ls : Array Slot) (x1 : Int32) (x3 : Int32) (x4 : Int32) (x5 : Int32) (x9 : Int32) (σ : St), v = f_Te_make_90 x1 x3 x4 x5 x9 σ → k_Te_make_90 x1 x3 x4 x5 x9 σ → lv_has ls 10 [(0, .ref (h 6)), (1, .int x1), (3, .int x3), (4, .int x4), (5, .int x5), (9, .int x9)] → va_P D classes (Wc ty h σ px) H → va_D A (Wc ty h σ px) → va_S A s.heap H locs → W p l e (headSpec w_Te_make rm_Te_make).room s m args below meth c H locs 0 0 (MQ below (va_Qi (fun r (u : St) => (r, u) = v) (fun u t => va_P D classes (Wc ty h u px) t.heap) A) args s 0 0 A) (F0 m 90 ls []) := by
    intro H locs ls x1 x3 x4 x5 x9 σ hv hk hl hP hD hS
    unfold f_Te_make_90 at hv
    unfold k_Te_make_90 at hk
    refine lv_aload_n hx hb d_Te_make_90 rfl (lv_at hl 0 rfl) ?_
    refine va_get (v := .ref (h 15)) (C := R_Te) (T := T_Te) (N := 14) hx hb hg in_Te hown hK hP 6 rfl rfl 8 (by decide) (hg _ m_77) (fun _ h9 => h9) rfl d_Te_make_91 ?_
    refine lv_iload hx hb d_Te_make_94 (lv_at hl 5 rfl) ?_
    refine lv_iload_n hx hb d_Te_make_96 rfl (lv_at hl 1 rfl) ?_
    refine lv_iload hx hb d_Te_make_97 (lv_at hl 3 rfl) ?_
    refine lv_iconst (v := -1) hx hb d_Te_make_99 (by decide) ?_
    refine lv_icmp_eq (tgt := 107) hx hb d_Te_make_100 (by decide) (fun hc => ?_) (fun hc => ?_)
    · have hv := hv.trans (if_pos hc)
      have hk := hk.1 hc
      refine lv_iconst (v := 0) hx hb d_Te_make_107 (by decide) ?_
      exact B108 _ _ _ x1 x3 x4 x5 x9 0 x1 x9 σ hv hk (lv_sub hl [0, 1, 2, 3, 4, 5] rfl) hP hD hS
    · have hv := hv.trans (if_neg hc)
      have hk := hk.2 hc
      refine lv_iconst (v := 1) hx hb d_Te_make_103 (by decide) ?_
      refine lv_goto (tgt := 108) hx hb d_Te_make_104 (by decide) ?_
      exact B108 _ _ _ x1 x3 x4 x5 x9 1 x1 x9 σ hv hk (lv_sub hl [0, 1, 2, 3, 4, 5] rfl) hP hD hS
  have B66 : ∀ (H : Heap) (locs : List Loc) (ls : Array Slot) (x1 : Int32) (x3 : Int32) (x4 : Int32) (x5 : Int32) (x9 : Int32) (σ : St), v = f_Te_make_66 x1 x3 x4 x5 x9 σ → k_Te_make_66 x1 x3 x4 x5 x9 σ → lv_has ls 10 [(0, .ref (h 6)), (1, .int x1), (3, .int x3), (4, .int x4), (5, .int x5), (9, .int x9)] → va_P D classes (Wc ty h σ px) H → va_D A (Wc ty h σ px) → va_S A s.heap H locs → W p l e (headSpec w_Te_make rm_Te_make).room s m args below meth c H locs 0 0 (MQ below (va_Qi (fun r (u : St) => (r, u) = v) (fun u t => va_P D classes (Wc ty h u px) t.heap) A) args s 0 0 A) (F0 m 66 ls []) := by
    intro H locs ls x1 x3 x4 x5 x9 σ hv hk hl hP hD hS
    unfold f_Te_make_66 at hv
    unfold k_Te_make_66 at hk
    refine lv_aload_n hx hb d_Te_make_66 rfl (lv_at hl 0 rfl) ?_
    refine va_get (v := .ref (h 14)) (C := R_Te) (T := T_Te) (N := 14) hx hb hg in_Te hown hK hP 6 rfl rfl 7 (by decide) (hg _ m_76) (fun _ h9 => h9) rfl d_Te_make_67 ?_
    refine lv_iload hx hb d_Te_make_70 (lv_at hl 5 rfl) ?_
    refine lv_iconst (v := 1) hx hb d_Te_make_72 (by decide) ?_
    refine lv_aload_n hx hb d_Te_make_73 rfl (lv_at hl 0 rfl) ?_
    refine lv_iload hx hb d_Te_make_74 (lv_at hl 3 rfl) ?_
    obtain ⟨hk0, hk⟩ := hk
    refine zz_callV (va_runV (As := [.int x4]) (rest := [.int 1, .int x9, .ref (h 14)]) ⟨hx, hb, hml, hown, hg⟩ (c_Te_depthOf l D ty h px σ x4 hk0) ⟨callB_of 1 hg (gw_C m_443) rfl rfl rfl (hg _ m_3) (hg _ m_642) hd_Te_depthOf ⟨Nat.le_of_ble_eq_true rfl, Nat.le_of_ble_eq_true rfl⟩, hg _ m_441, hg _ m_442⟩ (zz_preV hN hK hP 6 rfl rfl) rfl rfl hl.1 rfl (lv_room (Nat.le_of_ble_eq_true rfl)) d_Te_make_76 ⟨Nat.le_of_ble_eq_true rfl, Nat.le_of_ble_eq_true rfl⟩) ?_
    refine lv_aload_n hx hb d_Te_make_79 rfl (lv_at hl 0 rfl) ?_
    refine lv_iload hx hb d_Te_make_80 (lv_at hl 4 rfl) ?_
    obtain ⟨hk0, hk⟩ := hk
    refine zz_callV (va_runV (As := [.int x5]) (rest := [.int (f_Te_depthOf x4 σ), .int 1, .int x9, .ref (h 14)]) ⟨hx, hb, hml, hown, hg⟩ (c_Te_depthOf l D ty h px σ x5 hk0) ⟨callB_of 1 hg (gw_C m_443) rfl rfl rfl (hg _ m_3) (hg _ m_642) hd_Te_depthOf ⟨Nat.le_of_ble_eq_true rfl, Nat.le_of_ble_eq_true rfl⟩, hg _ m_441, hg _ m_442⟩ (zz_preV hN hK hP 6 rfl rfl) rfl rfl hl.1 rfl (lv_room (Nat.le_of_ble_eq_true rfl)) d_Te_make_82 ⟨Nat.le_of_ble_eq_true rfl, Nat.le_of_ble_eq_true rfl⟩) ?_
    refine va_mmax hx hb (hml.trans hl.1.symm) hown (hg _ m_628) (hg _ m_629) (hg _ m_14) (hg _ m_630) (Nat.le_of_ble_eq_true rfl) (Nat.le_of_ble_eq_true rfl) (Nat.le_of_ble_eq_true rfl) (Nat.le_of_ble_eq_true rfl) d_Te_make_85 ?_
    refine lv_iadd hx hb d_Te_make_88 ?_
    obtain ⟨hk0, hk⟩ := hk
    refine va_iast hx hb hK hP hD hS 14 0 rfl rfl hk0 d_Te_make_89 (fun H locs hP hD hS => ?_)
    have hP : va_P D classes (Wc ty h (sA σ 14 x9 (1 + (if (f_Te_depthOf x4 σ) < (f_Te_depthOf x5 σ) then (f_Te_depthOf x5 σ) else (f_Te_depthOf x4 σ)))) px) H := hP
    have hD : va_D A (Wc ty h (sA σ 14 x9 (1 + (if (f_Te_depthOf x4 σ) < (f_Te_depthOf x5 σ) then (f_Te_depthOf x5 σ) else (f_Te_depthOf x4 σ)))) px) := hD
    exact B90 _ _ _ x1 x3 x4 x5 x9 (sA σ 14 x9 (1 + (if (f_Te_depthOf x4 σ) < (f_Te_depthOf x5 σ) then (f_Te_depthOf x5 σ) else (f_Te_depthOf x4 σ)))) hv hk (lv_sub hl [0, 1, 2, 3, 4, 5] rfl) hP hD hS
  have B57 : ∀ (H : Heap) (locs : List Loc) (ls : Array Slot) (x1 : Int32) (x3 : Int32) (x4 : Int32) (x5 : Int32) (x9 : Int32) (σ : St), v = f_Te_make_57 x1 x3 x4 x5 x9 σ → k_Te_make_57 x1 x3 x4 x5 x9 σ → lv_has ls 10 [(0, .ref (h 6)), (1, .int x1), (3, .int x3), (4, .int x4), (5, .int x5), (9, .int x9)] → va_P D classes (Wc ty h σ px) H → va_D A (Wc ty h σ px) → va_S A s.heap H locs → W p l e (headSpec w_Te_make rm_Te_make).room s m args below meth c H locs 0 0 (MQ below (va_Qi (fun r (u : St) => (r, u) = v) (fun u t => va_P D classes (Wc ty h u px) t.heap) A) args s 0 0 A) (F0 m 57 ls []) := by
    intro H locs ls x1 x3 x4 x5 x9 σ hv hk hl hP hD hS
    unfold f_Te_make_57 at hv
    unfold k_Te_make_57 at hk
    refine lv_aload_n hx hb d_Te_make_57 rfl (lv_at hl 0 rfl) ?_
    refine va_get (v := .ref (h 11)) (C := R_Te) (T := T_Te) (N := 14) hx hb hg in_Te hown hK hP 6 rfl rfl 4 (by decide) (hg _ m_73) (fun _ h9 => h9) rfl d_Te_make_58 ?_
    refine lv_iload hx hb d_Te_make_61 (lv_at hl 5 rfl) ?_
    refine lv_iload hx hb d_Te_make_63 (lv_at hl 4 rfl) ?_
    obtain ⟨hk0, hk⟩ := hk
    refine va_iast hx hb hK hP hD hS 11 0 rfl rfl hk0 d_Te_make_65 (fun H locs hP hD hS => ?_)
    have hP : va_P D classes (Wc ty h (sA σ 11 x9 x5) px) H := hP
    have hD : va_D A (Wc ty h (sA σ 11 x9 x5) px) := hD
    exact B66 _ _ _ x1 x3 x4 x5 x9 (sA σ 11 x9 x5) hv hk (lv_sub hl [0, 1, 2, 3, 4, 5] rfl) hP hD hS
  have B48 : ∀ (H : Heap) (locs : List Loc) (ls : Array Slot) (x1 : Int32) (x3 : Int32) (x4 : Int32) (x5 : Int32) (x9 : Int32) (σ : St), v = f_Te_make_48 x1 x3 x4 x5 x9 σ → k_Te_make_48 x1 x3 x4 x5 x9 σ → lv_has ls 10 [(0, .ref (h 6)), (1, .int x1), (3, .int x3), (4, .int x4), (5, .int x5), (9, .int x9)] → va_P D classes (Wc ty h σ px) H → va_D A (Wc ty h σ px) → va_S A s.heap H locs → W p l e (headSpec w_Te_make rm_Te_make).room s m args below meth c H locs 0 0 (MQ below (va_Qi (fun r (u : St) => (r, u) = v) (fun u t => va_P D classes (Wc ty h u px) t.heap) A) args s 0 0 A) (F0 m 48 ls []) := by
    intro H locs ls x1 x3 x4 x5 x9 σ hv hk hl hP hD hS
    unfold f_Te_make_48 at hv
    unfold k_Te_make_48 at hk
    refine lv_aload_n hx hb d_Te_make_48 rfl (lv_at hl 0 rfl) ?_
    refine va_get (v := .ref (h 10)) (C := R_Te) (T := T_Te) (N := 14) hx hb hg in_Te hown hK hP 6 rfl rfl 3 (by decide) (hg _ m_72) (fun _ h9 => h9) rfl d_Te_make_49 ?_
    refine lv_iload hx hb d_Te_make_52 (lv_at hl 5 rfl) ?_
    refine lv_iload hx hb d_Te_make_54 (lv_at hl 3 rfl) ?_
    obtain ⟨hk0, hk⟩ := hk
    refine va_iast hx hb hK hP hD hS 10 0 rfl rfl hk0 d_Te_make_56 (fun H locs hP hD hS => ?_)
    have hP : va_P D classes (Wc ty h (sA σ 10 x9 x4) px) H := hP
    have hD : va_D A (Wc ty h (sA σ 10 x9 x4) px) := hD
    exact B57 _ _ _ x1 x3 x4 x5 x9 (sA σ 10 x9 x4) hv hk (lv_sub hl [0, 1, 2, 3, 4, 5] rfl) hP hD hS
  have B46 : ∀ (H : Heap) (locs : List Loc) (ls : Array Slot) (x1 : Int32) (x3 : Int32) (x4 : Int32) (x5 : Int32) (s0 : Int32) (σ : St), v = f_Te_make_46 x1 x3 x4 x5 s0 σ → k_Te_make_46 x1 x3 x4 x5 s0 σ → lv_has ls 10 [(0, .ref (h 6)), (1, .int x1), (3, .int x3), (4, .int x4), (5, .int x5)] → va_P D classes (Wc ty h σ px) H → va_D A (Wc ty h σ px) → va_S A s.heap H locs → W p l e (headSpec w_Te_make rm_Te_make).room s m args below meth c H locs 0 0 (MQ below (va_Qi (fun r (u : St) => (r, u) = v) (fun u t => va_P D classes (Wc ty h u px) t.heap) A) args s 0 0 A) (F0 m 46 ls [.int s0]) := by
    intro H locs ls x1 x3 x4 x5 s0 σ hv hk hl hP hD hS
    unfold f_Te_make_46 at hv
    unfold k_Te_make_46 at hk
    refine lv_istore (lv' := [(9, .int s0), (0, .ref (h 6)), (1, .int x1), (3, .int x3), (4, .int x4), (5, .int x5)]) hx hb d_Te_make_46 hl (by decide) rfl (fun ls hl => ?_)
    exact B48 _ _ _ x1 x3 x4 x5 s0 σ hv hk (lv_sub hl [1, 2, 3, 4, 5, 0] rfl) hP hD hS
  have B28 : ∀ (H : Heap) (locs : List Loc) (ls : Array Slot) (x1 : Int32) (x2 : Int32) (x3 : Int32) (x4 : Int32) (x5 : Int32) (x6 : Int64) (x8 : Int32) (σ : St), v = f_Te_make_28 x1 x2 x3 x4 x5 x6 x8 σ → k_Te_make_28 x1 x2 x3 x4 x5 x6 x8 σ → lv_has ls 10 [(0, .ref (h 6)), (1, .int x1), (2, .int x2), (3, .int x3), (4, .int x4), (5, .int x5), (6, .long x6), (8, .int x8)] → va_P D classes (Wc ty h σ px) H → va_D A (Wc ty h σ px) → va_S A s.heap H locs → W p l e (headSpec w_Te_make rm_Te_make).room s m args below meth c H locs 0 0 (MQ below (va_Qi (fun r (u : St) => (r, u) = v) (fun u t => va_P D classes (Wc ty h u px) t.heap) A) args s 0 0 A) (F0 m 28 ls []) := by
    intro H locs ls x1 x2 x3 x4 x5 x6 x8 σ hv hk hl hP hD hS
    unfold f_Te_make_28 at hv
    unfold k_Te_make_28 at hk
    refine lv_iload hx hb d_Te_make_28 (lv_at hl 7 rfl) ?_
    refine lv_iconst (v := -1) hx hb d_Te_make_30 (by decide) ?_
    refine lv_icmp_eq (tgt := 37) hx hb d_Te_make_31 (by decide) (fun hc => ?_) (fun hc => ?_)
    · have hv := hv.trans (if_pos hc)
      have hk := hk.1 hc
      refine lv_aload_n hx hb d_Te_make_37 rfl (lv_at hl 0 rfl) ?_
      refine lv_lload hx hb d_Te_make_38 (lv_at hl 6 rfl) ?_
      refine lv_iload_n hx hb d_Te_make_40 rfl (lv_at hl 1 rfl) ?_
      refine lv_iload_n hx hb d_Te_make_41 rfl (lv_at hl 2 rfl) ?_
      refine lv_iload_n hx hb d_Te_make_42 rfl (lv_at hl 3 rfl) ?_
      obtain ⟨hk0, hk⟩ := hk
      refine va_calli (va_runV (As := [.long x6, .int x1, .int x2, .int x3]) (rest := []) ⟨hx, hb, hml, hown, hg⟩ (c_Te_append l D ty h px σ H.size x6 x1 x2 x3 hk0) ⟨callB_of 4 hg (gw_C m_638) rfl rfl rfl (hg _ m_3) (hg _ m_635) hd_Te_append ⟨Nat.le_of_ble_eq_true rfl, Nat.le_of_ble_eq_true rfl⟩, hg _ m_637, hg _ ms_15⟩ (zz_preVW hN hK hP hD 6 rfl rfl) rfl rfl hl.1 rfl (lv_room (Nat.le_of_ble_eq_true rfl)) d_Te_make_43 ⟨Nat.le_of_ble_eq_true rfl, Nat.le_of_ble_eq_true rfl⟩) hS (fun q _ h => zz_free hD hS hA q h) (zz_free hD hS hA) (fun r43 u43 t H locs ht hvm hp hP1 hz hk1 hS => ?_)
      rw [ht] at hP1
      rw [← hp] at hv hk
      have hD : va_D A (Wc ty h u43 px) := zz_D hD rfl
      have hP := hP1
      exact B46 _ _ _ x1 x3 x4 x5 r43 u43 hv hk (lv_sub hl [0, 1, 3, 4, 5] rfl) hP hD hS
    · have hv := hv.trans (if_neg hc)
      have hk := hk.2 hc
      refine lv_iload hx hb d_Te_make_34 (lv_at hl 7 rfl) ?_
      exact W.iret hx hb hr (fun t ht hW => ⟨⟨_, _, rfl, hv.symm, by dsimp only; rw [ht]; exact hP⟩, hS.F ht⟩) hS.2.2 d_Te_make_36
  have B11 : ∀ (H : Heap) (locs : List Loc) (ls : Array Slot) (x1 : Int32) (x2 : Int32) (x3 : Int32) (x4 : Int32) (x5 : Int32) (x6 : Int64) (σ : St), v = f_Te_make_11 x1 x2 x3 x4 x5 x6 σ → k_Te_make_11 x1 x2 x3 x4 x5 x6 σ → lv_has ls 10 [(0, .ref (h 6)), (1, .int x1), (2, .int x2), (3, .int x3), (4, .int x4), (5, .int x5), (6, .long x6)] → va_P D classes (Wc ty h σ px) H → va_D A (Wc ty h σ px) → va_S A s.heap H locs → W p l e (headSpec w_Te_make rm_Te_make).room s m args below meth c H locs 0 0 (MQ below (va_Qi (fun r (u : St) => (r, u) = v) (fun u t => va_P D classes (Wc ty h u px) t.heap) A) args s 0 0 A) (F0 m 11 ls []) := by
    intro H locs ls x1 x2 x3 x4 x5 x6 σ hv hk hl hP hD hS
    unfold f_Te_make_11 at hv
    unfold k_Te_make_11 at hk
    refine lv_aload_n hx hb d_Te_make_11 rfl (lv_at hl 0 rfl) ?_
    refine lv_lload hx hb d_Te_make_12 (lv_at hl 6 rfl) ?_
    refine lv_iload hx hb d_Te_make_14 (lv_at hl 4 rfl) ?_
    refine lv_iload hx hb d_Te_make_16 (lv_at hl 5 rfl) ?_
    refine va_mmax hx hb (hml.trans hl.1.symm) hown (hg _ m_628) (hg _ m_629) (hg _ m_14) (hg _ m_630) (Nat.le_of_ble_eq_true rfl) (Nat.le_of_ble_eq_true rfl) (Nat.le_of_ble_eq_true rfl) (Nat.le_of_ble_eq_true rfl) d_Te_make_18 ?_
    refine lv_iconst (v := 1) hx hb d_Te_make_21 (by decide) ?_
    refine lv_iadd hx hb d_Te_make_22 ?_
    obtain ⟨hk0, hk⟩ := hk
    refine zz_callV (va_runV (As := [.long x6, .int ((if x4 < x5 then x5 else x4) + 1)]) (rest := []) ⟨hx, hb, hml, hown, hg⟩ (c_Te_find l D ty h px σ x6 ((if x4 < x5 then x5 else x4) + 1) hk0) ⟨callB_of 2 hg (gw_C m_634) rfl rfl rfl (hg _ m_3) (hg _ m_631) hd_Te_find ⟨Nat.le_of_ble_eq_true rfl, Nat.le_of_ble_eq_true rfl⟩, hg _ m_633, hg _ ms_14⟩ (zz_preV hN hK hP 6 rfl rfl) rfl rfl hl.1 rfl (lv_room (Nat.le_of_ble_eq_true rfl)) d_Te_make_23 ⟨Nat.le_of_ble_eq_true rfl, Nat.le_of_ble_eq_true rfl⟩) ?_
    refine lv_istore (lv' := [(8, .int (f_Te_find x6 ((if x4 < x5 then x5 else x4) + 1) σ)), (0, .ref (h 6)), (1, .int x1), (2, .int x2), (3, .int x3), (4, .int x4), (5, .int x5), (6, .long x6)]) hx hb d_Te_make_26 hl (by decide) rfl (fun ls hl => ?_)
    exact B28 _ _ _ x1 x2 x3 x4 x5 x6 (f_Te_find x6 ((if x4 < x5 then x5 else x4) + 1) σ) σ hv hk (lv_sub hl [1, 2, 3, 4, 5, 6, 7, 0] rfl) hP hD hS
  unfold f_Te_make at hv
  unfold k_Te_make at hk
  refine lv_iload_n hx hb d_Te_make_0 rfl (lv_at hl 1 rfl) ?_
  refine lv_iload_n hx hb d_Te_make_1 rfl (lv_at hl 3 rfl) ?_
  refine lv_iload hx hb d_Te_make_2 (lv_at hl 4 rfl) ?_
  refine lv_iload hx hb d_Te_make_4 (lv_at hl 5 rfl) ?_
  obtain ⟨hk0, hk⟩ := hk
  refine zz_callV (va_runS (As := [.int a1, .int a3, .int a4, .int a5]) (rest := []) ⟨hx, hb, hml, hown, hg⟩ (c_Te_keyOf l D ty h px σ a1 a3 a4 a5 hk0) ⟨callB_of 4 hg (gw_C m_623) rfl rfl rfl (hg _ m_3) (hg _ m_621) hd_Te_keyOf ⟨Nat.le_of_ble_eq_true rfl, Nat.le_of_ble_eq_true rfl⟩, hg _ m_622⟩ (zz_preS hN hK hP) rfl rfl hl.1 rfl (lv_room (Nat.le_of_ble_eq_true rfl)) d_Te_make_6 ⟨Nat.le_of_ble_eq_true rfl, Nat.le_of_ble_eq_true rfl⟩) ?_
  refine lv_lstore (lv' := [(6, .long (f_Te_keyOf a1 a3 a4 a5 σ)), (0, .ref (h 6)), (1, .int a1), (2, .int a2), (3, .int a3), (4, .int a4), (5, .int a5)]) hx hb d_Te_make_9 hl (by decide) rfl (fun ls hl => ?_)
  exact B11 _ _ _ a1 a2 a3 a4 a5 (f_Te_keyOf a1 a3 a4 a5 σ) σ hv hk (lv_sub hl [1, 2, 3, 4, 5, 6, 0] rfl) hP hD hS

-- ClauseLedger$Terms.opposite(I)I
abbrev b_Te_opposite : ByteArray := prog_11_method_22_code
def y_Te_opposite : MethodName := ⟨"ClauseLedger$Terms", "opposite", "(I)I"⟩
theorem hd_Te_opposite : y_Te_opposite.cls ≠ "java/lang/invoke/MethodHandle" ∧ y_Te_opposite.cls ≠ "java/lang/invoke/VarHandle" ∧ (parseMethodDescriptor y_Te_opposite.desc).map (fun d => d.parameters.length) = some 1 := by decide +kernel
theorem d_Te_opposite_0 : decode b_Te_opposite 0 = .ok (.aload_n 0, 1) := by decide +kernel
theorem d_Te_opposite_1 : decode b_Te_opposite 1 = .ok (.iload_n 1, 1) := by decide +kernel
theorem d_Te_opposite_2 : decode b_Te_opposite 2 = .ok (.invokevirtual 109, 3) := by decide +kernel
theorem d_Te_opposite_5 : decode b_Te_opposite 5 = .ok (.bipush 7, 2) := by decide +kernel
theorem d_Te_opposite_7 : decode b_Te_opposite 7 = .ok (.if_icmp .ne 11, 3) := by decide +kernel
theorem d_Te_opposite_10 : decode b_Te_opposite 10 = .ok (.aload_n 0, 1) := by decide +kernel
theorem d_Te_opposite_11 : decode b_Te_opposite 11 = .ok (.iload_n 1, 1) := by decide +kernel
theorem d_Te_opposite_12 : decode b_Te_opposite 12 = .ok (.invokevirtual 112, 3) := by decide +kernel
theorem d_Te_opposite_15 : decode b_Te_opposite 15 = .ok (.goto 13, 3) := by decide +kernel
theorem d_Te_opposite_18 : decode b_Te_opposite 18 = .ok (.aload_n 0, 1) := by decide +kernel
theorem d_Te_opposite_19 : decode b_Te_opposite 19 = .ok (.bipush 7, 2) := by decide +kernel
theorem d_Te_opposite_21 : decode b_Te_opposite 21 = .ok (.iconst 0, 1) := by decide +kernel
theorem d_Te_opposite_22 : decode b_Te_opposite 22 = .ok (.iconst (-1), 1) := by decide +kernel
theorem d_Te_opposite_23 : decode b_Te_opposite 23 = .ok (.iload_n 1, 1) := by decide +kernel
theorem d_Te_opposite_24 : decode b_Te_opposite 24 = .ok (.iconst (-1), 1) := by decide +kernel
theorem d_Te_opposite_25 : decode b_Te_opposite 25 = .ok (.invokevirtual 105, 3) := by decide +kernel
theorem d_Te_opposite_28 : decode b_Te_opposite 28 = .ok (.ireturn, 1) := by decide +kernel
def f_Te_opposite_28 (s0 : Int32) (σ : St) : Int32 × St := (s0, σ)
def k_Te_opposite_28 (s0 : Int32) (σ : St) : Prop := True
def f_Te_opposite (a1 : Int32) (σ : St) : Int32 × St := if (f_Te_kindOf a1 σ) = 7 then (f_Te_opposite_28 (f_Te_firstOf a1 σ) σ) else (f_Te_opposite_28 ((f_Te_make 7 0 (-1) a1 (-1) σ).1) ((f_Te_make 7 0 (-1) a1 (-1) σ).2))
def k_Te_opposite (a1 : Int32) (σ : St) : Prop := (k_Te_kindOf a1 σ) ∧ (((f_Te_kindOf a1 σ) = 7 → ((k_Te_firstOf a1 σ) ∧ (k_Te_opposite_28 (f_Te_firstOf a1 σ) σ))) ∧ (¬ (f_Te_kindOf a1 σ) = 7 → ((k_Te_make 7 0 (-1) a1 (-1) σ) ∧ (k_Te_opposite_28 ((f_Te_make 7 0 (-1) a1 (-1) σ).1) ((f_Te_make 7 0 (-1) a1 (-1) σ).2)))))
abbrev w_Te_opposite : List Cond := Cond.code y_Te_opposite b_Te_opposite 2 (some .int) :: gw
abbrev rm_Te_opposite : Room := { frames := 3, cells := 0, slots := 0, locals := 76 }
set_option maxHeartbeats 4000000 in
set_option maxRecDepth 100000 in
theorem c_Te_opposite (l : Launch) (D : va_G) (ty : Nat → ClassId) (h : Nat → Nat) (px : va_W) (σ : St) (sz : Nat) (a1 : Int32) (hk : k_Te_opposite a1 σ) : Met l y_Te_opposite w_Te_opposite rm_Te_opposite (va_Pc [.ref (h 6), .int a1] (fun U => U.heap.size = sz ∧ va_P D classes (Wc ty h σ px) U.heap ∧ va_K D classes (Ta ty) U ∧ NW U ∧ va_D (fun _ => True) (Wc ty h σ px))) (va_Qi (fun r (u : St) => (r, u) = f_Te_opposite a1 σ) (fun u t => va_P D classes (Wc ty h u px) t.heap) (va_A (Wc ty h σ px) sz)) 0 0 (va_A (Wc ty h σ px) sz) := by
  refine Met.ofW (cc := b_Te_opposite) (maxL := 2) (ret := (some .int)) (by decide) rfl ?_
  intro p e s m args below meth c s₁ B hml hv
  obtain ⟨ha, hsz, hP, hK, hN, hD0⟩ := hv
  have hx := B.exec
  have hb := B.bytes
  have hr := B.returns
  have hg : ∀ w ∈ gw, w.before args s = true := fun w h9 => atoms_spec (ws := w_Te_opposite) B.pre w (List.mem_cons_of_mem _ h9)
  have hown : s.vm.findClass "ClauseLedger$Terms" = some m.cls := findClass_of_methodNamed B.named
  have hlocks := B.notSynchronized
  subst hsz
  have hD := hD0.self (sz := s.heap.size)
  generalize hAe : va_A (Wc ty h σ px) s.heap.size = A at hD ⊢
  have hA : ∀ q : Nat, s.heap.size ≤ q → A q := fun q h9 => by rw [← hAe]; exact Or.inr h9
  have hS : va_S A s.heap s.heap [] := va_S.rf
  have he : entryFrame m args 2 = entryFrame m ([.ref (h 6), .int a1] : List Value).toArray 2 := by rw [ha]
  rw [he, lg_entry_eq]
  have hl := lv_entry ([.ref (h 6), .int a1]) (n := 2) (Nat.le_of_ble_eq_true rfl)
  generalize (lg_sl ([.ref (h 6), .int a1]) ++ List.replicate (2 - (lg_sl ([.ref (h 6), .int a1])).length) Slot.unset).toArray = ls at hl ⊢
  have hl : lv_has ls 2 [(0, .ref (h 6)), (1, .int a1)] := hl
  generalize hv : f_Te_opposite a1 σ = v
  replace hv := hv.symm
  have B28 : ∀ (H : Heap) (locs : List Loc) (ls : Array Slot) (s0 : Int32) (σ : St), v = f_Te_opposite_28 s0 σ → k_Te_opposite_28 s0 σ → lv_has ls 2 [] → va_P D classes (Wc ty h σ px) H → va_D A (Wc ty h σ px) → va_S A s.heap H locs → W p l e (headSpec w_Te_opposite rm_Te_opposite).room s m args below meth c H locs 0 0 (MQ below (va_Qi (fun r (u : St) => (r, u) = v) (fun u t => va_P D classes (Wc ty h u px) t.heap) A) args s 0 0 A) (F0 m 28 ls [.int s0]) := by
    intro H locs ls s0 σ hv hk hl hP hD hS
    unfold f_Te_opposite_28 at hv
    unfold k_Te_opposite_28 at hk
    exact W.iret hx hb hr (fun t ht hW => ⟨⟨_, _, rfl, hv.symm, by dsimp only; rw [ht]; exact hP⟩, hS.F ht⟩) hS.2.2 d_Te_opposite_28
  unfold f_Te_opposite at hv
  unfold k_Te_opposite at hk
  refine lv_aload_n hx hb d_Te_opposite_0 rfl (lv_at hl 0 rfl) ?_
  refine lv_iload_n hx hb d_Te_opposite_1 rfl (lv_at hl 1 rfl) ?_
  obtain ⟨hk0, hk⟩ := hk
  refine zz_callV (va_runV (As := [.int a1]) (rest := []) ⟨hx, hb, hml, hown, hg⟩ (c_Te_kindOf l D ty h px σ a1 hk0) ⟨callB_of 1 hg (gw_C m_434) rfl rfl rfl (hg _ m_3) (hg _ m_978) hd_Te_kindOf ⟨Nat.le_of_ble_eq_true rfl, Nat.le_of_ble_eq_true rfl⟩, hg _ m_432, hg _ m_433⟩ (zz_preV hN hK hP 6 rfl rfl) rfl rfl hl.1 rfl (lv_room (Nat.le_of_ble_eq_true rfl)) d_Te_opposite_2 ⟨Nat.le_of_ble_eq_true rfl, Nat.le_of_ble_eq_true rfl⟩) ?_
  refine lv_bipush (v := 7) hx hb d_Te_opposite_5 (by decide) ?_
  refine lv_icmp_ne (tgt := 18) hx hb d_Te_opposite_7 (by decide) (fun hc => ?_) (fun hc => ?_)
  · have hv := hv.trans (if_neg hc)
    have hk := hk.2 hc
    refine lv_aload_n hx hb d_Te_opposite_18 rfl (lv_at hl 0 rfl) ?_
    refine lv_bipush (v := 7) hx hb d_Te_opposite_19 (by decide) ?_
    refine lv_iconst (v := 0) hx hb d_Te_opposite_21 (by decide) ?_
    refine lv_iconst (v := -1) hx hb d_Te_opposite_22 (by decide) ?_
    refine lv_iload_n hx hb d_Te_opposite_23 rfl (lv_at hl 1 rfl) ?_
    refine lv_iconst (v := -1) hx hb d_Te_opposite_24 (by decide) ?_
    obtain ⟨hk0, hk⟩ := hk
    refine va_calli (va_runV (As := [.int 7, .int 0, .int (-1), .int a1, .int (-1)]) (rest := []) ⟨hx, hb, hml, hown, hg⟩ (c_Te_make l D ty h px σ s.heap.size 7 0 (-1) a1 (-1) hk0) ⟨callB_of 5 hg (gw_C m_620) rfl rfl rfl (hg _ m_3) (hg _ m_1015) hd_Te_make ⟨Nat.le_of_ble_eq_true rfl, Nat.le_of_ble_eq_true rfl⟩, hg _ m_618, hg _ m_619⟩ (zz_preVW hN hK hP hD 6 rfl rfl) rfl rfl hl.1 rfl (lv_room (Nat.le_of_ble_eq_true rfl)) d_Te_opposite_25 ⟨Nat.le_of_ble_eq_true rfl, Nat.le_of_ble_eq_true rfl⟩) hS (fun q _ h => zz_free hD hS hA q h) (zz_free hD hS hA) (fun r25 u25 t H locs ht hvm hp hP1 hz hk1 hS => ?_)
    rw [ht] at hP1
    rw [← hp] at hv hk
    have hD : va_D A (Wc ty h u25 px) := zz_D hD rfl
    have hP := hP1
    exact B28 _ _ _ r25 u25 hv hk (lv_sub hl [] rfl) hP hD hS
  · have hv := hv.trans (if_pos hc)
    have hk := hk.1 hc
    refine lv_aload_n hx hb d_Te_opposite_10 rfl (lv_at hl 0 rfl) ?_
    refine lv_iload_n hx hb d_Te_opposite_11 rfl (lv_at hl 1 rfl) ?_
    obtain ⟨hk0, hk⟩ := hk
    refine zz_callV (va_runV (As := [.int a1]) (rest := []) ⟨hx, hb, hml, hown, hg⟩ (c_Te_firstOf l D ty h px σ a1 hk0) ⟨callB_of 1 hg (gw_C m_447) rfl rfl rfl (hg _ m_3) (hg _ m_979) hd_Te_firstOf ⟨Nat.le_of_ble_eq_true rfl, Nat.le_of_ble_eq_true rfl⟩, hg _ m_445, hg _ m_446⟩ (zz_preV hN hK hP 6 rfl rfl) rfl rfl hl.1 rfl (lv_room (Nat.le_of_ble_eq_true rfl)) d_Te_opposite_12 ⟨Nat.le_of_ble_eq_true rfl, Nat.le_of_ble_eq_true rfl⟩) ?_
    refine lv_goto (tgt := 28) hx hb d_Te_opposite_15 (by decide) ?_
    exact B28 _ _ _ (f_Te_firstOf a1 σ) σ hv hk (lv_sub hl [] rfl) hP hD hS

-- ClauseLedger.joinThree(III)Z
abbrev b_CL_joinThree : ByteArray := prog_1_method_32_code
def y_CL_joinThree : MethodName := ⟨"ClauseLedger", "joinThree", "(III)Z"⟩
theorem hd_CL_joinThree : y_CL_joinThree.cls ≠ "java/lang/invoke/MethodHandle" ∧ y_CL_joinThree.cls ≠ "java/lang/invoke/VarHandle" ∧ (parseMethodDescriptor y_CL_joinThree.desc).map (fun d => d.parameters.length) = some 3 := by decide +kernel
theorem d_CL_joinThree_0 : decode b_CL_joinThree 0 = .ok (.aload_n 0, 1) := by decide +kernel
theorem d_CL_joinThree_1 : decode b_CL_joinThree 1 = .ok (.getfield 65, 3) := by decide +kernel
theorem d_CL_joinThree_4 : decode b_CL_joinThree 4 = .ok (.iload_n 1, 1) := by decide +kernel
theorem d_CL_joinThree_5 : decode b_CL_joinThree 5 = .ok (.invokevirtual 141, 3) := by decide +kernel
theorem d_CL_joinThree_8 : decode b_CL_joinThree 8 = .ok (.aload_n 0, 1) := by decide +kernel
theorem d_CL_joinThree_9 : decode b_CL_joinThree 9 = .ok (.getfield 65, 3) := by decide +kernel
theorem d_CL_joinThree_12 : decode b_CL_joinThree 12 = .ok (.iload_n 2, 1) := by decide +kernel
theorem d_CL_joinThree_13 : decode b_CL_joinThree 13 = .ok (.invokevirtual 141, 3) := by decide +kernel
theorem d_CL_joinThree_16 : decode b_CL_joinThree 16 = .ok (.aload_n 0, 1) := by decide +kernel
theorem d_CL_joinThree_17 : decode b_CL_joinThree 17 = .ok (.getfield 65, 3) := by decide +kernel
theorem d_CL_joinThree_20 : decode b_CL_joinThree 20 = .ok (.iload_n 3, 1) := by decide +kernel
theorem d_CL_joinThree_21 : decode b_CL_joinThree 21 = .ok (.invokevirtual 141, 3) := by decide +kernel
theorem d_CL_joinThree_24 : decode b_CL_joinThree 24 = .ok (.iconst 1, 1) := by decide +kernel
theorem d_CL_joinThree_25 : decode b_CL_joinThree 25 = .ok (.ireturn, 1) := by decide +kernel
def f_CL_joinThree_24 (σ : St) : Int32 × St := (1, σ)
def k_CL_joinThree_24 (σ : St) : Prop := True
def f_CL_joinThree_16 (x3 : Int32) (σ : St) : Int32 × St := f_CL_joinThree_24 (f_Ro_join x3 σ)
def k_CL_joinThree_16 (x3 : Int32) (σ : St) : Prop := (k_Ro_join x3 σ) ∧ (k_CL_joinThree_24 (f_Ro_join x3 σ))
def f_CL_joinThree_8 (x2 : Int32) (x3 : Int32) (σ : St) : Int32 × St := f_CL_joinThree_16 x3 (f_Ro_join x2 σ)
def k_CL_joinThree_8 (x2 : Int32) (x3 : Int32) (σ : St) : Prop := (k_Ro_join x2 σ) ∧ (k_CL_joinThree_16 x3 (f_Ro_join x2 σ))
def f_CL_joinThree (a1 : Int32) (a2 : Int32) (a3 : Int32) (σ : St) : Int32 × St := f_CL_joinThree_8 a2 a3 (f_Ro_join a1 σ)
def k_CL_joinThree (a1 : Int32) (a2 : Int32) (a3 : Int32) (σ : St) : Prop := (k_Ro_join a1 σ) ∧ (k_CL_joinThree_8 a2 a3 (f_Ro_join a1 σ))
abbrev w_CL_joinThree : List Cond := Cond.code y_CL_joinThree b_CL_joinThree 4 (some .boolean) :: gw
abbrev rm_CL_joinThree : Room := { frames := 1, cells := 0, slots := 0, locals := 22 }
set_option maxHeartbeats 4000000 in
set_option maxRecDepth 100000 in
theorem c_CL_joinThree (l : Launch) (D : va_G) (ty : Nat → ClassId) (h : Nat → Nat) (px : va_W) (σ : St) (sz : Nat) (a1 : Int32) (a2 : Int32) (a3 : Int32) (hk : k_CL_joinThree a1 a2 a3 σ) : Met l y_CL_joinThree w_CL_joinThree rm_CL_joinThree (va_Pc [.ref (h 0), .int a1, .int a2, .int a3] (fun U => U.heap.size = sz ∧ va_P D classes (Wc ty h σ px) U.heap ∧ va_K D classes (Ta ty) U ∧ NW U ∧ va_D (fun _ => True) (Wc ty h σ px))) (va_Qi (fun r (u : St) => (r, u) = f_CL_joinThree a1 a2 a3 σ) (fun u t => va_P D classes (Wc ty h u px) t.heap) (va_A (Wc ty h σ px) sz)) 0 0 (va_A (Wc ty h σ px) sz) := by
  refine Met.ofW (cc := b_CL_joinThree) (maxL := 4) (ret := (some .boolean)) (by decide) rfl ?_
  intro p e s m args below meth c s₁ B hml hv
  obtain ⟨ha, hsz, hP, hK, hN, hD0⟩ := hv
  have hx := B.exec
  have hb := B.bytes
  have hr := B.returns
  have hg : ∀ w ∈ gw, w.before args s = true := fun w h9 => atoms_spec (ws := w_CL_joinThree) B.pre w (List.mem_cons_of_mem _ h9)
  have hown : s.vm.findClass "ClauseLedger" = some m.cls := findClass_of_methodNamed B.named
  have hlocks := B.notSynchronized
  subst hsz
  have hD := hD0.self (sz := s.heap.size)
  generalize hAe : va_A (Wc ty h σ px) s.heap.size = A at hD ⊢
  have hA : ∀ q : Nat, s.heap.size ≤ q → A q := fun q h9 => by rw [← hAe]; exact Or.inr h9
  have hS : va_S A s.heap s.heap [] := va_S.rf
  have he : entryFrame m args 4 = entryFrame m ([.ref (h 0), .int a1, .int a2, .int a3] : List Value).toArray 4 := by rw [ha]
  rw [he, lg_entry_eq]
  have hl := lv_entry ([.ref (h 0), .int a1, .int a2, .int a3]) (n := 4) (Nat.le_of_ble_eq_true rfl)
  generalize (lg_sl ([.ref (h 0), .int a1, .int a2, .int a3]) ++ List.replicate (4 - (lg_sl ([.ref (h 0), .int a1, .int a2, .int a3])).length) Slot.unset).toArray = ls at hl ⊢
  have hl : lv_has ls 4 [(0, .ref (h 0)), (1, .int a1), (2, .int a2), (3, .int a3)] := hl
  generalize hv : f_CL_joinThree a1 a2 a3 σ = v
  replace hv := hv.symm
  have B24 : ∀ (H : Heap) (locs : List Loc) (ls : Array Slot) (σ : St), v = f_CL_joinThree_24 σ → k_CL_joinThree_24 σ → lv_has ls 4 [] → va_P D classes (Wc ty h σ px) H → va_D A (Wc ty h σ px) → va_S A s.heap H locs → W p l e (headSpec w_CL_joinThree rm_CL_joinThree).room s m args below meth c H locs 0 0 (MQ below (va_Qi (fun r (u : St) => (r, u) = v) (fun u t => va_P D classes (Wc ty h u px) t.heap) A) args s 0 0 A) (F0 m 24 ls []) := by
    intro H locs ls σ hv hk hl hP hD hS
    unfold f_CL_joinThree_24 at hv
    unfold k_CL_joinThree_24 at hk
    refine lv_iconst (v := 1) hx hb d_CL_joinThree_24 (by decide) ?_
    exact W.zret hx hb hr rfl (fun t ht hW => ⟨⟨_, _, rfl, hv.symm, by dsimp only; rw [ht]; exact hP⟩, hS.F ht⟩) hS.2.2 d_CL_joinThree_25
  have B16 : ∀ (H : Heap) (locs : List Loc) (ls : Array Slot) (x3 : Int32) (σ : St), v = f_CL_joinThree_16 x3 σ → k_CL_joinThree_16 x3 σ → lv_has ls 4 [(0, .ref (h 0)), (3, .int x3)] → va_P D classes (Wc ty h σ px) H → va_D A (Wc ty h σ px) → va_S A s.heap H locs → W p l e (headSpec w_CL_joinThree rm_CL_joinThree).room s m args below meth c H locs 0 0 (MQ below (va_Qi (fun r (u : St) => (r, u) = v) (fun u t => va_P D classes (Wc ty h u px) t.heap) A) args s 0 0 A) (F0 m 16 ls []) := by
    intro H locs ls x3 σ hv hk hl hP hD hS
    unfold f_CL_joinThree_16 at hv
    unfold k_CL_joinThree_16 at hk
    refine lv_aload_n hx hb d_CL_joinThree_16 rfl (lv_at hl 0 rfl) ?_
    refine va_get (v := .ref (h 25)) (C := R_CL) (T := T_CL) (N := 11) hx hb hg in_CL hown hK hP 0 rfl rfl 7 (by decide) (hg _ m_291) (fun _ h9 => h9) rfl d_CL_joinThree_17 ?_
    refine lv_iload_n hx hb d_CL_joinThree_20 rfl (lv_at hl 1 rfl) ?_
    obtain ⟨hk0, hk⟩ := hk
    refine va_callv (va_runV (As := [.int x3]) (rest := []) ⟨hx, hb, hml, hown, hg⟩ (c_Ro_join l D ty h px σ H.size x3 hk0) ⟨callB_of 1 hg (gw_C m_939) rfl rfl rfl (hg _ m_10) (hg _ m_936) hd_Ro_join ⟨Nat.le_of_ble_eq_true rfl, Nat.le_of_ble_eq_true rfl⟩, hg _ m_937, hg _ m_938⟩ (zz_preVW hN hK hP hD 25 rfl rfl) rfl rfl hl.1 rfl (lv_room (Nat.le_of_ble_eq_true rfl)) d_CL_joinThree_21 ⟨Nat.le_of_ble_eq_true rfl, Nat.le_of_ble_eq_true rfl⟩) hS (fun q _ h => zz_free hD hS hA q h) (zz_free hD hS hA) (fun u21 t H locs ht hvm hp hP1 hz hk1 hS => ?_)
    rw [ht] at hP1
    rw [← hp] at hv hk
    have hD : va_D A (Wc ty h u21 px) := zz_D hD rfl
    have hP := hP1
    exact B24 _ _ _  u21 hv hk (lv_sub hl [] rfl) hP hD hS
  have B8 : ∀ (H : Heap) (locs : List Loc) (ls : Array Slot) (x2 : Int32) (x3 : Int32) (σ : St), v = f_CL_joinThree_8 x2 x3 σ → k_CL_joinThree_8 x2 x3 σ → lv_has ls 4 [(0, .ref (h 0)), (2, .int x2), (3, .int x3)] → va_P D classes (Wc ty h σ px) H → va_D A (Wc ty h σ px) → va_S A s.heap H locs → W p l e (headSpec w_CL_joinThree rm_CL_joinThree).room s m args below meth c H locs 0 0 (MQ below (va_Qi (fun r (u : St) => (r, u) = v) (fun u t => va_P D classes (Wc ty h u px) t.heap) A) args s 0 0 A) (F0 m 8 ls []) := by
    intro H locs ls x2 x3 σ hv hk hl hP hD hS
    unfold f_CL_joinThree_8 at hv
    unfold k_CL_joinThree_8 at hk
    refine lv_aload_n hx hb d_CL_joinThree_8 rfl (lv_at hl 0 rfl) ?_
    refine va_get (v := .ref (h 25)) (C := R_CL) (T := T_CL) (N := 11) hx hb hg in_CL hown hK hP 0 rfl rfl 7 (by decide) (hg _ m_291) (fun _ h9 => h9) rfl d_CL_joinThree_9 ?_
    refine lv_iload_n hx hb d_CL_joinThree_12 rfl (lv_at hl 1 rfl) ?_
    obtain ⟨hk0, hk⟩ := hk
    refine va_callv (va_runV (As := [.int x2]) (rest := []) ⟨hx, hb, hml, hown, hg⟩ (c_Ro_join l D ty h px σ H.size x2 hk0) ⟨callB_of 1 hg (gw_C m_939) rfl rfl rfl (hg _ m_10) (hg _ m_936) hd_Ro_join ⟨Nat.le_of_ble_eq_true rfl, Nat.le_of_ble_eq_true rfl⟩, hg _ m_937, hg _ m_938⟩ (zz_preVW hN hK hP hD 25 rfl rfl) rfl rfl hl.1 rfl (lv_room (Nat.le_of_ble_eq_true rfl)) d_CL_joinThree_13 ⟨Nat.le_of_ble_eq_true rfl, Nat.le_of_ble_eq_true rfl⟩) hS (fun q _ h => zz_free hD hS hA q h) (zz_free hD hS hA) (fun u13 t H locs ht hvm hp hP1 hz hk1 hS => ?_)
    rw [ht] at hP1
    rw [← hp] at hv hk
    have hD : va_D A (Wc ty h u13 px) := zz_D hD rfl
    have hP := hP1
    exact B16 _ _ _ x3 u13 hv hk (lv_sub hl [0, 2] rfl) hP hD hS
  unfold f_CL_joinThree at hv
  unfold k_CL_joinThree at hk
  refine lv_aload_n hx hb d_CL_joinThree_0 rfl (lv_at hl 0 rfl) ?_
  refine va_get (v := .ref (h 25)) (C := R_CL) (T := T_CL) (N := 11) hx hb hg in_CL hown hK hP 0 rfl rfl 7 (by decide) (hg _ m_291) (fun _ h9 => h9) rfl d_CL_joinThree_1 ?_
  refine lv_iload_n hx hb d_CL_joinThree_4 rfl (lv_at hl 1 rfl) ?_
  obtain ⟨hk0, hk⟩ := hk
  refine va_callv (va_runV (As := [.int a1]) (rest := []) ⟨hx, hb, hml, hown, hg⟩ (c_Ro_join l D ty h px σ s.heap.size a1 hk0) ⟨callB_of 1 hg (gw_C m_939) rfl rfl rfl (hg _ m_10) (hg _ m_936) hd_Ro_join ⟨Nat.le_of_ble_eq_true rfl, Nat.le_of_ble_eq_true rfl⟩, hg _ m_937, hg _ m_938⟩ (zz_preVW hN hK hP hD 25 rfl rfl) rfl rfl hl.1 rfl (lv_room (Nat.le_of_ble_eq_true rfl)) d_CL_joinThree_5 ⟨Nat.le_of_ble_eq_true rfl, Nat.le_of_ble_eq_true rfl⟩) hS (fun q _ h => zz_free hD hS hA q h) (zz_free hD hS hA) (fun u5 t H locs ht hvm hp hP1 hz hk1 hS => ?_)
  rw [ht] at hP1
  rw [← hp] at hv hk
  have hD : va_D A (Wc ty h u5 px) := zz_D hD rfl
  have hP := hP1
  exact B8 _ _ _ a2 a3 u5 hv hk (lv_sub hl [0, 2, 3] rfl) hP hD hS

-- ClauseLedger.joinMeaningOfAnd(IIII)Z
abbrev b_CL_joinMeaningOfAnd : ByteArray := prog_1_method_29_code
def y_CL_joinMeaningOfAnd : MethodName := ⟨"ClauseLedger", "joinMeaningOfAnd", "(IIII)Z"⟩
theorem hd_CL_joinMeaningOfAnd : y_CL_joinMeaningOfAnd.cls ≠ "java/lang/invoke/MethodHandle" ∧ y_CL_joinMeaningOfAnd.cls ≠ "java/lang/invoke/VarHandle" ∧ (parseMethodDescriptor y_CL_joinMeaningOfAnd.desc).map (fun d => d.parameters.length) = some 4 := by decide +kernel
theorem d_CL_joinMeaningOfAnd_0 : decode b_CL_joinMeaningOfAnd 0 = .ok (.iload 4, 2) := by decide +kernel
theorem d_CL_joinMeaningOfAnd_2 : decode b_CL_joinMeaningOfAnd 2 = .ok (.tableswitch 78 0 2 #[26, 41, 56], 26) := by decide +kernel
theorem d_CL_joinMeaningOfAnd_28 : decode b_CL_joinMeaningOfAnd 28 = .ok (.aload_n 0, 1) := by decide +kernel
theorem d_CL_joinMeaningOfAnd_29 : decode b_CL_joinMeaningOfAnd 29 = .ok (.aload_n 0, 1) := by decide +kernel
theorem d_CL_joinMeaningOfAnd_30 : decode b_CL_joinMeaningOfAnd 30 = .ok (.getfield 19, 3) := by decide +kernel
theorem d_CL_joinMeaningOfAnd_33 : decode b_CL_joinMeaningOfAnd 33 = .ok (.iload_n 1, 1) := by decide +kernel
theorem d_CL_joinMeaningOfAnd_34 : decode b_CL_joinMeaningOfAnd 34 = .ok (.invokevirtual 182, 3) := by decide +kernel
theorem d_CL_joinMeaningOfAnd_37 : decode b_CL_joinMeaningOfAnd 37 = .ok (.iload_n 2, 1) := by decide +kernel
theorem d_CL_joinMeaningOfAnd_38 : decode b_CL_joinMeaningOfAnd 38 = .ok (.iconst (-1), 1) := by decide +kernel
theorem d_CL_joinMeaningOfAnd_39 : decode b_CL_joinMeaningOfAnd 39 = .ok (.invokevirtual 284, 3) := by decide +kernel
theorem d_CL_joinMeaningOfAnd_42 : decode b_CL_joinMeaningOfAnd 42 = .ok (.ireturn, 1) := by decide +kernel
theorem d_CL_joinMeaningOfAnd_43 : decode b_CL_joinMeaningOfAnd 43 = .ok (.aload_n 0, 1) := by decide +kernel
theorem d_CL_joinMeaningOfAnd_44 : decode b_CL_joinMeaningOfAnd 44 = .ok (.aload_n 0, 1) := by decide +kernel
theorem d_CL_joinMeaningOfAnd_45 : decode b_CL_joinMeaningOfAnd 45 = .ok (.getfield 19, 3) := by decide +kernel
theorem d_CL_joinMeaningOfAnd_48 : decode b_CL_joinMeaningOfAnd 48 = .ok (.iload_n 1, 1) := by decide +kernel
theorem d_CL_joinMeaningOfAnd_49 : decode b_CL_joinMeaningOfAnd 49 = .ok (.invokevirtual 182, 3) := by decide +kernel
theorem d_CL_joinMeaningOfAnd_52 : decode b_CL_joinMeaningOfAnd 52 = .ok (.iload_n 3, 1) := by decide +kernel
theorem d_CL_joinMeaningOfAnd_53 : decode b_CL_joinMeaningOfAnd 53 = .ok (.iconst (-1), 1) := by decide +kernel
theorem d_CL_joinMeaningOfAnd_54 : decode b_CL_joinMeaningOfAnd 54 = .ok (.invokevirtual 284, 3) := by decide +kernel
theorem d_CL_joinMeaningOfAnd_57 : decode b_CL_joinMeaningOfAnd 57 = .ok (.ireturn, 1) := by decide +kernel
theorem d_CL_joinMeaningOfAnd_58 : decode b_CL_joinMeaningOfAnd 58 = .ok (.aload_n 0, 1) := by decide +kernel
theorem d_CL_joinMeaningOfAnd_59 : decode b_CL_joinMeaningOfAnd 59 = .ok (.iload_n 1, 1) := by decide +kernel
theorem d_CL_joinMeaningOfAnd_60 : decode b_CL_joinMeaningOfAnd 60 = .ok (.aload_n 0, 1) := by decide +kernel
theorem d_CL_joinMeaningOfAnd_61 : decode b_CL_joinMeaningOfAnd 61 = .ok (.getfield 19, 3) := by decide +kernel
theorem d_CL_joinMeaningOfAnd_64 : decode b_CL_joinMeaningOfAnd 64 = .ok (.iload_n 2, 1) := by decide +kernel
theorem d_CL_joinMeaningOfAnd_65 : decode b_CL_joinMeaningOfAnd 65 = .ok (.invokevirtual 182, 3) := by decide +kernel
theorem d_CL_joinMeaningOfAnd_68 : decode b_CL_joinMeaningOfAnd 68 = .ok (.aload_n 0, 1) := by decide +kernel
theorem d_CL_joinMeaningOfAnd_69 : decode b_CL_joinMeaningOfAnd 69 = .ok (.getfield 19, 3) := by decide +kernel
theorem d_CL_joinMeaningOfAnd_72 : decode b_CL_joinMeaningOfAnd 72 = .ok (.iload_n 3, 1) := by decide +kernel
theorem d_CL_joinMeaningOfAnd_73 : decode b_CL_joinMeaningOfAnd 73 = .ok (.invokevirtual 182, 3) := by decide +kernel
theorem d_CL_joinMeaningOfAnd_76 : decode b_CL_joinMeaningOfAnd 76 = .ok (.invokevirtual 284, 3) := by decide +kernel
theorem d_CL_joinMeaningOfAnd_79 : decode b_CL_joinMeaningOfAnd 79 = .ok (.ireturn, 1) := by decide +kernel
theorem d_CL_joinMeaningOfAnd_80 : decode b_CL_joinMeaningOfAnd 80 = .ok (.iconst 0, 1) := by decide +kernel
theorem d_CL_joinMeaningOfAnd_81 : decode b_CL_joinMeaningOfAnd 81 = .ok (.ireturn, 1) := by decide +kernel
def f_CL_joinMeaningOfAnd_42 (s0 : Int32) (σ : St) : Int32 × St := (s0, σ)
def k_CL_joinMeaningOfAnd_42 (s0 : Int32) (σ : St) : Prop := (narrow .boolean (.int s0) = .int s0) ∧ True
def f_CL_joinMeaningOfAnd_37 (x2 : Int32) (s0 : Int32) (σ : St) : Int32 × St := f_CL_joinMeaningOfAnd_42 ((f_CL_joinThree s0 x2 (-1) σ).1) ((f_CL_joinThree s0 x2 (-1) σ).2)
def k_CL_joinMeaningOfAnd_37 (x2 : Int32) (s0 : Int32) (σ : St) : Prop := (k_CL_joinThree s0 x2 (-1) σ) ∧ (k_CL_joinMeaningOfAnd_42 ((f_CL_joinThree s0 x2 (-1) σ).1) ((f_CL_joinThree s0 x2 (-1) σ).2))
def f_CL_joinMeaningOfAnd_57 (s0 : Int32) (σ : St) : Int32 × St := (s0, σ)
def k_CL_joinMeaningOfAnd_57 (s0 : Int32) (σ : St) : Prop := (narrow .boolean (.int s0) = .int s0) ∧ True
def f_CL_joinMeaningOfAnd_52 (x3 : Int32) (s0 : Int32) (σ : St) : Int32 × St := f_CL_joinMeaningOfAnd_57 ((f_CL_joinThree s0 x3 (-1) σ).1) ((f_CL_joinThree s0 x3 (-1) σ).2)
def k_CL_joinMeaningOfAnd_52 (x3 : Int32) (s0 : Int32) (σ : St) : Prop := (k_CL_joinThree s0 x3 (-1) σ) ∧ (k_CL_joinMeaningOfAnd_57 ((f_CL_joinThree s0 x3 (-1) σ).1) ((f_CL_joinThree s0 x3 (-1) σ).2))
def f_CL_joinMeaningOfAnd_79 (s0 : Int32) (σ : St) : Int32 × St := (s0, σ)
def k_CL_joinMeaningOfAnd_79 (s0 : Int32) (σ : St) : Prop := (narrow .boolean (.int s0) = .int s0) ∧ True
def f_CL_joinMeaningOfAnd_76 (s0 : Int32) (s1 : Int32) (s2 : Int32) (σ : St) : Int32 × St := f_CL_joinMeaningOfAnd_79 ((f_CL_joinThree s2 s1 s0 σ).1) ((f_CL_joinThree s2 s1 s0 σ).2)
def k_CL_joinMeaningOfAnd_76 (s0 : Int32) (s1 : Int32) (s2 : Int32) (σ : St) : Prop := (k_CL_joinThree s2 s1 s0 σ) ∧ (k_CL_joinMeaningOfAnd_79 ((f_CL_joinThree s2 s1 s0 σ).1) ((f_CL_joinThree s2 s1 s0 σ).2))
def f_CL_joinMeaningOfAnd_68 (x3 : Int32) (s0 : Int32) (s1 : Int32) (σ : St) : Int32 × St := f_CL_joinMeaningOfAnd_76 ((f_Te_opposite x3 σ).1) s0 s1 ((f_Te_opposite x3 σ).2)
def k_CL_joinMeaningOfAnd_68 (x3 : Int32) (s0 : Int32) (s1 : Int32) (σ : St) : Prop := (k_Te_opposite x3 σ) ∧ (k_CL_joinMeaningOfAnd_76 ((f_Te_opposite x3 σ).1) s0 s1 ((f_Te_opposite x3 σ).2))
def f_CL_joinMeaningOfAnd (a1 : Int32) (a2 : Int32) (a3 : Int32) (a4 : Int32) (σ : St) : Int32 × St := if a4 = 0 then (f_CL_joinMeaningOfAnd_37 a2 ((f_Te_opposite a1 σ).1) ((f_Te_opposite a1 σ).2)) else (if a4 = 1 then (f_CL_joinMeaningOfAnd_52 a3 ((f_Te_opposite a1 σ).1) ((f_Te_opposite a1 σ).2)) else (if a4 = 2 then (f_CL_joinMeaningOfAnd_68 a3 ((f_Te_opposite a2 σ).1) a1 ((f_Te_opposite a2 σ).2)) else (0, σ)))
def k_CL_joinMeaningOfAnd (a1 : Int32) (a2 : Int32) (a3 : Int32) (a4 : Int32) (σ : St) : Prop := (a4 = 0 → ((k_Te_opposite a1 σ) ∧ (k_CL_joinMeaningOfAnd_37 a2 ((f_Te_opposite a1 σ).1) ((f_Te_opposite a1 σ).2)))) ∧ (¬ a4 = 0 → ((a4 = 1 → ((k_Te_opposite a1 σ) ∧ (k_CL_joinMeaningOfAnd_52 a3 ((f_Te_opposite a1 σ).1) ((f_Te_opposite a1 σ).2)))) ∧ (¬ a4 = 1 → ((a4 = 2 → ((k_Te_opposite a2 σ) ∧ (k_CL_joinMeaningOfAnd_68 a3 ((f_Te_opposite a2 σ).1) a1 ((f_Te_opposite a2 σ).2)))) ∧ (¬ a4 = 2 → True)))))
abbrev w_CL_joinMeaningOfAnd : List Cond := Cond.code y_CL_joinMeaningOfAnd b_CL_joinMeaningOfAnd 5 (some .boolean) :: gw
abbrev rm_CL_joinMeaningOfAnd : Room := { frames := 4, cells := 0, slots := 0, locals := 97 }
set_option maxHeartbeats 4000000 in
set_option maxRecDepth 100000 in
theorem c_CL_joinMeaningOfAnd (l : Launch) (D : va_G) (ty : Nat → ClassId) (h : Nat → Nat) (px : va_W) (σ : St) (sz : Nat) (a1 : Int32) (a2 : Int32) (a3 : Int32) (a4 : Int32) (hk : k_CL_joinMeaningOfAnd a1 a2 a3 a4 σ) : Met l y_CL_joinMeaningOfAnd w_CL_joinMeaningOfAnd rm_CL_joinMeaningOfAnd (va_Pc [.ref (h 0), .int a1, .int a2, .int a3, .int a4] (fun U => U.heap.size = sz ∧ va_P D classes (Wc ty h σ px) U.heap ∧ va_K D classes (Ta ty) U ∧ NW U ∧ va_D (fun _ => True) (Wc ty h σ px))) (va_Qi (fun r (u : St) => (r, u) = f_CL_joinMeaningOfAnd a1 a2 a3 a4 σ) (fun u t => va_P D classes (Wc ty h u px) t.heap) (va_A (Wc ty h σ px) sz)) 0 0 (va_A (Wc ty h σ px) sz) := by
  refine Met.ofW (cc := b_CL_joinMeaningOfAnd) (maxL := 5) (ret := (some .boolean)) (by decide) rfl ?_
  intro p e s m args below meth c s₁ B hml hv
  obtain ⟨ha, hsz, hP, hK, hN, hD0⟩ := hv
  have hx := B.exec
  have hb := B.bytes
  have hr := B.returns
  have hg : ∀ w ∈ gw, w.before args s = true := fun w h9 => atoms_spec (ws := w_CL_joinMeaningOfAnd) B.pre w (List.mem_cons_of_mem _ h9)
  have hown : s.vm.findClass "ClauseLedger" = some m.cls := findClass_of_methodNamed B.named
  have hlocks := B.notSynchronized
  subst hsz
  have hD := hD0.self (sz := s.heap.size)
  generalize hAe : va_A (Wc ty h σ px) s.heap.size = A at hD ⊢
  have hA : ∀ q : Nat, s.heap.size ≤ q → A q := fun q h9 => by rw [← hAe]; exact Or.inr h9
  have hS : va_S A s.heap s.heap [] := va_S.rf
  have he : entryFrame m args 5 = entryFrame m ([.ref (h 0), .int a1, .int a2, .int a3, .int a4] : List Value).toArray 5 := by rw [ha]
  rw [he, lg_entry_eq]
  have hl := lv_entry ([.ref (h 0), .int a1, .int a2, .int a3, .int a4]) (n := 5) (Nat.le_of_ble_eq_true rfl)
  generalize (lg_sl ([.ref (h 0), .int a1, .int a2, .int a3, .int a4]) ++ List.replicate (5 - (lg_sl ([.ref (h 0), .int a1, .int a2, .int a3, .int a4])).length) Slot.unset).toArray = ls at hl ⊢
  have hl : lv_has ls 5 [(0, .ref (h 0)), (1, .int a1), (2, .int a2), (3, .int a3), (4, .int a4)] := hl
  generalize hv : f_CL_joinMeaningOfAnd a1 a2 a3 a4 σ = v
  replace hv := hv.symm
  have B42 : ∀ (H : Heap) (locs : List Loc) (ls : Array Slot) (s0 : Int32) (σ : St), v = f_CL_joinMeaningOfAnd_42 s0 σ → k_CL_joinMeaningOfAnd_42 s0 σ → lv_has ls 5 [] → va_P D classes (Wc ty h σ px) H → va_D A (Wc ty h σ px) → va_S A s.heap H locs → W p l e (headSpec w_CL_joinMeaningOfAnd rm_CL_joinMeaningOfAnd).room s m args below meth c H locs 0 0 (MQ below (va_Qi (fun r (u : St) => (r, u) = v) (fun u t => va_P D classes (Wc ty h u px) t.heap) A) args s 0 0 A) (F0 m 42 ls [.int s0]) := by
    intro H locs ls s0 σ hv hk hl hP hD hS
    unfold f_CL_joinMeaningOfAnd_42 at hv
    unfold k_CL_joinMeaningOfAnd_42 at hk
    obtain ⟨hk0, hk⟩ := hk
    exact W.zret hx hb hr hk0 (fun t ht hW => ⟨⟨_, _, rfl, hv.symm, by dsimp only; rw [ht]; exact hP⟩, hS.F ht⟩) hS.2.2 d_CL_joinMeaningOfAnd_42
  have B37 : ∀ (H : Heap) (locs : List Loc) (ls : Array Slot) (x2 : Int32) (s0 : Int32) (σ : St), v = f_CL_joinMeaningOfAnd_37 x2 s0 σ → k_CL_joinMeaningOfAnd_37 x2 s0 σ → lv_has ls 5 [(2, .int x2)] → va_P D classes (Wc ty h σ px) H → va_D A (Wc ty h σ px) → va_S A s.heap H locs → W p l e (headSpec w_CL_joinMeaningOfAnd rm_CL_joinMeaningOfAnd).room s m args below meth c H locs 0 0 (MQ below (va_Qi (fun r (u : St) => (r, u) = v) (fun u t => va_P D classes (Wc ty h u px) t.heap) A) args s 0 0 A) (F0 m 37 ls [.int s0, .ref (h 0)]) := by
    intro H locs ls x2 s0 σ hv hk hl hP hD hS
    unfold f_CL_joinMeaningOfAnd_37 at hv
    unfold k_CL_joinMeaningOfAnd_37 at hk
    refine lv_iload_n hx hb d_CL_joinMeaningOfAnd_37 rfl (lv_at hl 0 rfl) ?_
    refine lv_iconst (v := -1) hx hb d_CL_joinMeaningOfAnd_38 (by decide) ?_
    obtain ⟨hk0, hk⟩ := hk
    refine va_calli (va_runV (As := [.int s0, .int x2, .int (-1)]) (rest := []) ⟨hx, hb, hml, hown, hg⟩ (c_CL_joinThree l D ty h px σ H.size s0 x2 (-1) hk0) ⟨callB_of 3 hg (gw_C m_1019) rfl rfl rfl (hg _ m_1) (hg _ m_1016) hd_CL_joinThree ⟨Nat.le_of_ble_eq_true rfl, Nat.le_of_ble_eq_true rfl⟩, hg _ m_1018, hg _ ms_34⟩ (zz_preVW hN hK hP hD 0 rfl rfl) rfl rfl hl.1 rfl (lv_room (Nat.le_of_ble_eq_true rfl)) d_CL_joinMeaningOfAnd_39 ⟨Nat.le_of_ble_eq_true rfl, Nat.le_of_ble_eq_true rfl⟩) hS (fun q _ h => zz_free hD hS hA q h) (zz_free hD hS hA) (fun r39 u39 t H locs ht hvm hp hP1 hz hk1 hS => ?_)
    rw [ht] at hP1
    rw [← hp] at hv hk
    have hD : va_D A (Wc ty h u39 px) := zz_D hD rfl
    have hP := hP1
    exact B42 _ _ _ r39 u39 hv hk (lv_sub hl [] rfl) hP hD hS
  have B57 : ∀ (H : Heap) (locs : List Loc) (ls : Array Slot) (s0 : Int32) (σ : St), v = f_CL_joinMeaningOfAnd_57 s0 σ → k_CL_joinMeaningOfAnd_57 s0 σ → lv_has ls 5 [] → va_P D classes (Wc ty h σ px) H → va_D A (Wc ty h σ px) → va_S A s.heap H locs → W p l e (headSpec w_CL_joinMeaningOfAnd rm_CL_joinMeaningOfAnd).room s m args below meth c H locs 0 0 (MQ below (va_Qi (fun r (u : St) => (r, u) = v) (fun u t => va_P D classes (Wc ty h u px) t.heap) A) args s 0 0 A) (F0 m 57 ls [.int s0]) := by
    intro H locs ls s0 σ hv hk hl hP hD hS
    unfold f_CL_joinMeaningOfAnd_57 at hv
    unfold k_CL_joinMeaningOfAnd_57 at hk
    obtain ⟨hk0, hk⟩ := hk
    exact W.zret hx hb hr hk0 (fun t ht hW => ⟨⟨_, _, rfl, hv.symm, by dsimp only; rw [ht]; exact hP⟩, hS.F ht⟩) hS.2.2 d_CL_joinMeaningOfAnd_57
  have B52 : ∀ (H : Heap) (locs : List Loc) (ls : Array Slot) (x3 : Int32) (s0 : Int32) (σ : St), v = f_CL_joinMeaningOfAnd_52 x3 s0 σ → k_CL_joinMeaningOfAnd_52 x3 s0 σ → lv_has ls 5 [(3, .int x3)] → va_P D classes (Wc ty h σ px) H → va_D A (Wc ty h σ px) → va_S A s.heap H locs → W p l e (headSpec w_CL_joinMeaningOfAnd rm_CL_joinMeaningOfAnd).room s m args below meth c H locs 0 0 (MQ below (va_Qi (fun r (u : St) => (r, u) = v) (fun u t => va_P D classes (Wc ty h u px) t.heap) A) args s 0 0 A) (F0 m 52 ls [.int s0, .ref (h 0)]) := by
    intro H locs ls x3 s0 σ hv hk hl hP hD hS
    unfold f_CL_joinMeaningOfAnd_52 at hv
    unfold k_CL_joinMeaningOfAnd_52 at hk
    refine lv_iload_n hx hb d_CL_joinMeaningOfAnd_52 rfl (lv_at hl 0 rfl) ?_
    refine lv_iconst (v := -1) hx hb d_CL_joinMeaningOfAnd_53 (by decide) ?_
    obtain ⟨hk0, hk⟩ := hk
    refine va_calli (va_runV (As := [.int s0, .int x3, .int (-1)]) (rest := []) ⟨hx, hb, hml, hown, hg⟩ (c_CL_joinThree l D ty h px σ H.size s0 x3 (-1) hk0) ⟨callB_of 3 hg (gw_C m_1019) rfl rfl rfl (hg _ m_1) (hg _ m_1016) hd_CL_joinThree ⟨Nat.le_of_ble_eq_true rfl, Nat.le_of_ble_eq_true rfl⟩, hg _ m_1018, hg _ ms_34⟩ (zz_preVW hN hK hP hD 0 rfl rfl) rfl rfl hl.1 rfl (lv_room (Nat.le_of_ble_eq_true rfl)) d_CL_joinMeaningOfAnd_54 ⟨Nat.le_of_ble_eq_true rfl, Nat.le_of_ble_eq_true rfl⟩) hS (fun q _ h => zz_free hD hS hA q h) (zz_free hD hS hA) (fun r54 u54 t H locs ht hvm hp hP1 hz hk1 hS => ?_)
    rw [ht] at hP1
    rw [← hp] at hv hk
    have hD : va_D A (Wc ty h u54 px) := zz_D hD rfl
    have hP := hP1
    exact B57 _ _ _ r54 u54 hv hk (lv_sub hl [] rfl) hP hD hS
  have B79 : ∀ (H : Heap) (locs : List Loc) (ls : Array Slot) (s0 : Int32) (σ : St), v = f_CL_joinMeaningOfAnd_79 s0 σ → k_CL_joinMeaningOfAnd_79 s0 σ → lv_has ls 5 [] → va_P D classes (Wc ty h σ px) H → va_D A (Wc ty h σ px) → va_S A s.heap H locs → W p l e (headSpec w_CL_joinMeaningOfAnd rm_CL_joinMeaningOfAnd).room s m args below meth c H locs 0 0 (MQ below (va_Qi (fun r (u : St) => (r, u) = v) (fun u t => va_P D classes (Wc ty h u px) t.heap) A) args s 0 0 A) (F0 m 79 ls [.int s0]) := by
    intro H locs ls s0 σ hv hk hl hP hD hS
    unfold f_CL_joinMeaningOfAnd_79 at hv
    unfold k_CL_joinMeaningOfAnd_79 at hk
    obtain ⟨hk0, hk⟩ := hk
    exact W.zret hx hb hr hk0 (fun t ht hW => ⟨⟨_, _, rfl, hv.symm, by dsimp only; rw [ht]; exact hP⟩, hS.F ht⟩) hS.2.2 d_CL_joinMeaningOfAnd_79
  have B76 : ∀ (H : Heap) (locs : List Loc) (ls : Array Slot) (s0 : Int32) (s1 : Int32) (s2 : Int32) (σ : St), v = f_CL_joinMeaningOfAnd_76 s0 s1 s2 σ → k_CL_joinMeaningOfAnd_76 s0 s1 s2 σ → lv_has ls 5 [] → va_P D classes (Wc ty h σ px) H → va_D A (Wc ty h σ px) → va_S A s.heap H locs → W p l e (headSpec w_CL_joinMeaningOfAnd rm_CL_joinMeaningOfAnd).room s m args below meth c H locs 0 0 (MQ below (va_Qi (fun r (u : St) => (r, u) = v) (fun u t => va_P D classes (Wc ty h u px) t.heap) A) args s 0 0 A) (F0 m 76 ls [.int s0, .int s1, .int s2, .ref (h 0)]) := by
    intro H locs ls s0 s1 s2 σ hv hk hl hP hD hS
    unfold f_CL_joinMeaningOfAnd_76 at hv
    unfold k_CL_joinMeaningOfAnd_76 at hk
    obtain ⟨hk0, hk⟩ := hk
    refine va_calli (va_runV (As := [.int s2, .int s1, .int s0]) (rest := []) ⟨hx, hb, hml, hown, hg⟩ (c_CL_joinThree l D ty h px σ H.size s2 s1 s0 hk0) ⟨callB_of 3 hg (gw_C m_1019) rfl rfl rfl (hg _ m_1) (hg _ m_1016) hd_CL_joinThree ⟨Nat.le_of_ble_eq_true rfl, Nat.le_of_ble_eq_true rfl⟩, hg _ m_1018, hg _ ms_34⟩ (zz_preVW hN hK hP hD 0 rfl rfl) rfl rfl hl.1 rfl (lv_room (Nat.le_of_ble_eq_true rfl)) d_CL_joinMeaningOfAnd_76 ⟨Nat.le_of_ble_eq_true rfl, Nat.le_of_ble_eq_true rfl⟩) hS (fun q _ h => zz_free hD hS hA q h) (zz_free hD hS hA) (fun r76 u76 t H locs ht hvm hp hP1 hz hk1 hS => ?_)
    rw [ht] at hP1
    rw [← hp] at hv hk
    have hD : va_D A (Wc ty h u76 px) := zz_D hD rfl
    have hP := hP1
    exact B79 _ _ _ r76 u76 hv hk (lv_sub hl [] rfl) hP hD hS
  have B68 : ∀ (H : Heap) (locs : List Loc) (ls : Array Slot) (x3 : Int32) (s0 : Int32) (s1 : Int32) (σ : St), v = f_CL_joinMeaningOfAnd_68 x3 s0 s1 σ → k_CL_joinMeaningOfAnd_68 x3 s0 s1 σ → lv_has ls 5 [(0, .ref (h 0)), (3, .int x3)] → va_P D classes (Wc ty h σ px) H → va_D A (Wc ty h σ px) → va_S A s.heap H locs → W p l e (headSpec w_CL_joinMeaningOfAnd rm_CL_joinMeaningOfAnd).room s m args below meth c H locs 0 0 (MQ below (va_Qi (fun r (u : St) => (r, u) = v) (fun u t => va_P D classes (Wc ty h u px) t.heap) A) args s 0 0 A) (F0 m 68 ls [.int s0, .int s1, .ref (h 0)]) := by
    intro H locs ls x3 s0 s1 σ hv hk hl hP hD hS
    unfold f_CL_joinMeaningOfAnd_68 at hv
    unfold k_CL_joinMeaningOfAnd_68 at hk
    refine lv_aload_n hx hb d_CL_joinMeaningOfAnd_68 rfl (lv_at hl 0 rfl) ?_
    refine va_get (v := .ref (h 6)) (C := R_CL) (T := T_CL) (N := 11) hx hb hg in_CL hown hK hP 0 rfl rfl 1 (by decide) (hg _ m_285) (fun _ h9 => h9) rfl d_CL_joinMeaningOfAnd_69 ?_
    refine lv_iload_n hx hb d_CL_joinMeaningOfAnd_72 rfl (lv_at hl 1 rfl) ?_
    obtain ⟨hk0, hk⟩ := hk
    refine va_calli (va_runV (As := [.int x3]) (rest := [.int s0, .int s1, .ref (h 0)]) ⟨hx, hb, hml, hown, hg⟩ (c_Te_opposite l D ty h px σ H.size x3 hk0) ⟨callB_of 1 hg (gw_C m_1014) rfl rfl rfl (hg _ m_3) (hg _ m_1011) hd_Te_opposite ⟨Nat.le_of_ble_eq_true rfl, Nat.le_of_ble_eq_true rfl⟩, hg _ m_1012, hg _ m_1013⟩ (zz_preVW hN hK hP hD 6 rfl rfl) rfl rfl hl.1 rfl (lv_room (Nat.le_of_ble_eq_true rfl)) d_CL_joinMeaningOfAnd_73 ⟨Nat.le_of_ble_eq_true rfl, Nat.le_of_ble_eq_true rfl⟩) hS (fun q _ h => zz_free hD hS hA q h) (zz_free hD hS hA) (fun r73 u73 t H locs ht hvm hp hP1 hz hk1 hS => ?_)
    rw [ht] at hP1
    rw [← hp] at hv hk
    have hD : va_D A (Wc ty h u73 px) := zz_D hD rfl
    have hP := hP1
    exact B76 _ _ _ r73 s0 s1 u73 hv hk (lv_sub hl [] rfl) hP hD hS
  unfold f_CL_joinMeaningOfAnd at hv
  unfold k_CL_joinMeaningOfAnd at hk
  refine lv_iload hx hb d_CL_joinMeaningOfAnd_0 (lv_at hl 4 rfl) ?_
  by_cases hc0 : a4 = 0
  · have hv := hv.trans (if_pos hc0)
    have hk := hk.1 hc0
    refine lv_tableIn (tgt := 28) hx hb d_CL_joinMeaningOfAnd_2 (by rw [hc0]; decide) (by rw [hc0]; decide) (by rw [hc0]; rfl) (by decide) ?_
    refine lv_aload_n hx hb d_CL_joinMeaningOfAnd_28 rfl (lv_at hl 0 rfl) ?_
    refine lv_aload_n hx hb d_CL_joinMeaningOfAnd_29 rfl (lv_at hl 0 rfl) ?_
    refine va_get (v := .ref (h 6)) (C := R_CL) (T := T_CL) (N := 11) hx hb hg in_CL hown hK hP 0 rfl rfl 1 (by decide) (hg _ m_285) (fun _ h9 => h9) rfl d_CL_joinMeaningOfAnd_30 ?_
    refine lv_iload_n hx hb d_CL_joinMeaningOfAnd_33 rfl (lv_at hl 1 rfl) ?_
    obtain ⟨hk0, hk⟩ := hk
    refine va_calli (va_runV (As := [.int a1]) (rest := [.ref (h 0)]) ⟨hx, hb, hml, hown, hg⟩ (c_Te_opposite l D ty h px σ s.heap.size a1 hk0) ⟨callB_of 1 hg (gw_C m_1014) rfl rfl rfl (hg _ m_3) (hg _ m_1011) hd_Te_opposite ⟨Nat.le_of_ble_eq_true rfl, Nat.le_of_ble_eq_true rfl⟩, hg _ m_1012, hg _ m_1013⟩ (zz_preVW hN hK hP hD 6 rfl rfl) rfl rfl hl.1 rfl (lv_room (Nat.le_of_ble_eq_true rfl)) d_CL_joinMeaningOfAnd_34 ⟨Nat.le_of_ble_eq_true rfl, Nat.le_of_ble_eq_true rfl⟩) hS (fun q _ h => zz_free hD hS hA q h) (zz_free hD hS hA) (fun r34 u34 t H locs ht hvm hp hP1 hz hk1 hS => ?_)
    rw [ht] at hP1
    rw [← hp] at hv hk
    have hD : va_D A (Wc ty h u34 px) := zz_D hD rfl
    have hP := hP1
    exact B37 _ _ _ a2 r34 u34 hv hk (lv_sub hl [2] rfl) hP hD hS
  · have hv := hv.trans (if_neg hc0)
    have hk := hk.2 hc0
    by_cases hc1 : a4 = 1
    · have hv := hv.trans (if_pos hc1)
      have hk := hk.1 hc1
      refine lv_tableIn (tgt := 43) hx hb d_CL_joinMeaningOfAnd_2 (by rw [hc1]; decide) (by rw [hc1]; decide) (by rw [hc1]; rfl) (by decide) ?_
      refine lv_aload_n hx hb d_CL_joinMeaningOfAnd_43 rfl (lv_at hl 0 rfl) ?_
      refine lv_aload_n hx hb d_CL_joinMeaningOfAnd_44 rfl (lv_at hl 0 rfl) ?_
      refine va_get (v := .ref (h 6)) (C := R_CL) (T := T_CL) (N := 11) hx hb hg in_CL hown hK hP 0 rfl rfl 1 (by decide) (hg _ m_285) (fun _ h9 => h9) rfl d_CL_joinMeaningOfAnd_45 ?_
      refine lv_iload_n hx hb d_CL_joinMeaningOfAnd_48 rfl (lv_at hl 1 rfl) ?_
      obtain ⟨hk0, hk⟩ := hk
      refine va_calli (va_runV (As := [.int a1]) (rest := [.ref (h 0)]) ⟨hx, hb, hml, hown, hg⟩ (c_Te_opposite l D ty h px σ s.heap.size a1 hk0) ⟨callB_of 1 hg (gw_C m_1014) rfl rfl rfl (hg _ m_3) (hg _ m_1011) hd_Te_opposite ⟨Nat.le_of_ble_eq_true rfl, Nat.le_of_ble_eq_true rfl⟩, hg _ m_1012, hg _ m_1013⟩ (zz_preVW hN hK hP hD 6 rfl rfl) rfl rfl hl.1 rfl (lv_room (Nat.le_of_ble_eq_true rfl)) d_CL_joinMeaningOfAnd_49 ⟨Nat.le_of_ble_eq_true rfl, Nat.le_of_ble_eq_true rfl⟩) hS (fun q _ h => zz_free hD hS hA q h) (zz_free hD hS hA) (fun r49 u49 t H locs ht hvm hp hP1 hz hk1 hS => ?_)
      rw [ht] at hP1
      rw [← hp] at hv hk
      have hD : va_D A (Wc ty h u49 px) := zz_D hD rfl
      have hP := hP1
      exact B52 _ _ _ a3 r49 u49 hv hk (lv_sub hl [3] rfl) hP hD hS
    · have hv := hv.trans (if_neg hc1)
      have hk := hk.2 hc1
      by_cases hc2 : a4 = 2
      · have hv := hv.trans (if_pos hc2)
        have hk := hk.1 hc2
        refine lv_tableIn (tgt := 58) hx hb d_CL_joinMeaningOfAnd_2 (by rw [hc2]; decide) (by rw [hc2]; decide) (by rw [hc2]; rfl) (by decide) ?_
        refine lv_aload_n hx hb d_CL_joinMeaningOfAnd_58 rfl (lv_at hl 0 rfl) ?_
        refine lv_iload_n hx hb d_CL_joinMeaningOfAnd_59 rfl (lv_at hl 1 rfl) ?_
        refine lv_aload_n hx hb d_CL_joinMeaningOfAnd_60 rfl (lv_at hl 0 rfl) ?_
        refine va_get (v := .ref (h 6)) (C := R_CL) (T := T_CL) (N := 11) hx hb hg in_CL hown hK hP 0 rfl rfl 1 (by decide) (hg _ m_285) (fun _ h9 => h9) rfl d_CL_joinMeaningOfAnd_61 ?_
        refine lv_iload_n hx hb d_CL_joinMeaningOfAnd_64 rfl (lv_at hl 2 rfl) ?_
        obtain ⟨hk0, hk⟩ := hk
        refine va_calli (va_runV (As := [.int a2]) (rest := [.int a1, .ref (h 0)]) ⟨hx, hb, hml, hown, hg⟩ (c_Te_opposite l D ty h px σ s.heap.size a2 hk0) ⟨callB_of 1 hg (gw_C m_1014) rfl rfl rfl (hg _ m_3) (hg _ m_1011) hd_Te_opposite ⟨Nat.le_of_ble_eq_true rfl, Nat.le_of_ble_eq_true rfl⟩, hg _ m_1012, hg _ m_1013⟩ (zz_preVW hN hK hP hD 6 rfl rfl) rfl rfl hl.1 rfl (lv_room (Nat.le_of_ble_eq_true rfl)) d_CL_joinMeaningOfAnd_65 ⟨Nat.le_of_ble_eq_true rfl, Nat.le_of_ble_eq_true rfl⟩) hS (fun q _ h => zz_free hD hS hA q h) (zz_free hD hS hA) (fun r65 u65 t H locs ht hvm hp hP1 hz hk1 hS => ?_)
        rw [ht] at hP1
        rw [← hp] at hv hk
        have hD : va_D A (Wc ty h u65 px) := zz_D hD rfl
        have hP := hP1
        exact B68 _ _ _ a3 r65 a1 u65 hv hk (lv_sub hl [0, 3] rfl) hP hD hS
      · have hv := hv.trans (if_neg hc2)
        have hk := hk.2 hc2
        refine lv_tableOut (tgt := 80) hx hb d_CL_joinMeaningOfAnd_2 (by have := lv_neT hc0 (by decide : (0 : Int32).toInt = 0); have := lv_neT hc1 (by decide : (1 : Int32).toInt = 1); have := lv_neT hc2 (by decide : (2 : Int32).toInt = 2); omega) (by decide) ?_
        refine lv_iconst (v := 0) hx hb d_CL_joinMeaningOfAnd_80 (by decide) ?_
        exact W.zret hx hb hr rfl (fun t ht hW => ⟨⟨_, _, rfl, hv.symm, by dsimp only; rw [ht]; exact hP⟩, hS.F ht⟩) hS.2.2 d_CL_joinMeaningOfAnd_81

