-- ClauseLedger.joinMeaningOfOr(IIII)Z
abbrev b_CL_joinMeaningOfOr : ByteArray := prog_1_method_30_code
def y_CL_joinMeaningOfOr : MethodName := ⟨"ClauseLedger", "joinMeaningOfOr", "(IIII)Z"⟩
theorem hd_CL_joinMeaningOfOr : y_CL_joinMeaningOfOr.cls ≠ "java/lang/invoke/MethodHandle" ∧ y_CL_joinMeaningOfOr.cls ≠ "java/lang/invoke/VarHandle" ∧ (parseMethodDescriptor y_CL_joinMeaningOfOr.desc).map (fun d => d.parameters.length) = some 4 := by decide +kernel
theorem d_CL_joinMeaningOfOr_0 : decode b_CL_joinMeaningOfOr 0 = .ok (.iload 4, 2) := by decide +kernel
theorem d_CL_joinMeaningOfOr_2 : decode b_CL_joinMeaningOfOr 2 = .ok (.tableswitch 71 0 2 #[26, 41, 56], 26) := by decide +kernel
theorem d_CL_joinMeaningOfOr_28 : decode b_CL_joinMeaningOfOr 28 = .ok (.aload_n 0, 1) := by decide +kernel
theorem d_CL_joinMeaningOfOr_29 : decode b_CL_joinMeaningOfOr 29 = .ok (.aload_n 0, 1) := by decide +kernel
theorem d_CL_joinMeaningOfOr_30 : decode b_CL_joinMeaningOfOr 30 = .ok (.getfield 19, 3) := by decide +kernel
theorem d_CL_joinMeaningOfOr_33 : decode b_CL_joinMeaningOfOr 33 = .ok (.iload_n 1, 1) := by decide +kernel
theorem d_CL_joinMeaningOfOr_34 : decode b_CL_joinMeaningOfOr 34 = .ok (.invokevirtual 182, 3) := by decide +kernel
theorem d_CL_joinMeaningOfOr_37 : decode b_CL_joinMeaningOfOr 37 = .ok (.iload_n 2, 1) := by decide +kernel
theorem d_CL_joinMeaningOfOr_38 : decode b_CL_joinMeaningOfOr 38 = .ok (.iload_n 3, 1) := by decide +kernel
theorem d_CL_joinMeaningOfOr_39 : decode b_CL_joinMeaningOfOr 39 = .ok (.invokevirtual 284, 3) := by decide +kernel
theorem d_CL_joinMeaningOfOr_42 : decode b_CL_joinMeaningOfOr 42 = .ok (.ireturn, 1) := by decide +kernel
theorem d_CL_joinMeaningOfOr_43 : decode b_CL_joinMeaningOfOr 43 = .ok (.aload_n 0, 1) := by decide +kernel
theorem d_CL_joinMeaningOfOr_44 : decode b_CL_joinMeaningOfOr 44 = .ok (.iload_n 1, 1) := by decide +kernel
theorem d_CL_joinMeaningOfOr_45 : decode b_CL_joinMeaningOfOr 45 = .ok (.aload_n 0, 1) := by decide +kernel
theorem d_CL_joinMeaningOfOr_46 : decode b_CL_joinMeaningOfOr 46 = .ok (.getfield 19, 3) := by decide +kernel
theorem d_CL_joinMeaningOfOr_49 : decode b_CL_joinMeaningOfOr 49 = .ok (.iload_n 2, 1) := by decide +kernel
theorem d_CL_joinMeaningOfOr_50 : decode b_CL_joinMeaningOfOr 50 = .ok (.invokevirtual 182, 3) := by decide +kernel
theorem d_CL_joinMeaningOfOr_53 : decode b_CL_joinMeaningOfOr 53 = .ok (.iconst (-1), 1) := by decide +kernel
theorem d_CL_joinMeaningOfOr_54 : decode b_CL_joinMeaningOfOr 54 = .ok (.invokevirtual 284, 3) := by decide +kernel
theorem d_CL_joinMeaningOfOr_57 : decode b_CL_joinMeaningOfOr 57 = .ok (.ireturn, 1) := by decide +kernel
theorem d_CL_joinMeaningOfOr_58 : decode b_CL_joinMeaningOfOr 58 = .ok (.aload_n 0, 1) := by decide +kernel
theorem d_CL_joinMeaningOfOr_59 : decode b_CL_joinMeaningOfOr 59 = .ok (.iload_n 1, 1) := by decide +kernel
theorem d_CL_joinMeaningOfOr_60 : decode b_CL_joinMeaningOfOr 60 = .ok (.aload_n 0, 1) := by decide +kernel
theorem d_CL_joinMeaningOfOr_61 : decode b_CL_joinMeaningOfOr 61 = .ok (.getfield 19, 3) := by decide +kernel
theorem d_CL_joinMeaningOfOr_64 : decode b_CL_joinMeaningOfOr 64 = .ok (.iload_n 3, 1) := by decide +kernel
theorem d_CL_joinMeaningOfOr_65 : decode b_CL_joinMeaningOfOr 65 = .ok (.invokevirtual 182, 3) := by decide +kernel
theorem d_CL_joinMeaningOfOr_68 : decode b_CL_joinMeaningOfOr 68 = .ok (.iconst (-1), 1) := by decide +kernel
theorem d_CL_joinMeaningOfOr_69 : decode b_CL_joinMeaningOfOr 69 = .ok (.invokevirtual 284, 3) := by decide +kernel
theorem d_CL_joinMeaningOfOr_72 : decode b_CL_joinMeaningOfOr 72 = .ok (.ireturn, 1) := by decide +kernel
theorem d_CL_joinMeaningOfOr_73 : decode b_CL_joinMeaningOfOr 73 = .ok (.iconst 0, 1) := by decide +kernel
theorem d_CL_joinMeaningOfOr_74 : decode b_CL_joinMeaningOfOr 74 = .ok (.ireturn, 1) := by decide +kernel
def f_CL_joinMeaningOfOr_42 (s0 : Int32) (σ : St) : Int32 × St := (s0, σ)
def k_CL_joinMeaningOfOr_42 (s0 : Int32) (σ : St) : Prop := (narrow .boolean (.int s0) = .int s0) ∧ True
def f_CL_joinMeaningOfOr_37 (x2 : Int32) (x3 : Int32) (s0 : Int32) (σ : St) : Int32 × St := f_CL_joinMeaningOfOr_42 ((f_CL_joinThree s0 x2 x3 σ).1) ((f_CL_joinThree s0 x2 x3 σ).2)
def k_CL_joinMeaningOfOr_37 (x2 : Int32) (x3 : Int32) (s0 : Int32) (σ : St) : Prop := (k_CL_joinThree s0 x2 x3 σ) ∧ (k_CL_joinMeaningOfOr_42 ((f_CL_joinThree s0 x2 x3 σ).1) ((f_CL_joinThree s0 x2 x3 σ).2))
def f_CL_joinMeaningOfOr_57 (s0 : Int32) (σ : St) : Int32 × St := (s0, σ)
def k_CL_joinMeaningOfOr_57 (s0 : Int32) (σ : St) : Prop := (narrow .boolean (.int s0) = .int s0) ∧ True
def f_CL_joinMeaningOfOr_53 (s0 : Int32) (s1 : Int32) (σ : St) : Int32 × St := f_CL_joinMeaningOfOr_57 ((f_CL_joinThree s1 s0 (-1) σ).1) ((f_CL_joinThree s1 s0 (-1) σ).2)
def k_CL_joinMeaningOfOr_53 (s0 : Int32) (s1 : Int32) (σ : St) : Prop := (k_CL_joinThree s1 s0 (-1) σ) ∧ (k_CL_joinMeaningOfOr_57 ((f_CL_joinThree s1 s0 (-1) σ).1) ((f_CL_joinThree s1 s0 (-1) σ).2))
def f_CL_joinMeaningOfOr_72 (s0 : Int32) (σ : St) : Int32 × St := (s0, σ)
def k_CL_joinMeaningOfOr_72 (s0 : Int32) (σ : St) : Prop := (narrow .boolean (.int s0) = .int s0) ∧ True
def f_CL_joinMeaningOfOr_68 (s0 : Int32) (s1 : Int32) (σ : St) : Int32 × St := f_CL_joinMeaningOfOr_72 ((f_CL_joinThree s1 s0 (-1) σ).1) ((f_CL_joinThree s1 s0 (-1) σ).2)
def k_CL_joinMeaningOfOr_68 (s0 : Int32) (s1 : Int32) (σ : St) : Prop := (k_CL_joinThree s1 s0 (-1) σ) ∧ (k_CL_joinMeaningOfOr_72 ((f_CL_joinThree s1 s0 (-1) σ).1) ((f_CL_joinThree s1 s0 (-1) σ).2))
def f_CL_joinMeaningOfOr (a1 : Int32) (a2 : Int32) (a3 : Int32) (a4 : Int32) (σ : St) : Int32 × St := if a4 = 0 then (f_CL_joinMeaningOfOr_37 a2 a3 ((f_Te_opposite a1 σ).1) ((f_Te_opposite a1 σ).2)) else (if a4 = 1 then (f_CL_joinMeaningOfOr_53 ((f_Te_opposite a2 σ).1) a1 ((f_Te_opposite a2 σ).2)) else (if a4 = 2 then (f_CL_joinMeaningOfOr_68 ((f_Te_opposite a3 σ).1) a1 ((f_Te_opposite a3 σ).2)) else (0, σ)))
def k_CL_joinMeaningOfOr (a1 : Int32) (a2 : Int32) (a3 : Int32) (a4 : Int32) (σ : St) : Prop := (a4 = 0 → ((k_Te_opposite a1 σ) ∧ (k_CL_joinMeaningOfOr_37 a2 a3 ((f_Te_opposite a1 σ).1) ((f_Te_opposite a1 σ).2)))) ∧ (¬ a4 = 0 → ((a4 = 1 → ((k_Te_opposite a2 σ) ∧ (k_CL_joinMeaningOfOr_53 ((f_Te_opposite a2 σ).1) a1 ((f_Te_opposite a2 σ).2)))) ∧ (¬ a4 = 1 → ((a4 = 2 → ((k_Te_opposite a3 σ) ∧ (k_CL_joinMeaningOfOr_68 ((f_Te_opposite a3 σ).1) a1 ((f_Te_opposite a3 σ).2)))) ∧ (¬ a4 = 2 → True)))))
abbrev w_CL_joinMeaningOfOr : List Cond := Cond.code y_CL_joinMeaningOfOr b_CL_joinMeaningOfOr 5 (some .boolean) :: gw
abbrev rm_CL_joinMeaningOfOr : Room := { frames := 4, cells := 0, slots := 0, locals := 97 }
set_option maxHeartbeats 4000000 in
set_option maxRecDepth 100000 in
theorem c_CL_joinMeaningOfOr (l : Launch) (D : va_G) (ty : Nat → ClassId) (h : Nat → Nat) (px : va_W) (σ : St) (sz : Nat) (a1 : Int32) (a2 : Int32) (a3 : Int32) (a4 : Int32) (hk : k_CL_joinMeaningOfOr a1 a2 a3 a4 σ) : Met l y_CL_joinMeaningOfOr w_CL_joinMeaningOfOr rm_CL_joinMeaningOfOr (va_Pc [.ref (h 0), .int a1, .int a2, .int a3, .int a4] (fun U => U.heap.size = sz ∧ va_P D classes (Wc ty h σ px) U.heap ∧ va_K D classes (Ta ty) U ∧ NW U ∧ va_D (fun _ => True) (Wc ty h σ px))) (va_Qi (fun r (u : St) => (r, u) = f_CL_joinMeaningOfOr a1 a2 a3 a4 σ) (fun u t => va_P D classes (Wc ty h u px) t.heap) (va_A (Wc ty h σ px) sz)) 0 0 (va_A (Wc ty h σ px) sz) := by
  refine Met.ofW (cc := b_CL_joinMeaningOfOr) (maxL := 5) (ret := (some .boolean)) (by decide) rfl ?_
  intro p e s m args below meth c s₁ B hml hv
  obtain ⟨ha, hsz, hP, hK, hN, hD0⟩ := hv
  have hx := B.exec
  have hb := B.bytes
  have hr := B.returns
  have hg : ∀ w ∈ gw, w.before args s = true := fun w h9 => atoms_spec (ws := w_CL_joinMeaningOfOr) B.pre w (List.mem_cons_of_mem _ h9)
  have hown : s.vm.findClass "ClauseLedger" = some m.cls := findClass_of_methodNamed B.named
  have hlocks := B.notSynchronized
  subst hsz
  have hD := hD0.self (sz := s.heap.size)
  generalize hAe : va_A (Wc ty h σ px) s.heap.size = A at hD ⊢
  have hA : ∀ q : Nat, s.heap.size ≤ q → A q := fun q h9 => by rw [← hAe]; exact Or.inr h9
  have hS : va_S A s.heap s.heap [] := va_S.rf
  have he : entryFrame m args 5 = entryFrame m ([.ref (h 0), .int a1, .int a2, .int a3, .int a4] : List Value).toArray 5 := by rw [ha]
  rw [he, lg_entry_eq]
  have hl := lv_entry ([.ref (h 0), .int a1, .int a2, .int a3, .int a4]) (n := 5) (Nat.le_of_ble_eq_true rfl)
  generalize (lg_sl ([.ref (h 0), .int a1, .int a2, .int a3, .int a4]) ++ List.replicate (5 - (lg_sl ([.ref (h 0), .int a1, .int a2, .int a3, .int a4])).length) Slot.unset).toArray = ls at hl ⊢
  have hl : lv_has ls 5 [(0, .ref (h 0)), (1, .int a1), (2, .int a2), (3, .int a3), (4, .int a4)] := hl
  generalize hv : f_CL_joinMeaningOfOr a1 a2 a3 a4 σ = v
  replace hv := hv.symm
  have B42 : ∀ (H : Heap) (locs : List Loc) (ls : Array Slot) (s0 : Int32) (σ : St), v = f_CL_joinMeaningOfOr_42 s0 σ → k_CL_joinMeaningOfOr_42 s0 σ → lv_has ls 5 [] → va_P D classes (Wc ty h σ px) H → va_D A (Wc ty h σ px) → va_S A s.heap H locs → W p l e (headSpec w_CL_joinMeaningOfOr rm_CL_joinMeaningOfOr).room s m args below meth c H locs 0 0 (MQ below (va_Qi (fun r (u : St) => (r, u) = v) (fun u t => va_P D classes (Wc ty h u px) t.heap) A) args s 0 0 A) (F0 m 42 ls [.int s0]) := by
    intro H locs ls s0 σ hv hk hl hP hD hS
    unfold f_CL_joinMeaningOfOr_42 at hv
    unfold k_CL_joinMeaningOfOr_42 at hk
    obtain ⟨hk0, hk⟩ := hk
    exact W.zret hx hb hr hk0 (fun t ht hW => ⟨⟨_, _, rfl, hv.symm, by dsimp only; rw [ht]; exact hP⟩, hS.F ht⟩) hS.2.2 d_CL_joinMeaningOfOr_42
  have B37 : ∀ (H : Heap) (locs : List Loc) (ls : Array Slot) (x2 : Int32) (x3 : Int32) (s0 : Int32) (σ : St), v = f_CL_joinMeaningOfOr_37 x2 x3 s0 σ → k_CL_joinMeaningOfOr_37 x2 x3 s0 σ → lv_has ls 5 [(2, .int x2), (3, .int x3)] → va_P D classes (Wc ty h σ px) H → va_D A (Wc ty h σ px) → va_S A s.heap H locs → W p l e (headSpec w_CL_joinMeaningOfOr rm_CL_joinMeaningOfOr).room s m args below meth c H locs 0 0 (MQ below (va_Qi (fun r (u : St) => (r, u) = v) (fun u t => va_P D classes (Wc ty h u px) t.heap) A) args s 0 0 A) (F0 m 37 ls [.int s0, .ref (h 0)]) := by
    intro H locs ls x2 x3 s0 σ hv hk hl hP hD hS
    unfold f_CL_joinMeaningOfOr_37 at hv
    unfold k_CL_joinMeaningOfOr_37 at hk
    refine lv_iload_n hx hb d_CL_joinMeaningOfOr_37 rfl (lv_at hl 0 rfl) ?_
    refine lv_iload_n hx hb d_CL_joinMeaningOfOr_38 rfl (lv_at hl 1 rfl) ?_
    obtain ⟨hk0, hk⟩ := hk
    refine va_calli (va_runV (As := [.int s0, .int x2, .int x3]) (rest := []) ⟨hx, hb, hml, hown, hg⟩ (c_CL_joinThree l D ty h px σ H.size s0 x2 x3 hk0) ⟨callB_of 3 hg (gw_C m_1019) rfl rfl rfl (hg _ m_1) (hg _ m_1016) hd_CL_joinThree ⟨Nat.le_of_ble_eq_true rfl, Nat.le_of_ble_eq_true rfl⟩, hg _ m_1018, hg _ ms_34⟩ (zz_preVW hN hK hP hD 0 rfl rfl) rfl rfl hl.1 rfl (lv_room (Nat.le_of_ble_eq_true rfl)) d_CL_joinMeaningOfOr_39 ⟨Nat.le_of_ble_eq_true rfl, Nat.le_of_ble_eq_true rfl⟩) hS (fun q _ h => zz_free hD hS hA q h) (zz_free hD hS hA) (fun r39 u39 t H locs ht hvm hp hP1 hz hk1 hS => ?_)
    rw [ht] at hP1
    rw [← hp] at hv hk
    have hD : va_D A (Wc ty h u39 px) := zz_D hD rfl
    have hP := hP1
    exact B42 _ _ _ r39 u39 hv hk (lv_sub hl [] rfl) hP hD hS
  have B57 : ∀ (H : Heap) (locs : List Loc) (ls : Array Slot) (s0 : Int32) (σ : St), v = f_CL_joinMeaningOfOr_57 s0 σ → k_CL_joinMeaningOfOr_57 s0 σ → lv_has ls 5 [] → va_P D classes (Wc ty h σ px) H → va_D A (Wc ty h σ px) → va_S A s.heap H locs → W p l e (headSpec w_CL_joinMeaningOfOr rm_CL_joinMeaningOfOr).room s m args below meth c H locs 0 0 (MQ below (va_Qi (fun r (u : St) => (r, u) = v) (fun u t => va_P D classes (Wc ty h u px) t.heap) A) args s 0 0 A) (F0 m 57 ls [.int s0]) := by
    intro H locs ls s0 σ hv hk hl hP hD hS
    unfold f_CL_joinMeaningOfOr_57 at hv
    unfold k_CL_joinMeaningOfOr_57 at hk
    obtain ⟨hk0, hk⟩ := hk
    exact W.zret hx hb hr hk0 (fun t ht hW => ⟨⟨_, _, rfl, hv.symm, by dsimp only; rw [ht]; exact hP⟩, hS.F ht⟩) hS.2.2 d_CL_joinMeaningOfOr_57
  have B53 : ∀ (H : Heap) (locs : List Loc) (ls : Array Slot) (s0 : Int32) (s1 : Int32) (σ : St), v = f_CL_joinMeaningOfOr_53 s0 s1 σ → k_CL_joinMeaningOfOr_53 s0 s1 σ → lv_has ls 5 [] → va_P D classes (Wc ty h σ px) H → va_D A (Wc ty h σ px) → va_S A s.heap H locs → W p l e (headSpec w_CL_joinMeaningOfOr rm_CL_joinMeaningOfOr).room s m args below meth c H locs 0 0 (MQ below (va_Qi (fun r (u : St) => (r, u) = v) (fun u t => va_P D classes (Wc ty h u px) t.heap) A) args s 0 0 A) (F0 m 53 ls [.int s0, .int s1, .ref (h 0)]) := by
    intro H locs ls s0 s1 σ hv hk hl hP hD hS
    unfold f_CL_joinMeaningOfOr_53 at hv
    unfold k_CL_joinMeaningOfOr_53 at hk
    refine lv_iconst (v := -1) hx hb d_CL_joinMeaningOfOr_53 (by decide) ?_
    obtain ⟨hk0, hk⟩ := hk
    refine va_calli (va_runV (As := [.int s1, .int s0, .int (-1)]) (rest := []) ⟨hx, hb, hml, hown, hg⟩ (c_CL_joinThree l D ty h px σ H.size s1 s0 (-1) hk0) ⟨callB_of 3 hg (gw_C m_1019) rfl rfl rfl (hg _ m_1) (hg _ m_1016) hd_CL_joinThree ⟨Nat.le_of_ble_eq_true rfl, Nat.le_of_ble_eq_true rfl⟩, hg _ m_1018, hg _ ms_34⟩ (zz_preVW hN hK hP hD 0 rfl rfl) rfl rfl hl.1 rfl (lv_room (Nat.le_of_ble_eq_true rfl)) d_CL_joinMeaningOfOr_54 ⟨Nat.le_of_ble_eq_true rfl, Nat.le_of_ble_eq_true rfl⟩) hS (fun q _ h => zz_free hD hS hA q h) (zz_free hD hS hA) (fun r54 u54 t H locs ht hvm hp hP1 hz hk1 hS => ?_)
    rw [ht] at hP1
    rw [← hp] at hv hk
    have hD : va_D A (Wc ty h u54 px) := zz_D hD rfl
    have hP := hP1
    exact B57 _ _ _ r54 u54 hv hk (lv_sub hl [] rfl) hP hD hS
  have B72 : ∀ (H : Heap) (locs : List Loc) (ls : Array Slot) (s0 : Int32) (σ : St), v = f_CL_joinMeaningOfOr_72 s0 σ → k_CL_joinMeaningOfOr_72 s0 σ → lv_has ls 5 [] → va_P D classes (Wc ty h σ px) H → va_D A (Wc ty h σ px) → va_S A s.heap H locs → W p l e (headSpec w_CL_joinMeaningOfOr rm_CL_joinMeaningOfOr).room s m args below meth c H locs 0 0 (MQ below (va_Qi (fun r (u : St) => (r, u) = v) (fun u t => va_P D classes (Wc ty h u px) t.heap) A) args s 0 0 A) (F0 m 72 ls [.int s0]) := by
    intro H locs ls s0 σ hv hk hl hP hD hS
    unfold f_CL_joinMeaningOfOr_72 at hv
    unfold k_CL_joinMeaningOfOr_72 at hk
    obtain ⟨hk0, hk⟩ := hk
    exact W.zret hx hb hr hk0 (fun t ht hW => ⟨⟨_, _, rfl, hv.symm, by dsimp only; rw [ht]; exact hP⟩, hS.F ht⟩) hS.2.2 d_CL_joinMeaningOfOr_72
  have B68 : ∀ (H : Heap) (locs : List Loc) (ls : Array Slot) (s0 : Int32) (s1 : Int32) (σ : St), v = f_CL_joinMeaningOfOr_68 s0 s1 σ → k_CL_joinMeaningOfOr_68 s0 s1 σ → lv_has ls 5 [] → va_P D classes (Wc ty h σ px) H → va_D A (Wc ty h σ px) → va_S A s.heap H locs → W p l e (headSpec w_CL_joinMeaningOfOr rm_CL_joinMeaningOfOr).room s m args below meth c H locs 0 0 (MQ below (va_Qi (fun r (u : St) => (r, u) = v) (fun u t => va_P D classes (Wc ty h u px) t.heap) A) args s 0 0 A) (F0 m 68 ls [.int s0, .int s1, .ref (h 0)]) := by
    intro H locs ls s0 s1 σ hv hk hl hP hD hS
    unfold f_CL_joinMeaningOfOr_68 at hv
    unfold k_CL_joinMeaningOfOr_68 at hk
    refine lv_iconst (v := -1) hx hb d_CL_joinMeaningOfOr_68 (by decide) ?_
    obtain ⟨hk0, hk⟩ := hk
    refine va_calli (va_runV (As := [.int s1, .int s0, .int (-1)]) (rest := []) ⟨hx, hb, hml, hown, hg⟩ (c_CL_joinThree l D ty h px σ H.size s1 s0 (-1) hk0) ⟨callB_of 3 hg (gw_C m_1019) rfl rfl rfl (hg _ m_1) (hg _ m_1016) hd_CL_joinThree ⟨Nat.le_of_ble_eq_true rfl, Nat.le_of_ble_eq_true rfl⟩, hg _ m_1018, hg _ ms_34⟩ (zz_preVW hN hK hP hD 0 rfl rfl) rfl rfl hl.1 rfl (lv_room (Nat.le_of_ble_eq_true rfl)) d_CL_joinMeaningOfOr_69 ⟨Nat.le_of_ble_eq_true rfl, Nat.le_of_ble_eq_true rfl⟩) hS (fun q _ h => zz_free hD hS hA q h) (zz_free hD hS hA) (fun r69 u69 t H locs ht hvm hp hP1 hz hk1 hS => ?_)
    rw [ht] at hP1
    rw [← hp] at hv hk
    have hD : va_D A (Wc ty h u69 px) := zz_D hD rfl
    have hP := hP1
    exact B72 _ _ _ r69 u69 hv hk (lv_sub hl [] rfl) hP hD hS
  unfold f_CL_joinMeaningOfOr at hv
  unfold k_CL_joinMeaningOfOr at hk
  refine lv_iload hx hb d_CL_joinMeaningOfOr_0 (lv_at hl 4 rfl) ?_
  by_cases hc0 : a4 = 0
  · have hv := hv.trans (if_pos hc0)
    have hk := hk.1 hc0
    refine lv_tableIn (tgt := 28) hx hb d_CL_joinMeaningOfOr_2 (by rw [hc0]; decide) (by rw [hc0]; decide) (by rw [hc0]; rfl) (by decide) ?_
    refine lv_aload_n hx hb d_CL_joinMeaningOfOr_28 rfl (lv_at hl 0 rfl) ?_
    refine lv_aload_n hx hb d_CL_joinMeaningOfOr_29 rfl (lv_at hl 0 rfl) ?_
    refine va_get (v := .ref (h 6)) (C := R_CL) (T := T_CL) (N := 11) hx hb hg in_CL hown hK hP 0 rfl rfl 1 (by decide) (hg _ m_285) (fun _ h9 => h9) rfl d_CL_joinMeaningOfOr_30 ?_
    refine lv_iload_n hx hb d_CL_joinMeaningOfOr_33 rfl (lv_at hl 1 rfl) ?_
    obtain ⟨hk0, hk⟩ := hk
    refine va_calli (va_runV (As := [.int a1]) (rest := [.ref (h 0)]) ⟨hx, hb, hml, hown, hg⟩ (c_Te_opposite l D ty h px σ s.heap.size a1 hk0) ⟨callB_of 1 hg (gw_C m_1014) rfl rfl rfl (hg _ m_3) (hg _ m_1011) hd_Te_opposite ⟨Nat.le_of_ble_eq_true rfl, Nat.le_of_ble_eq_true rfl⟩, hg _ m_1012, hg _ m_1013⟩ (zz_preVW hN hK hP hD 6 rfl rfl) rfl rfl hl.1 rfl (lv_room (Nat.le_of_ble_eq_true rfl)) d_CL_joinMeaningOfOr_34 ⟨Nat.le_of_ble_eq_true rfl, Nat.le_of_ble_eq_true rfl⟩) hS (fun q _ h => zz_free hD hS hA q h) (zz_free hD hS hA) (fun r34 u34 t H locs ht hvm hp hP1 hz hk1 hS => ?_)
    rw [ht] at hP1
    rw [← hp] at hv hk
    have hD : va_D A (Wc ty h u34 px) := zz_D hD rfl
    have hP := hP1
    exact B37 _ _ _ a2 a3 r34 u34 hv hk (lv_sub hl [2, 3] rfl) hP hD hS
  · have hv := hv.trans (if_neg hc0)
    have hk := hk.2 hc0
    by_cases hc1 : a4 = 1
    · have hv := hv.trans (if_pos hc1)
      have hk := hk.1 hc1
      refine lv_tableIn (tgt := 43) hx hb d_CL_joinMeaningOfOr_2 (by rw [hc1]; decide) (by rw [hc1]; decide) (by rw [hc1]; rfl) (by decide) ?_
      refine lv_aload_n hx hb d_CL_joinMeaningOfOr_43 rfl (lv_at hl 0 rfl) ?_
      refine lv_iload_n hx hb d_CL_joinMeaningOfOr_44 rfl (lv_at hl 1 rfl) ?_
      refine lv_aload_n hx hb d_CL_joinMeaningOfOr_45 rfl (lv_at hl 0 rfl) ?_
      refine va_get (v := .ref (h 6)) (C := R_CL) (T := T_CL) (N := 11) hx hb hg in_CL hown hK hP 0 rfl rfl 1 (by decide) (hg _ m_285) (fun _ h9 => h9) rfl d_CL_joinMeaningOfOr_46 ?_
      refine lv_iload_n hx hb d_CL_joinMeaningOfOr_49 rfl (lv_at hl 2 rfl) ?_
      obtain ⟨hk0, hk⟩ := hk
      refine va_calli (va_runV (As := [.int a2]) (rest := [.int a1, .ref (h 0)]) ⟨hx, hb, hml, hown, hg⟩ (c_Te_opposite l D ty h px σ s.heap.size a2 hk0) ⟨callB_of 1 hg (gw_C m_1014) rfl rfl rfl (hg _ m_3) (hg _ m_1011) hd_Te_opposite ⟨Nat.le_of_ble_eq_true rfl, Nat.le_of_ble_eq_true rfl⟩, hg _ m_1012, hg _ m_1013⟩ (zz_preVW hN hK hP hD 6 rfl rfl) rfl rfl hl.1 rfl (lv_room (Nat.le_of_ble_eq_true rfl)) d_CL_joinMeaningOfOr_50 ⟨Nat.le_of_ble_eq_true rfl, Nat.le_of_ble_eq_true rfl⟩) hS (fun q _ h => zz_free hD hS hA q h) (zz_free hD hS hA) (fun r50 u50 t H locs ht hvm hp hP1 hz hk1 hS => ?_)
      rw [ht] at hP1
      rw [← hp] at hv hk
      have hD : va_D A (Wc ty h u50 px) := zz_D hD rfl
      have hP := hP1
      exact B53 _ _ _ r50 a1 u50 hv hk (lv_sub hl [] rfl) hP hD hS
    · have hv := hv.trans (if_neg hc1)
      have hk := hk.2 hc1
      by_cases hc2 : a4 = 2
      · have hv := hv.trans (if_pos hc2)
        have hk := hk.1 hc2
        refine lv_tableIn (tgt := 58) hx hb d_CL_joinMeaningOfOr_2 (by rw [hc2]; decide) (by rw [hc2]; decide) (by rw [hc2]; rfl) (by decide) ?_
        refine lv_aload_n hx hb d_CL_joinMeaningOfOr_58 rfl (lv_at hl 0 rfl) ?_
        refine lv_iload_n hx hb d_CL_joinMeaningOfOr_59 rfl (lv_at hl 1 rfl) ?_
        refine lv_aload_n hx hb d_CL_joinMeaningOfOr_60 rfl (lv_at hl 0 rfl) ?_
        refine va_get (v := .ref (h 6)) (C := R_CL) (T := T_CL) (N := 11) hx hb hg in_CL hown hK hP 0 rfl rfl 1 (by decide) (hg _ m_285) (fun _ h9 => h9) rfl d_CL_joinMeaningOfOr_61 ?_
        refine lv_iload_n hx hb d_CL_joinMeaningOfOr_64 rfl (lv_at hl 3 rfl) ?_
        obtain ⟨hk0, hk⟩ := hk
        refine va_calli (va_runV (As := [.int a3]) (rest := [.int a1, .ref (h 0)]) ⟨hx, hb, hml, hown, hg⟩ (c_Te_opposite l D ty h px σ s.heap.size a3 hk0) ⟨callB_of 1 hg (gw_C m_1014) rfl rfl rfl (hg _ m_3) (hg _ m_1011) hd_Te_opposite ⟨Nat.le_of_ble_eq_true rfl, Nat.le_of_ble_eq_true rfl⟩, hg _ m_1012, hg _ m_1013⟩ (zz_preVW hN hK hP hD 6 rfl rfl) rfl rfl hl.1 rfl (lv_room (Nat.le_of_ble_eq_true rfl)) d_CL_joinMeaningOfOr_65 ⟨Nat.le_of_ble_eq_true rfl, Nat.le_of_ble_eq_true rfl⟩) hS (fun q _ h => zz_free hD hS hA q h) (zz_free hD hS hA) (fun r65 u65 t H locs ht hvm hp hP1 hz hk1 hS => ?_)
        rw [ht] at hP1
        rw [← hp] at hv hk
        have hD : va_D A (Wc ty h u65 px) := zz_D hD rfl
        have hP := hP1
        exact B68 _ _ _ r65 a1 u65 hv hk (lv_sub hl [] rfl) hP hD hS
      · have hv := hv.trans (if_neg hc2)
        have hk := hk.2 hc2
        refine lv_tableOut (tgt := 73) hx hb d_CL_joinMeaningOfOr_2 (by have := lv_neT hc0 (by decide : (0 : Int32).toInt = 0); have := lv_neT hc1 (by decide : (1 : Int32).toInt = 1); have := lv_neT hc2 (by decide : (2 : Int32).toInt = 2); omega) (by decide) ?_
        refine lv_iconst (v := 0) hx hb d_CL_joinMeaningOfOr_73 (by decide) ?_
        exact W.zret hx hb hr rfl (fun t ht hW => ⟨⟨_, _, rfl, hv.symm, by dsimp only; rw [ht]; exact hP⟩, hS.F ht⟩) hS.2.2 d_CL_joinMeaningOfOr_74

-- ClauseLedger.joinMeaningOfEqual(IIII)Z
abbrev b_CL_joinMeaningOfEqual : ByteArray := prog_1_method_31_code
def y_CL_joinMeaningOfEqual : MethodName := ⟨"ClauseLedger", "joinMeaningOfEqual", "(IIII)Z"⟩
theorem hd_CL_joinMeaningOfEqual : y_CL_joinMeaningOfEqual.cls ≠ "java/lang/invoke/MethodHandle" ∧ y_CL_joinMeaningOfEqual.cls ≠ "java/lang/invoke/VarHandle" ∧ (parseMethodDescriptor y_CL_joinMeaningOfEqual.desc).map (fun d => d.parameters.length) = some 4 := by decide +kernel
theorem d_CL_joinMeaningOfEqual_0 : decode b_CL_joinMeaningOfEqual 0 = .ok (.iload 4, 2) := by decide +kernel
theorem d_CL_joinMeaningOfEqual_2 : decode b_CL_joinMeaningOfEqual 2 = .ok (.tableswitch 104 0 3 #[30, 52, 74, 82], 30) := by decide +kernel
theorem d_CL_joinMeaningOfEqual_32 : decode b_CL_joinMeaningOfEqual 32 = .ok (.aload_n 0, 1) := by decide +kernel
theorem d_CL_joinMeaningOfEqual_33 : decode b_CL_joinMeaningOfEqual 33 = .ok (.aload_n 0, 1) := by decide +kernel
theorem d_CL_joinMeaningOfEqual_34 : decode b_CL_joinMeaningOfEqual 34 = .ok (.getfield 19, 3) := by decide +kernel
theorem d_CL_joinMeaningOfEqual_37 : decode b_CL_joinMeaningOfEqual 37 = .ok (.iload_n 1, 1) := by decide +kernel
theorem d_CL_joinMeaningOfEqual_38 : decode b_CL_joinMeaningOfEqual 38 = .ok (.invokevirtual 182, 3) := by decide +kernel
theorem d_CL_joinMeaningOfEqual_41 : decode b_CL_joinMeaningOfEqual 41 = .ok (.aload_n 0, 1) := by decide +kernel
theorem d_CL_joinMeaningOfEqual_42 : decode b_CL_joinMeaningOfEqual 42 = .ok (.getfield 19, 3) := by decide +kernel
theorem d_CL_joinMeaningOfEqual_45 : decode b_CL_joinMeaningOfEqual 45 = .ok (.iload_n 2, 1) := by decide +kernel
theorem d_CL_joinMeaningOfEqual_46 : decode b_CL_joinMeaningOfEqual 46 = .ok (.invokevirtual 182, 3) := by decide +kernel
theorem d_CL_joinMeaningOfEqual_49 : decode b_CL_joinMeaningOfEqual 49 = .ok (.iload_n 3, 1) := by decide +kernel
theorem d_CL_joinMeaningOfEqual_50 : decode b_CL_joinMeaningOfEqual 50 = .ok (.invokevirtual 284, 3) := by decide +kernel
theorem d_CL_joinMeaningOfEqual_53 : decode b_CL_joinMeaningOfEqual 53 = .ok (.ireturn, 1) := by decide +kernel
theorem d_CL_joinMeaningOfEqual_54 : decode b_CL_joinMeaningOfEqual 54 = .ok (.aload_n 0, 1) := by decide +kernel
theorem d_CL_joinMeaningOfEqual_55 : decode b_CL_joinMeaningOfEqual 55 = .ok (.aload_n 0, 1) := by decide +kernel
theorem d_CL_joinMeaningOfEqual_56 : decode b_CL_joinMeaningOfEqual 56 = .ok (.getfield 19, 3) := by decide +kernel
theorem d_CL_joinMeaningOfEqual_59 : decode b_CL_joinMeaningOfEqual 59 = .ok (.iload_n 1, 1) := by decide +kernel
theorem d_CL_joinMeaningOfEqual_60 : decode b_CL_joinMeaningOfEqual 60 = .ok (.invokevirtual 182, 3) := by decide +kernel
theorem d_CL_joinMeaningOfEqual_63 : decode b_CL_joinMeaningOfEqual 63 = .ok (.iload_n 2, 1) := by decide +kernel
theorem d_CL_joinMeaningOfEqual_64 : decode b_CL_joinMeaningOfEqual 64 = .ok (.aload_n 0, 1) := by decide +kernel
theorem d_CL_joinMeaningOfEqual_65 : decode b_CL_joinMeaningOfEqual 65 = .ok (.getfield 19, 3) := by decide +kernel
theorem d_CL_joinMeaningOfEqual_68 : decode b_CL_joinMeaningOfEqual 68 = .ok (.iload_n 3, 1) := by decide +kernel
theorem d_CL_joinMeaningOfEqual_69 : decode b_CL_joinMeaningOfEqual 69 = .ok (.invokevirtual 182, 3) := by decide +kernel
theorem d_CL_joinMeaningOfEqual_72 : decode b_CL_joinMeaningOfEqual 72 = .ok (.invokevirtual 284, 3) := by decide +kernel
theorem d_CL_joinMeaningOfEqual_75 : decode b_CL_joinMeaningOfEqual 75 = .ok (.ireturn, 1) := by decide +kernel
theorem d_CL_joinMeaningOfEqual_76 : decode b_CL_joinMeaningOfEqual 76 = .ok (.aload_n 0, 1) := by decide +kernel
theorem d_CL_joinMeaningOfEqual_77 : decode b_CL_joinMeaningOfEqual 77 = .ok (.iload_n 1, 1) := by decide +kernel
theorem d_CL_joinMeaningOfEqual_78 : decode b_CL_joinMeaningOfEqual 78 = .ok (.iload_n 2, 1) := by decide +kernel
theorem d_CL_joinMeaningOfEqual_79 : decode b_CL_joinMeaningOfEqual 79 = .ok (.iload_n 3, 1) := by decide +kernel
theorem d_CL_joinMeaningOfEqual_80 : decode b_CL_joinMeaningOfEqual 80 = .ok (.invokevirtual 284, 3) := by decide +kernel
theorem d_CL_joinMeaningOfEqual_83 : decode b_CL_joinMeaningOfEqual 83 = .ok (.ireturn, 1) := by decide +kernel
theorem d_CL_joinMeaningOfEqual_84 : decode b_CL_joinMeaningOfEqual 84 = .ok (.aload_n 0, 1) := by decide +kernel
theorem d_CL_joinMeaningOfEqual_85 : decode b_CL_joinMeaningOfEqual 85 = .ok (.iload_n 1, 1) := by decide +kernel
theorem d_CL_joinMeaningOfEqual_86 : decode b_CL_joinMeaningOfEqual 86 = .ok (.aload_n 0, 1) := by decide +kernel
theorem d_CL_joinMeaningOfEqual_87 : decode b_CL_joinMeaningOfEqual 87 = .ok (.getfield 19, 3) := by decide +kernel
theorem d_CL_joinMeaningOfEqual_90 : decode b_CL_joinMeaningOfEqual 90 = .ok (.iload_n 2, 1) := by decide +kernel
theorem d_CL_joinMeaningOfEqual_91 : decode b_CL_joinMeaningOfEqual 91 = .ok (.invokevirtual 182, 3) := by decide +kernel
theorem d_CL_joinMeaningOfEqual_94 : decode b_CL_joinMeaningOfEqual 94 = .ok (.aload_n 0, 1) := by decide +kernel
theorem d_CL_joinMeaningOfEqual_95 : decode b_CL_joinMeaningOfEqual 95 = .ok (.getfield 19, 3) := by decide +kernel
theorem d_CL_joinMeaningOfEqual_98 : decode b_CL_joinMeaningOfEqual 98 = .ok (.iload_n 3, 1) := by decide +kernel
theorem d_CL_joinMeaningOfEqual_99 : decode b_CL_joinMeaningOfEqual 99 = .ok (.invokevirtual 182, 3) := by decide +kernel
theorem d_CL_joinMeaningOfEqual_102 : decode b_CL_joinMeaningOfEqual 102 = .ok (.invokevirtual 284, 3) := by decide +kernel
theorem d_CL_joinMeaningOfEqual_105 : decode b_CL_joinMeaningOfEqual 105 = .ok (.ireturn, 1) := by decide +kernel
theorem d_CL_joinMeaningOfEqual_106 : decode b_CL_joinMeaningOfEqual 106 = .ok (.iconst 0, 1) := by decide +kernel
theorem d_CL_joinMeaningOfEqual_107 : decode b_CL_joinMeaningOfEqual 107 = .ok (.ireturn, 1) := by decide +kernel
def f_CL_joinMeaningOfEqual_53 (s0 : Int32) (σ : St) : Int32 × St := (s0, σ)
def k_CL_joinMeaningOfEqual_53 (s0 : Int32) (σ : St) : Prop := (narrow .boolean (.int s0) = .int s0) ∧ True
def f_CL_joinMeaningOfEqual_49 (x3 : Int32) (s0 : Int32) (s1 : Int32) (σ : St) : Int32 × St := f_CL_joinMeaningOfEqual_53 ((f_CL_joinThree s1 s0 x3 σ).1) ((f_CL_joinThree s1 s0 x3 σ).2)
def k_CL_joinMeaningOfEqual_49 (x3 : Int32) (s0 : Int32) (s1 : Int32) (σ : St) : Prop := (k_CL_joinThree s1 s0 x3 σ) ∧ (k_CL_joinMeaningOfEqual_53 ((f_CL_joinThree s1 s0 x3 σ).1) ((f_CL_joinThree s1 s0 x3 σ).2))
def f_CL_joinMeaningOfEqual_41 (x2 : Int32) (x3 : Int32) (s0 : Int32) (σ : St) : Int32 × St := f_CL_joinMeaningOfEqual_49 x3 ((f_Te_opposite x2 σ).1) s0 ((f_Te_opposite x2 σ).2)
def k_CL_joinMeaningOfEqual_41 (x2 : Int32) (x3 : Int32) (s0 : Int32) (σ : St) : Prop := (k_Te_opposite x2 σ) ∧ (k_CL_joinMeaningOfEqual_49 x3 ((f_Te_opposite x2 σ).1) s0 ((f_Te_opposite x2 σ).2))
def f_CL_joinMeaningOfEqual_75 (s0 : Int32) (σ : St) : Int32 × St := (s0, σ)
def k_CL_joinMeaningOfEqual_75 (s0 : Int32) (σ : St) : Prop := (narrow .boolean (.int s0) = .int s0) ∧ True
def f_CL_joinMeaningOfEqual_72 (s0 : Int32) (s1 : Int32) (s2 : Int32) (σ : St) : Int32 × St := f_CL_joinMeaningOfEqual_75 ((f_CL_joinThree s2 s1 s0 σ).1) ((f_CL_joinThree s2 s1 s0 σ).2)
def k_CL_joinMeaningOfEqual_72 (s0 : Int32) (s1 : Int32) (s2 : Int32) (σ : St) : Prop := (k_CL_joinThree s2 s1 s0 σ) ∧ (k_CL_joinMeaningOfEqual_75 ((f_CL_joinThree s2 s1 s0 σ).1) ((f_CL_joinThree s2 s1 s0 σ).2))
def f_CL_joinMeaningOfEqual_63 (x2 : Int32) (x3 : Int32) (s0 : Int32) (σ : St) : Int32 × St := f_CL_joinMeaningOfEqual_72 ((f_Te_opposite x3 σ).1) x2 s0 ((f_Te_opposite x3 σ).2)
def k_CL_joinMeaningOfEqual_63 (x2 : Int32) (x3 : Int32) (s0 : Int32) (σ : St) : Prop := (k_Te_opposite x3 σ) ∧ (k_CL_joinMeaningOfEqual_72 ((f_Te_opposite x3 σ).1) x2 s0 ((f_Te_opposite x3 σ).2))
def f_CL_joinMeaningOfEqual_83 (s0 : Int32) (σ : St) : Int32 × St := (s0, σ)
def k_CL_joinMeaningOfEqual_83 (s0 : Int32) (σ : St) : Prop := (narrow .boolean (.int s0) = .int s0) ∧ True
def f_CL_joinMeaningOfEqual_105 (s0 : Int32) (σ : St) : Int32 × St := (s0, σ)
def k_CL_joinMeaningOfEqual_105 (s0 : Int32) (σ : St) : Prop := (narrow .boolean (.int s0) = .int s0) ∧ True
def f_CL_joinMeaningOfEqual_102 (s0 : Int32) (s1 : Int32) (s2 : Int32) (σ : St) : Int32 × St := f_CL_joinMeaningOfEqual_105 ((f_CL_joinThree s2 s1 s0 σ).1) ((f_CL_joinThree s2 s1 s0 σ).2)
def k_CL_joinMeaningOfEqual_102 (s0 : Int32) (s1 : Int32) (s2 : Int32) (σ : St) : Prop := (k_CL_joinThree s2 s1 s0 σ) ∧ (k_CL_joinMeaningOfEqual_105 ((f_CL_joinThree s2 s1 s0 σ).1) ((f_CL_joinThree s2 s1 s0 σ).2))
def f_CL_joinMeaningOfEqual_94 (x3 : Int32) (s0 : Int32) (s1 : Int32) (σ : St) : Int32 × St := f_CL_joinMeaningOfEqual_102 ((f_Te_opposite x3 σ).1) s0 s1 ((f_Te_opposite x3 σ).2)
def k_CL_joinMeaningOfEqual_94 (x3 : Int32) (s0 : Int32) (s1 : Int32) (σ : St) : Prop := (k_Te_opposite x3 σ) ∧ (k_CL_joinMeaningOfEqual_102 ((f_Te_opposite x3 σ).1) s0 s1 ((f_Te_opposite x3 σ).2))
def f_CL_joinMeaningOfEqual (a1 : Int32) (a2 : Int32) (a3 : Int32) (a4 : Int32) (σ : St) : Int32 × St := if a4 = 0 then (f_CL_joinMeaningOfEqual_41 a2 a3 ((f_Te_opposite a1 σ).1) ((f_Te_opposite a1 σ).2)) else (if a4 = 1 then (f_CL_joinMeaningOfEqual_63 a2 a3 ((f_Te_opposite a1 σ).1) ((f_Te_opposite a1 σ).2)) else (if a4 = 2 then (f_CL_joinMeaningOfEqual_83 ((f_CL_joinThree a1 a2 a3 σ).1) ((f_CL_joinThree a1 a2 a3 σ).2)) else (if a4 = 3 then (f_CL_joinMeaningOfEqual_94 a3 ((f_Te_opposite a2 σ).1) a1 ((f_Te_opposite a2 σ).2)) else (0, σ))))
def k_CL_joinMeaningOfEqual (a1 : Int32) (a2 : Int32) (a3 : Int32) (a4 : Int32) (σ : St) : Prop := (a4 = 0 → ((k_Te_opposite a1 σ) ∧ (k_CL_joinMeaningOfEqual_41 a2 a3 ((f_Te_opposite a1 σ).1) ((f_Te_opposite a1 σ).2)))) ∧ (¬ a4 = 0 → ((a4 = 1 → ((k_Te_opposite a1 σ) ∧ (k_CL_joinMeaningOfEqual_63 a2 a3 ((f_Te_opposite a1 σ).1) ((f_Te_opposite a1 σ).2)))) ∧ (¬ a4 = 1 → ((a4 = 2 → ((k_CL_joinThree a1 a2 a3 σ) ∧ (k_CL_joinMeaningOfEqual_83 ((f_CL_joinThree a1 a2 a3 σ).1) ((f_CL_joinThree a1 a2 a3 σ).2)))) ∧ (¬ a4 = 2 → ((a4 = 3 → ((k_Te_opposite a2 σ) ∧ (k_CL_joinMeaningOfEqual_94 a3 ((f_Te_opposite a2 σ).1) a1 ((f_Te_opposite a2 σ).2)))) ∧ (¬ a4 = 3 → True)))))))
abbrev w_CL_joinMeaningOfEqual : List Cond := Cond.code y_CL_joinMeaningOfEqual b_CL_joinMeaningOfEqual 5 (some .boolean) :: gw
abbrev rm_CL_joinMeaningOfEqual : Room := { frames := 4, cells := 0, slots := 0, locals := 97 }
set_option maxHeartbeats 4000000 in
set_option maxRecDepth 100000 in
theorem c_CL_joinMeaningOfEqual (l : Launch) (D : va_G) (ty : Nat → ClassId) (h : Nat → Nat) (px : va_W) (σ : St) (sz : Nat) (a1 : Int32) (a2 : Int32) (a3 : Int32) (a4 : Int32) (hk : k_CL_joinMeaningOfEqual a1 a2 a3 a4 σ) : Met l y_CL_joinMeaningOfEqual w_CL_joinMeaningOfEqual rm_CL_joinMeaningOfEqual (va_Pc [.ref (h 0), .int a1, .int a2, .int a3, .int a4] (fun U => U.heap.size = sz ∧ va_P D classes (Wc ty h σ px) U.heap ∧ va_K D classes (Ta ty) U ∧ NW U ∧ va_D (fun _ => True) (Wc ty h σ px))) (va_Qi (fun r (u : St) => (r, u) = f_CL_joinMeaningOfEqual a1 a2 a3 a4 σ) (fun u t => va_P D classes (Wc ty h u px) t.heap) (va_A (Wc ty h σ px) sz)) 0 0 (va_A (Wc ty h σ px) sz) := by
  refine Met.ofW (cc := b_CL_joinMeaningOfEqual) (maxL := 5) (ret := (some .boolean)) (by decide) rfl ?_
  intro p e s m args below meth c s₁ B hml hv
  obtain ⟨ha, hsz, hP, hK, hN, hD0⟩ := hv
  have hx := B.exec
  have hb := B.bytes
  have hr := B.returns
  have hg : ∀ w ∈ gw, w.before args s = true := fun w h9 => atoms_spec (ws := w_CL_joinMeaningOfEqual) B.pre w (List.mem_cons_of_mem _ h9)
  have hown : s.vm.findClass "ClauseLedger" = some m.cls := findClass_of_methodNamed B.named
  have hlocks := B.notSynchronized
  subst hsz
  have hD := hD0.self (sz := s.heap.size)
  generalize hAe : va_A (Wc ty h σ px) s.heap.size = A at hD ⊢
  have hA : ∀ q : Nat, s.heap.size ≤ q → A q := fun q h9 => by rw [← hAe]; exact Or.inr h9
  have hS : va_S A s.heap s.heap [] := va_S.rf
  have he : entryFrame m args 5 = entryFrame m ([.ref (h 0), .int a1, .int a2, .int a3, .int a4] : List Value).toArray 5 := by rw [ha]
  rw [he, lg_entry_eq]
  have hl := lv_entry ([.ref (h 0), .int a1, .int a2, .int a3, .int a4]) (n := 5) (Nat.le_of_ble_eq_true rfl)
  generalize (lg_sl ([.ref (h 0), .int a1, .int a2, .int a3, .int a4]) ++ List.replicate (5 - (lg_sl ([.ref (h 0), .int a1, .int a2, .int a3, .int a4])).length) Slot.unset).toArray = ls at hl ⊢
  have hl : lv_has ls 5 [(0, .ref (h 0)), (1, .int a1), (2, .int a2), (3, .int a3), (4, .int a4)] := hl
  generalize hv : f_CL_joinMeaningOfEqual a1 a2 a3 a4 σ = v
  replace hv := hv.symm
  have B53 : ∀ (H : Heap) (locs : List Loc) (ls : Array Slot) (s0 : Int32) (σ : St), v = f_CL_joinMeaningOfEqual_53 s0 σ → k_CL_joinMeaningOfEqual_53 s0 σ → lv_has ls 5 [] → va_P D classes (Wc ty h σ px) H → va_D A (Wc ty h σ px) → va_S A s.heap H locs → W p l e (headSpec w_CL_joinMeaningOfEqual rm_CL_joinMeaningOfEqual).room s m args below meth c H locs 0 0 (MQ below (va_Qi (fun r (u : St) => (r, u) = v) (fun u t => va_P D classes (Wc ty h u px) t.heap) A) args s 0 0 A) (F0 m 53 ls [.int s0]) := by
    intro H locs ls s0 σ hv hk hl hP hD hS
    unfold f_CL_joinMeaningOfEqual_53 at hv
    unfold k_CL_joinMeaningOfEqual_53 at hk
    obtain ⟨hk0, hk⟩ := hk
    exact W.zret hx hb hr hk0 (fun t ht hW => ⟨⟨_, _, rfl, hv.symm, by dsimp only; rw [ht]; exact hP⟩, hS.F ht⟩) hS.2.2 d_CL_joinMeaningOfEqual_53
  have B49 : ∀ (H : Heap) (locs : List Loc) (ls : Array Slot) (x3 : Int32) (s0 : Int32) (s1 : Int32) (σ : St), v = f_CL_joinMeaningOfEqual_49 x3 s0 s1 σ → k_CL_joinMeaningOfEqual_49 x3 s0 s1 σ → lv_has ls 5 [(3, .int x3)] → va_P D classes (Wc ty h σ px) H → va_D A (Wc ty h σ px) → va_S A s.heap H locs → W p l e (headSpec w_CL_joinMeaningOfEqual rm_CL_joinMeaningOfEqual).room s m args below meth c H locs 0 0 (MQ below (va_Qi (fun r (u : St) => (r, u) = v) (fun u t => va_P D classes (Wc ty h u px) t.heap) A) args s 0 0 A) (F0 m 49 ls [.int s0, .int s1, .ref (h 0)]) := by
    intro H locs ls x3 s0 s1 σ hv hk hl hP hD hS
    unfold f_CL_joinMeaningOfEqual_49 at hv
    unfold k_CL_joinMeaningOfEqual_49 at hk
    refine lv_iload_n hx hb d_CL_joinMeaningOfEqual_49 rfl (lv_at hl 0 rfl) ?_
    obtain ⟨hk0, hk⟩ := hk
    refine va_calli (va_runV (As := [.int s1, .int s0, .int x3]) (rest := []) ⟨hx, hb, hml, hown, hg⟩ (c_CL_joinThree l D ty h px σ H.size s1 s0 x3 hk0) ⟨callB_of 3 hg (gw_C m_1019) rfl rfl rfl (hg _ m_1) (hg _ m_1016) hd_CL_joinThree ⟨Nat.le_of_ble_eq_true rfl, Nat.le_of_ble_eq_true rfl⟩, hg _ m_1018, hg _ ms_34⟩ (zz_preVW hN hK hP hD 0 rfl rfl) rfl rfl hl.1 rfl (lv_room (Nat.le_of_ble_eq_true rfl)) d_CL_joinMeaningOfEqual_50 ⟨Nat.le_of_ble_eq_true rfl, Nat.le_of_ble_eq_true rfl⟩) hS (fun q _ h => zz_free hD hS hA q h) (zz_free hD hS hA) (fun r50 u50 t H locs ht hvm hp hP1 hz hk1 hS => ?_)
    rw [ht] at hP1
    rw [← hp] at hv hk
    have hD : va_D A (Wc ty h u50 px) := zz_D hD rfl
    have hP := hP1
    exact B53 _ _ _ r50 u50 hv hk (lv_sub hl [] rfl) hP hD hS
  have B41 : ∀ (H : Heap) (locs : List Loc) (ls : Array Slot) (x2 : Int32) (x3 : Int32) (s0 : Int32) (σ : St), v = f_CL_joinMeaningOfEqual_41 x2 x3 s0 σ → k_CL_joinMeaningOfEqual_41 x2 x3 s0 σ → lv_has ls 5 [(0, .ref (h 0)), (2, .int x2), (3, .int x3)] → va_P D classes (Wc ty h σ px) H → va_D A (Wc ty h σ px) → va_S A s.heap H locs → W p l e (headSpec w_CL_joinMeaningOfEqual rm_CL_joinMeaningOfEqual).room s m args below meth c H locs 0 0 (MQ below (va_Qi (fun r (u : St) => (r, u) = v) (fun u t => va_P D classes (Wc ty h u px) t.heap) A) args s 0 0 A) (F0 m 41 ls [.int s0, .ref (h 0)]) := by
    intro H locs ls x2 x3 s0 σ hv hk hl hP hD hS
    unfold f_CL_joinMeaningOfEqual_41 at hv
    unfold k_CL_joinMeaningOfEqual_41 at hk
    refine lv_aload_n hx hb d_CL_joinMeaningOfEqual_41 rfl (lv_at hl 0 rfl) ?_
    refine va_get (v := .ref (h 6)) (C := R_CL) (T := T_CL) (N := 11) hx hb hg in_CL hown hK hP 0 rfl rfl 1 (by decide) (hg _ m_285) (fun _ h9 => h9) rfl d_CL_joinMeaningOfEqual_42 ?_
    refine lv_iload_n hx hb d_CL_joinMeaningOfEqual_45 rfl (lv_at hl 1 rfl) ?_
    obtain ⟨hk0, hk⟩ := hk
    refine va_calli (va_runV (As := [.int x2]) (rest := [.int s0, .ref (h 0)]) ⟨hx, hb, hml, hown, hg⟩ (c_Te_opposite l D ty h px σ H.size x2 hk0) ⟨callB_of 1 hg (gw_C m_1014) rfl rfl rfl (hg _ m_3) (hg _ m_1011) hd_Te_opposite ⟨Nat.le_of_ble_eq_true rfl, Nat.le_of_ble_eq_true rfl⟩, hg _ m_1012, hg _ m_1013⟩ (zz_preVW hN hK hP hD 6 rfl rfl) rfl rfl hl.1 rfl (lv_room (Nat.le_of_ble_eq_true rfl)) d_CL_joinMeaningOfEqual_46 ⟨Nat.le_of_ble_eq_true rfl, Nat.le_of_ble_eq_true rfl⟩) hS (fun q _ h => zz_free hD hS hA q h) (zz_free hD hS hA) (fun r46 u46 t H locs ht hvm hp hP1 hz hk1 hS => ?_)
    rw [ht] at hP1
    rw [← hp] at hv hk
    have hD : va_D A (Wc ty h u46 px) := zz_D hD rfl
    have hP := hP1
    exact B49 _ _ _ x3 r46 s0 u46 hv hk (lv_sub hl [2] rfl) hP hD hS
  have B75 : ∀ (H : Heap) (locs : List Loc) (ls : Array Slot) (s0 : Int32) (σ : St), v = f_CL_joinMeaningOfEqual_75 s0 σ → k_CL_joinMeaningOfEqual_75 s0 σ → lv_has ls 5 [] → va_P D classes (Wc ty h σ px) H → va_D A (Wc ty h σ px) → va_S A s.heap H locs → W p l e (headSpec w_CL_joinMeaningOfEqual rm_CL_joinMeaningOfEqual).room s m args below meth c H locs 0 0 (MQ below (va_Qi (fun r (u : St) => (r, u) = v) (fun u t => va_P D classes (Wc ty h u px) t.heap) A) args s 0 0 A) (F0 m 75 ls [.int s0]) := by
    intro H locs ls s0 σ hv hk hl hP hD hS
    unfold f_CL_joinMeaningOfEqual_75 at hv
    unfold k_CL_joinMeaningOfEqual_75 at hk
    obtain ⟨hk0, hk⟩ := hk
    exact W.zret hx hb hr hk0 (fun t ht hW => ⟨⟨_, _, rfl, hv.symm, by dsimp only; rw [ht]; exact hP⟩, hS.F ht⟩) hS.2.2 d_CL_joinMeaningOfEqual_75
  have B72 : ∀ (H : Heap) (locs : List Loc) (ls : Array Slot) (s0 : Int32) (s1 : Int32) (s2 : Int32) (σ : St), v = f_CL_joinMeaningOfEqual_72 s0 s1 s2 σ → k_CL_joinMeaningOfEqual_72 s0 s1 s2 σ → lv_has ls 5 [] → va_P D classes (Wc ty h σ px) H → va_D A (Wc ty h σ px) → va_S A s.heap H locs → W p l e (headSpec w_CL_joinMeaningOfEqual rm_CL_joinMeaningOfEqual).room s m args below meth c H locs 0 0 (MQ below (va_Qi (fun r (u : St) => (r, u) = v) (fun u t => va_P D classes (Wc ty h u px) t.heap) A) args s 0 0 A) (F0 m 72 ls [.int s0, .int s1, .int s2, .ref (h 0)]) := by
    intro H locs ls s0 s1 s2 σ hv hk hl hP hD hS
    unfold f_CL_joinMeaningOfEqual_72 at hv
    unfold k_CL_joinMeaningOfEqual_72 at hk
    obtain ⟨hk0, hk⟩ := hk
    refine va_calli (va_runV (As := [.int s2, .int s1, .int s0]) (rest := []) ⟨hx, hb, hml, hown, hg⟩ (c_CL_joinThree l D ty h px σ H.size s2 s1 s0 hk0) ⟨callB_of 3 hg (gw_C m_1019) rfl rfl rfl (hg _ m_1) (hg _ m_1016) hd_CL_joinThree ⟨Nat.le_of_ble_eq_true rfl, Nat.le_of_ble_eq_true rfl⟩, hg _ m_1018, hg _ ms_34⟩ (zz_preVW hN hK hP hD 0 rfl rfl) rfl rfl hl.1 rfl (lv_room (Nat.le_of_ble_eq_true rfl)) d_CL_joinMeaningOfEqual_72 ⟨Nat.le_of_ble_eq_true rfl, Nat.le_of_ble_eq_true rfl⟩) hS (fun q _ h => zz_free hD hS hA q h) (zz_free hD hS hA) (fun r72 u72 t H locs ht hvm hp hP1 hz hk1 hS => ?_)
    rw [ht] at hP1
    rw [← hp] at hv hk
    have hD : va_D A (Wc ty h u72 px) := zz_D hD rfl
    have hP := hP1
    exact B75 _ _ _ r72 u72 hv hk (lv_sub hl [] rfl) hP hD hS
  have B63 : ∀ (H : Heap) (locs : List Loc) (ls : Array Slot) (x2 : Int32) (x3 : Int32) (s0 : Int32) (σ : St), v = f_CL_joinMeaningOfEqual_63 x2 x3 s0 σ → k_CL_joinMeaningOfEqual_63 x2 x3 s0 σ → lv_has ls 5 [(0, .ref (h 0)), (2, .int x2), (3, .int x3)] → va_P D classes (Wc ty h σ px) H → va_D A (Wc ty h σ px) → va_S A s.heap H locs → W p l e (headSpec w_CL_joinMeaningOfEqual rm_CL_joinMeaningOfEqual).room s m args below meth c H locs 0 0 (MQ below (va_Qi (fun r (u : St) => (r, u) = v) (fun u t => va_P D classes (Wc ty h u px) t.heap) A) args s 0 0 A) (F0 m 63 ls [.int s0, .ref (h 0)]) := by
    intro H locs ls x2 x3 s0 σ hv hk hl hP hD hS
    unfold f_CL_joinMeaningOfEqual_63 at hv
    unfold k_CL_joinMeaningOfEqual_63 at hk
    refine lv_iload_n hx hb d_CL_joinMeaningOfEqual_63 rfl (lv_at hl 1 rfl) ?_
    refine lv_aload_n hx hb d_CL_joinMeaningOfEqual_64 rfl (lv_at hl 0 rfl) ?_
    refine va_get (v := .ref (h 6)) (C := R_CL) (T := T_CL) (N := 11) hx hb hg in_CL hown hK hP 0 rfl rfl 1 (by decide) (hg _ m_285) (fun _ h9 => h9) rfl d_CL_joinMeaningOfEqual_65 ?_
    refine lv_iload_n hx hb d_CL_joinMeaningOfEqual_68 rfl (lv_at hl 2 rfl) ?_
    obtain ⟨hk0, hk⟩ := hk
    refine va_calli (va_runV (As := [.int x3]) (rest := [.int x2, .int s0, .ref (h 0)]) ⟨hx, hb, hml, hown, hg⟩ (c_Te_opposite l D ty h px σ H.size x3 hk0) ⟨callB_of 1 hg (gw_C m_1014) rfl rfl rfl (hg _ m_3) (hg _ m_1011) hd_Te_opposite ⟨Nat.le_of_ble_eq_true rfl, Nat.le_of_ble_eq_true rfl⟩, hg _ m_1012, hg _ m_1013⟩ (zz_preVW hN hK hP hD 6 rfl rfl) rfl rfl hl.1 rfl (lv_room (Nat.le_of_ble_eq_true rfl)) d_CL_joinMeaningOfEqual_69 ⟨Nat.le_of_ble_eq_true rfl, Nat.le_of_ble_eq_true rfl⟩) hS (fun q _ h => zz_free hD hS hA q h) (zz_free hD hS hA) (fun r69 u69 t H locs ht hvm hp hP1 hz hk1 hS => ?_)
    rw [ht] at hP1
    rw [← hp] at hv hk
    have hD : va_D A (Wc ty h u69 px) := zz_D hD rfl
    have hP := hP1
    exact B72 _ _ _ r69 x2 s0 u69 hv hk (lv_sub hl [] rfl) hP hD hS
  have B83 : ∀ (H : Heap) (locs : List Loc) (ls : Array Slot) (s0 : Int32) (σ : St), v = f_CL_joinMeaningOfEqual_83 s0 σ → k_CL_joinMeaningOfEqual_83 s0 σ → lv_has ls 5 [] → va_P D classes (Wc ty h σ px) H → va_D A (Wc ty h σ px) → va_S A s.heap H locs → W p l e (headSpec w_CL_joinMeaningOfEqual rm_CL_joinMeaningOfEqual).room s m args below meth c H locs 0 0 (MQ below (va_Qi (fun r (u : St) => (r, u) = v) (fun u t => va_P D classes (Wc ty h u px) t.heap) A) args s 0 0 A) (F0 m 83 ls [.int s0]) := by
    intro H locs ls s0 σ hv hk hl hP hD hS
    unfold f_CL_joinMeaningOfEqual_83 at hv
    unfold k_CL_joinMeaningOfEqual_83 at hk
    obtain ⟨hk0, hk⟩ := hk
    exact W.zret hx hb hr hk0 (fun t ht hW => ⟨⟨_, _, rfl, hv.symm, by dsimp only; rw [ht]; exact hP⟩, hS.F ht⟩) hS.2.2 d_CL_joinMeaningOfEqual_83
  have B105 : ∀ (H : Heap) (locs : List Loc) (ls : Array Slot) (s0 : Int32) (σ : St), v = f_CL_joinMeaningOfEqual_105 s0 σ → k_CL_joinMeaningOfEqual_105 s0 σ → lv_has ls 5 [] → va_P D classes (Wc ty h σ px) H → va_D A (Wc ty h σ px) → va_S A s.heap H locs → W p l e (headSpec w_CL_joinMeaningOfEqual rm_CL_joinMeaningOfEqual).room s m args below meth c H locs 0 0 (MQ below (va_Qi (fun r (u : St) => (r, u) = v) (fun u t => va_P D classes (Wc ty h u px) t.heap) A) args s 0 0 A) (F0 m 105 ls [.int s0]) := by
    intro H locs ls s0 σ hv hk hl hP hD hS
    unfold f_CL_joinMeaningOfEqual_105 at hv
    unfold k_CL_joinMeaningOfEqual_105 at hk
    obtain ⟨hk0, hk⟩ := hk
    exact W.zret hx hb hr hk0 (fun t ht hW => ⟨⟨_, _, rfl, hv.symm, by dsimp only; rw [ht]; exact hP⟩, hS.F ht⟩) hS.2.2 d_CL_joinMeaningOfEqual_105
  have B102 : ∀ (H : Heap) (locs : List Loc) (ls : Array Slot) (s0 : Int32) (s1 : Int32) (s2 : Int32) (σ : St), v = f_CL_joinMeaningOfEqual_102 s0 s1 s2 σ → k_CL_joinMeaningOfEqual_102 s0 s1 s2 σ → lv_has ls 5 [] → va_P D classes (Wc ty h σ px) H → va_D A (Wc ty h σ px) → va_S A s.heap H locs → W p l e (headSpec w_CL_joinMeaningOfEqual rm_CL_joinMeaningOfEqual).room s m args below meth c H locs 0 0 (MQ below (va_Qi (fun r (u : St) => (r, u) = v) (fun u t => va_P D classes (Wc ty h u px) t.heap) A) args s 0 0 A) (F0 m 102 ls [.int s0, .int s1, .int s2, .ref (h 0)]) := by
    intro H locs ls s0 s1 s2 σ hv hk hl hP hD hS
    unfold f_CL_joinMeaningOfEqual_102 at hv
    unfold k_CL_joinMeaningOfEqual_102 at hk
    obtain ⟨hk0, hk⟩ := hk
    refine va_calli (va_runV (As := [.int s2, .int s1, .int s0]) (rest := []) ⟨hx, hb, hml, hown, hg⟩ (c_CL_joinThree l D ty h px σ H.size s2 s1 s0 hk0) ⟨callB_of 3 hg (gw_C m_1019) rfl rfl rfl (hg _ m_1) (hg _ m_1016) hd_CL_joinThree ⟨Nat.le_of_ble_eq_true rfl, Nat.le_of_ble_eq_true rfl⟩, hg _ m_1018, hg _ ms_34⟩ (zz_preVW hN hK hP hD 0 rfl rfl) rfl rfl hl.1 rfl (lv_room (Nat.le_of_ble_eq_true rfl)) d_CL_joinMeaningOfEqual_102 ⟨Nat.le_of_ble_eq_true rfl, Nat.le_of_ble_eq_true rfl⟩) hS (fun q _ h => zz_free hD hS hA q h) (zz_free hD hS hA) (fun r102 u102 t H locs ht hvm hp hP1 hz hk1 hS => ?_)
    rw [ht] at hP1
    rw [← hp] at hv hk
    have hD : va_D A (Wc ty h u102 px) := zz_D hD rfl
    have hP := hP1
    exact B105 _ _ _ r102 u102 hv hk (lv_sub hl [] rfl) hP hD hS
  have B94 : ∀ (H : Heap) (locs : List Loc) (ls : Array Slot) (x3 : Int32) (s0 : Int32) (s1 : Int32) (σ : St), v = f_CL_joinMeaningOfEqual_94 x3 s0 s1 σ → k_CL_joinMeaningOfEqual_94 x3 s0 s1 σ → lv_has ls 5 [(0, .ref (h 0)), (3, .int x3)] → va_P D classes (Wc ty h σ px) H → va_D A (Wc ty h σ px) → va_S A s.heap H locs → W p l e (headSpec w_CL_joinMeaningOfEqual rm_CL_joinMeaningOfEqual).room s m args below meth c H locs 0 0 (MQ below (va_Qi (fun r (u : St) => (r, u) = v) (fun u t => va_P D classes (Wc ty h u px) t.heap) A) args s 0 0 A) (F0 m 94 ls [.int s0, .int s1, .ref (h 0)]) := by
    intro H locs ls x3 s0 s1 σ hv hk hl hP hD hS
    unfold f_CL_joinMeaningOfEqual_94 at hv
    unfold k_CL_joinMeaningOfEqual_94 at hk
    refine lv_aload_n hx hb d_CL_joinMeaningOfEqual_94 rfl (lv_at hl 0 rfl) ?_
    refine va_get (v := .ref (h 6)) (C := R_CL) (T := T_CL) (N := 11) hx hb hg in_CL hown hK hP 0 rfl rfl 1 (by decide) (hg _ m_285) (fun _ h9 => h9) rfl d_CL_joinMeaningOfEqual_95 ?_
    refine lv_iload_n hx hb d_CL_joinMeaningOfEqual_98 rfl (lv_at hl 1 rfl) ?_
    obtain ⟨hk0, hk⟩ := hk
    refine va_calli (va_runV (As := [.int x3]) (rest := [.int s0, .int s1, .ref (h 0)]) ⟨hx, hb, hml, hown, hg⟩ (c_Te_opposite l D ty h px σ H.size x3 hk0) ⟨callB_of 1 hg (gw_C m_1014) rfl rfl rfl (hg _ m_3) (hg _ m_1011) hd_Te_opposite ⟨Nat.le_of_ble_eq_true rfl, Nat.le_of_ble_eq_true rfl⟩, hg _ m_1012, hg _ m_1013⟩ (zz_preVW hN hK hP hD 6 rfl rfl) rfl rfl hl.1 rfl (lv_room (Nat.le_of_ble_eq_true rfl)) d_CL_joinMeaningOfEqual_99 ⟨Nat.le_of_ble_eq_true rfl, Nat.le_of_ble_eq_true rfl⟩) hS (fun q _ h => zz_free hD hS hA q h) (zz_free hD hS hA) (fun r99 u99 t H locs ht hvm hp hP1 hz hk1 hS => ?_)
    rw [ht] at hP1
    rw [← hp] at hv hk
    have hD : va_D A (Wc ty h u99 px) := zz_D hD rfl
    have hP := hP1
    exact B102 _ _ _ r99 s0 s1 u99 hv hk (lv_sub hl [] rfl) hP hD hS
  unfold f_CL_joinMeaningOfEqual at hv
  unfold k_CL_joinMeaningOfEqual at hk
  refine lv_iload hx hb d_CL_joinMeaningOfEqual_0 (lv_at hl 4 rfl) ?_
  by_cases hc0 : a4 = 0
  · have hv := hv.trans (if_pos hc0)
    have hk := hk.1 hc0
    refine lv_tableIn (tgt := 32) hx hb d_CL_joinMeaningOfEqual_2 (by rw [hc0]; decide) (by rw [hc0]; decide) (by rw [hc0]; rfl) (by decide) ?_
    refine lv_aload_n hx hb d_CL_joinMeaningOfEqual_32 rfl (lv_at hl 0 rfl) ?_
    refine lv_aload_n hx hb d_CL_joinMeaningOfEqual_33 rfl (lv_at hl 0 rfl) ?_
    refine va_get (v := .ref (h 6)) (C := R_CL) (T := T_CL) (N := 11) hx hb hg in_CL hown hK hP 0 rfl rfl 1 (by decide) (hg _ m_285) (fun _ h9 => h9) rfl d_CL_joinMeaningOfEqual_34 ?_
    refine lv_iload_n hx hb d_CL_joinMeaningOfEqual_37 rfl (lv_at hl 1 rfl) ?_
    obtain ⟨hk0, hk⟩ := hk
    refine va_calli (va_runV (As := [.int a1]) (rest := [.ref (h 0)]) ⟨hx, hb, hml, hown, hg⟩ (c_Te_opposite l D ty h px σ s.heap.size a1 hk0) ⟨callB_of 1 hg (gw_C m_1014) rfl rfl rfl (hg _ m_3) (hg _ m_1011) hd_Te_opposite ⟨Nat.le_of_ble_eq_true rfl, Nat.le_of_ble_eq_true rfl⟩, hg _ m_1012, hg _ m_1013⟩ (zz_preVW hN hK hP hD 6 rfl rfl) rfl rfl hl.1 rfl (lv_room (Nat.le_of_ble_eq_true rfl)) d_CL_joinMeaningOfEqual_38 ⟨Nat.le_of_ble_eq_true rfl, Nat.le_of_ble_eq_true rfl⟩) hS (fun q _ h => zz_free hD hS hA q h) (zz_free hD hS hA) (fun r38 u38 t H locs ht hvm hp hP1 hz hk1 hS => ?_)
    rw [ht] at hP1
    rw [← hp] at hv hk
    have hD : va_D A (Wc ty h u38 px) := zz_D hD rfl
    have hP := hP1
    exact B41 _ _ _ a2 a3 r38 u38 hv hk (lv_sub hl [0, 2, 3] rfl) hP hD hS
  · have hv := hv.trans (if_neg hc0)
    have hk := hk.2 hc0
    by_cases hc1 : a4 = 1
    · have hv := hv.trans (if_pos hc1)
      have hk := hk.1 hc1
      refine lv_tableIn (tgt := 54) hx hb d_CL_joinMeaningOfEqual_2 (by rw [hc1]; decide) (by rw [hc1]; decide) (by rw [hc1]; rfl) (by decide) ?_
      refine lv_aload_n hx hb d_CL_joinMeaningOfEqual_54 rfl (lv_at hl 0 rfl) ?_
      refine lv_aload_n hx hb d_CL_joinMeaningOfEqual_55 rfl (lv_at hl 0 rfl) ?_
      refine va_get (v := .ref (h 6)) (C := R_CL) (T := T_CL) (N := 11) hx hb hg in_CL hown hK hP 0 rfl rfl 1 (by decide) (hg _ m_285) (fun _ h9 => h9) rfl d_CL_joinMeaningOfEqual_56 ?_
      refine lv_iload_n hx hb d_CL_joinMeaningOfEqual_59 rfl (lv_at hl 1 rfl) ?_
      obtain ⟨hk0, hk⟩ := hk
      refine va_calli (va_runV (As := [.int a1]) (rest := [.ref (h 0)]) ⟨hx, hb, hml, hown, hg⟩ (c_Te_opposite l D ty h px σ s.heap.size a1 hk0) ⟨callB_of 1 hg (gw_C m_1014) rfl rfl rfl (hg _ m_3) (hg _ m_1011) hd_Te_opposite ⟨Nat.le_of_ble_eq_true rfl, Nat.le_of_ble_eq_true rfl⟩, hg _ m_1012, hg _ m_1013⟩ (zz_preVW hN hK hP hD 6 rfl rfl) rfl rfl hl.1 rfl (lv_room (Nat.le_of_ble_eq_true rfl)) d_CL_joinMeaningOfEqual_60 ⟨Nat.le_of_ble_eq_true rfl, Nat.le_of_ble_eq_true rfl⟩) hS (fun q _ h => zz_free hD hS hA q h) (zz_free hD hS hA) (fun r60 u60 t H locs ht hvm hp hP1 hz hk1 hS => ?_)
      rw [ht] at hP1
      rw [← hp] at hv hk
      have hD : va_D A (Wc ty h u60 px) := zz_D hD rfl
      have hP := hP1
      exact B63 _ _ _ a2 a3 r60 u60 hv hk (lv_sub hl [0, 2, 3] rfl) hP hD hS
    · have hv := hv.trans (if_neg hc1)
      have hk := hk.2 hc1
      by_cases hc2 : a4 = 2
      · have hv := hv.trans (if_pos hc2)
        have hk := hk.1 hc2
        refine lv_tableIn (tgt := 76) hx hb d_CL_joinMeaningOfEqual_2 (by rw [hc2]; decide) (by rw [hc2]; decide) (by rw [hc2]; rfl) (by decide) ?_
        refine lv_aload_n hx hb d_CL_joinMeaningOfEqual_76 rfl (lv_at hl 0 rfl) ?_
        refine lv_iload_n hx hb d_CL_joinMeaningOfEqual_77 rfl (lv_at hl 1 rfl) ?_
        refine lv_iload_n hx hb d_CL_joinMeaningOfEqual_78 rfl (lv_at hl 2 rfl) ?_
        refine lv_iload_n hx hb d_CL_joinMeaningOfEqual_79 rfl (lv_at hl 3 rfl) ?_
        obtain ⟨hk0, hk⟩ := hk
        refine va_calli (va_runV (As := [.int a1, .int a2, .int a3]) (rest := []) ⟨hx, hb, hml, hown, hg⟩ (c_CL_joinThree l D ty h px σ s.heap.size a1 a2 a3 hk0) ⟨callB_of 3 hg (gw_C m_1019) rfl rfl rfl (hg _ m_1) (hg _ m_1016) hd_CL_joinThree ⟨Nat.le_of_ble_eq_true rfl, Nat.le_of_ble_eq_true rfl⟩, hg _ m_1018, hg _ ms_34⟩ (zz_preVW hN hK hP hD 0 rfl rfl) rfl rfl hl.1 rfl (lv_room (Nat.le_of_ble_eq_true rfl)) d_CL_joinMeaningOfEqual_80 ⟨Nat.le_of_ble_eq_true rfl, Nat.le_of_ble_eq_true rfl⟩) hS (fun q _ h => zz_free hD hS hA q h) (zz_free hD hS hA) (fun r80 u80 t H locs ht hvm hp hP1 hz hk1 hS => ?_)
        rw [ht] at hP1
        rw [← hp] at hv hk
        have hD : va_D A (Wc ty h u80 px) := zz_D hD rfl
        have hP := hP1
        exact B83 _ _ _ r80 u80 hv hk (lv_sub hl [] rfl) hP hD hS
      · have hv := hv.trans (if_neg hc2)
        have hk := hk.2 hc2
        by_cases hc3 : a4 = 3
        · have hv := hv.trans (if_pos hc3)
          have hk := hk.1 hc3
          refine lv_tableIn (tgt := 84) hx hb d_CL_joinMeaningOfEqual_2 (by rw [hc3]; decide) (by rw [hc3]; decide) (by rw [hc3]; rfl) (by decide) ?_
          refine lv_aload_n hx hb d_CL_joinMeaningOfEqual_84 rfl (lv_at hl 0 rfl) ?_
          refine lv_iload_n hx hb d_CL_joinMeaningOfEqual_85 rfl (lv_at hl 1 rfl) ?_
          refine lv_aload_n hx hb d_CL_joinMeaningOfEqual_86 rfl (lv_at hl 0 rfl) ?_
          refine va_get (v := .ref (h 6)) (C := R_CL) (T := T_CL) (N := 11) hx hb hg in_CL hown hK hP 0 rfl rfl 1 (by decide) (hg _ m_285) (fun _ h9 => h9) rfl d_CL_joinMeaningOfEqual_87 ?_
          refine lv_iload_n hx hb d_CL_joinMeaningOfEqual_90 rfl (lv_at hl 2 rfl) ?_
          obtain ⟨hk0, hk⟩ := hk
          refine va_calli (va_runV (As := [.int a2]) (rest := [.int a1, .ref (h 0)]) ⟨hx, hb, hml, hown, hg⟩ (c_Te_opposite l D ty h px σ s.heap.size a2 hk0) ⟨callB_of 1 hg (gw_C m_1014) rfl rfl rfl (hg _ m_3) (hg _ m_1011) hd_Te_opposite ⟨Nat.le_of_ble_eq_true rfl, Nat.le_of_ble_eq_true rfl⟩, hg _ m_1012, hg _ m_1013⟩ (zz_preVW hN hK hP hD 6 rfl rfl) rfl rfl hl.1 rfl (lv_room (Nat.le_of_ble_eq_true rfl)) d_CL_joinMeaningOfEqual_91 ⟨Nat.le_of_ble_eq_true rfl, Nat.le_of_ble_eq_true rfl⟩) hS (fun q _ h => zz_free hD hS hA q h) (zz_free hD hS hA) (fun r91 u91 t H locs ht hvm hp hP1 hz hk1 hS => ?_)
          rw [ht] at hP1
          rw [← hp] at hv hk
          have hD : va_D A (Wc ty h u91 px) := zz_D hD rfl
          have hP := hP1
          exact B94 _ _ _ a3 r91 a1 u91 hv hk (lv_sub hl [0, 3] rfl) hP hD hS
        · have hv := hv.trans (if_neg hc3)
          have hk := hk.2 hc3
          refine lv_tableOut (tgt := 106) hx hb d_CL_joinMeaningOfEqual_2 (by have := lv_neT hc0 (by decide : (0 : Int32).toInt = 0); have := lv_neT hc1 (by decide : (1 : Int32).toInt = 1); have := lv_neT hc2 (by decide : (2 : Int32).toInt = 2); have := lv_neT hc3 (by decide : (3 : Int32).toInt = 3); omega) (by decide) ?_
          refine lv_iconst (v := 0) hx hb d_CL_joinMeaningOfEqual_106 (by decide) ?_
          exact W.zret hx hb hr rfl (fun t ht hW => ⟨⟨_, _, rfl, hv.symm, by dsimp only; rw [ht]; exact hP⟩, hS.F ht⟩) hS.2.2 d_CL_joinMeaningOfEqual_107

-- ClauseLedger.joinMeaning(II)Z
abbrev b_CL_joinMeaning : ByteArray := prog_1_method_28_code
def y_CL_joinMeaning : MethodName := ⟨"ClauseLedger", "joinMeaning", "(II)Z"⟩
theorem hd_CL_joinMeaning : y_CL_joinMeaning.cls ≠ "java/lang/invoke/MethodHandle" ∧ y_CL_joinMeaning.cls ≠ "java/lang/invoke/VarHandle" ∧ (parseMethodDescriptor y_CL_joinMeaning.desc).map (fun d => d.parameters.length) = some 2 := by decide +kernel
theorem d_CL_joinMeaning_0 : decode b_CL_joinMeaning 0 = .ok (.aload_n 0, 1) := by decide +kernel
theorem d_CL_joinMeaning_1 : decode b_CL_joinMeaning 1 = .ok (.getfield 19, 3) := by decide +kernel
theorem d_CL_joinMeaning_4 : decode b_CL_joinMeaning 4 = .ok (.iload_n 1, 1) := by decide +kernel
theorem d_CL_joinMeaning_5 : decode b_CL_joinMeaning 5 = .ok (.invokevirtual 179, 3) := by decide +kernel
theorem d_CL_joinMeaning_8 : decode b_CL_joinMeaning 8 = .ok (.istore_n 3, 1) := by decide +kernel
theorem d_CL_joinMeaning_9 : decode b_CL_joinMeaning 9 = .ok (.aload_n 0, 1) := by decide +kernel
theorem d_CL_joinMeaning_10 : decode b_CL_joinMeaning 10 = .ok (.getfield 19, 3) := by decide +kernel
theorem d_CL_joinMeaning_13 : decode b_CL_joinMeaning 13 = .ok (.iload_n 1, 1) := by decide +kernel
theorem d_CL_joinMeaning_14 : decode b_CL_joinMeaning 14 = .ok (.invokevirtual 176, 3) := by decide +kernel
theorem d_CL_joinMeaning_17 : decode b_CL_joinMeaning 17 = .ok (.istore 4, 2) := by decide +kernel
theorem d_CL_joinMeaning_19 : decode b_CL_joinMeaning 19 = .ok (.aload_n 0, 1) := by decide +kernel
theorem d_CL_joinMeaning_20 : decode b_CL_joinMeaning 20 = .ok (.getfield 19, 3) := by decide +kernel
theorem d_CL_joinMeaning_23 : decode b_CL_joinMeaning 23 = .ok (.iload_n 1, 1) := by decide +kernel
theorem d_CL_joinMeaning_24 : decode b_CL_joinMeaning 24 = .ok (.invokevirtual 173, 3) := by decide +kernel
theorem d_CL_joinMeaning_27 : decode b_CL_joinMeaning 27 = .ok (.tableswitch 82 5 9 #[53, 82, 82, 33, 43], 33) := by decide +kernel
theorem d_CL_joinMeaning_60 : decode b_CL_joinMeaning 60 = .ok (.aload_n 0, 1) := by decide +kernel
theorem d_CL_joinMeaning_61 : decode b_CL_joinMeaning 61 = .ok (.iload_n 1, 1) := by decide +kernel
theorem d_CL_joinMeaning_62 : decode b_CL_joinMeaning 62 = .ok (.iload_n 3, 1) := by decide +kernel
theorem d_CL_joinMeaning_63 : decode b_CL_joinMeaning 63 = .ok (.iload 4, 2) := by decide +kernel
theorem d_CL_joinMeaning_65 : decode b_CL_joinMeaning 65 = .ok (.iload_n 2, 1) := by decide +kernel
theorem d_CL_joinMeaning_66 : decode b_CL_joinMeaning 66 = .ok (.invokevirtual 274, 3) := by decide +kernel
theorem d_CL_joinMeaning_69 : decode b_CL_joinMeaning 69 = .ok (.ireturn, 1) := by decide +kernel
theorem d_CL_joinMeaning_70 : decode b_CL_joinMeaning 70 = .ok (.aload_n 0, 1) := by decide +kernel
theorem d_CL_joinMeaning_71 : decode b_CL_joinMeaning 71 = .ok (.iload_n 1, 1) := by decide +kernel
theorem d_CL_joinMeaning_72 : decode b_CL_joinMeaning 72 = .ok (.iload_n 3, 1) := by decide +kernel
theorem d_CL_joinMeaning_73 : decode b_CL_joinMeaning 73 = .ok (.iload 4, 2) := by decide +kernel
theorem d_CL_joinMeaning_75 : decode b_CL_joinMeaning 75 = .ok (.iload_n 2, 1) := by decide +kernel
theorem d_CL_joinMeaning_76 : decode b_CL_joinMeaning 76 = .ok (.invokevirtual 278, 3) := by decide +kernel
theorem d_CL_joinMeaning_79 : decode b_CL_joinMeaning 79 = .ok (.ireturn, 1) := by decide +kernel
theorem d_CL_joinMeaning_80 : decode b_CL_joinMeaning 80 = .ok (.aload_n 0, 1) := by decide +kernel
theorem d_CL_joinMeaning_81 : decode b_CL_joinMeaning 81 = .ok (.getfield 19, 3) := by decide +kernel
theorem d_CL_joinMeaning_84 : decode b_CL_joinMeaning 84 = .ok (.iload_n 3, 1) := by decide +kernel
theorem d_CL_joinMeaning_85 : decode b_CL_joinMeaning 85 = .ok (.invokevirtual 137, 3) := by decide +kernel
theorem d_CL_joinMeaning_88 : decode b_CL_joinMeaning 88 = .ok (.ifCond .eq 19, 3) := by decide +kernel
theorem d_CL_joinMeaning_91 : decode b_CL_joinMeaning 91 = .ok (.aload_n 0, 1) := by decide +kernel
theorem d_CL_joinMeaning_92 : decode b_CL_joinMeaning 92 = .ok (.iload_n 1, 1) := by decide +kernel
theorem d_CL_joinMeaning_93 : decode b_CL_joinMeaning 93 = .ok (.iload_n 3, 1) := by decide +kernel
theorem d_CL_joinMeaning_94 : decode b_CL_joinMeaning 94 = .ok (.iload 4, 2) := by decide +kernel
theorem d_CL_joinMeaning_96 : decode b_CL_joinMeaning 96 = .ok (.iload_n 2, 1) := by decide +kernel
theorem d_CL_joinMeaning_97 : decode b_CL_joinMeaning 97 = .ok (.invokevirtual 281, 3) := by decide +kernel
theorem d_CL_joinMeaning_100 : decode b_CL_joinMeaning 100 = .ok (.ifCond .eq 7, 3) := by decide +kernel
theorem d_CL_joinMeaning_103 : decode b_CL_joinMeaning 103 = .ok (.iconst 1, 1) := by decide +kernel
theorem d_CL_joinMeaning_104 : decode b_CL_joinMeaning 104 = .ok (.goto 4, 3) := by decide +kernel
theorem d_CL_joinMeaning_107 : decode b_CL_joinMeaning 107 = .ok (.iconst 0, 1) := by decide +kernel
theorem d_CL_joinMeaning_108 : decode b_CL_joinMeaning 108 = .ok (.ireturn, 1) := by decide +kernel
theorem d_CL_joinMeaning_109 : decode b_CL_joinMeaning 109 = .ok (.iconst 0, 1) := by decide +kernel
theorem d_CL_joinMeaning_110 : decode b_CL_joinMeaning 110 = .ok (.ireturn, 1) := by decide +kernel
def f_CL_joinMeaning_69 (s0 : Int32) (σ : St) : Int32 × St := (s0, σ)
def k_CL_joinMeaning_69 (s0 : Int32) (σ : St) : Prop := (narrow .boolean (.int s0) = .int s0) ∧ True
def f_CL_joinMeaning_79 (s0 : Int32) (σ : St) : Int32 × St := (s0, σ)
def k_CL_joinMeaning_79 (s0 : Int32) (σ : St) : Prop := (narrow .boolean (.int s0) = .int s0) ∧ True
def f_CL_joinMeaning_108 (s0 : Int32) (σ : St) : Int32 × St := (s0, σ)
def k_CL_joinMeaning_108 (s0 : Int32) (σ : St) : Prop := (narrow .boolean (.int s0) = .int s0) ∧ True
def f_CL_joinMeaning_107 (σ : St) : Int32 × St := f_CL_joinMeaning_108 0 σ
def k_CL_joinMeaning_107 (σ : St) : Prop := k_CL_joinMeaning_108 0 σ
def f_CL_joinMeaning_100 (s0 : Int32) (σ : St) : Int32 × St := if s0 = 0 then (f_CL_joinMeaning_107 σ) else (f_CL_joinMeaning_108 1 σ)
def k_CL_joinMeaning_100 (s0 : Int32) (σ : St) : Prop := (s0 = 0 → (k_CL_joinMeaning_107 σ)) ∧ (¬ s0 = 0 → (k_CL_joinMeaning_108 1 σ))
def f_CL_joinMeaning_19 (x1 : Int32) (x2 : Int32) (x3 : Int32) (x4 : Int32) (σ : St) : Int32 × St := if (f_Te_kindOf x1 σ) = 5 then (if (f_Te_isTruth x3 σ) = 0 then (f_CL_joinMeaning_107 σ) else (f_CL_joinMeaning_100 ((f_CL_joinMeaningOfEqual x1 x3 x4 x2 σ).1) ((f_CL_joinMeaningOfEqual x1 x3 x4 x2 σ).2))) else (if (f_Te_kindOf x1 σ) = 6 then (0, σ) else (if (f_Te_kindOf x1 σ) = 7 then (0, σ) else (if (f_Te_kindOf x1 σ) = 8 then (f_CL_joinMeaning_69 ((f_CL_joinMeaningOfAnd x1 x3 x4 x2 σ).1) ((f_CL_joinMeaningOfAnd x1 x3 x4 x2 σ).2)) else (if (f_Te_kindOf x1 σ) = 9 then (f_CL_joinMeaning_79 ((f_CL_joinMeaningOfOr x1 x3 x4 x2 σ).1) ((f_CL_joinMeaningOfOr x1 x3 x4 x2 σ).2)) else (0, σ)))))
def k_CL_joinMeaning_19 (x1 : Int32) (x2 : Int32) (x3 : Int32) (x4 : Int32) (σ : St) : Prop := (k_Te_kindOf x1 σ) ∧ (((f_Te_kindOf x1 σ) = 5 → ((k_Te_isTruth x3 σ) ∧ (((f_Te_isTruth x3 σ) = 0 → (k_CL_joinMeaning_107 σ)) ∧ (¬ (f_Te_isTruth x3 σ) = 0 → ((k_CL_joinMeaningOfEqual x1 x3 x4 x2 σ) ∧ (k_CL_joinMeaning_100 ((f_CL_joinMeaningOfEqual x1 x3 x4 x2 σ).1) ((f_CL_joinMeaningOfEqual x1 x3 x4 x2 σ).2))))))) ∧ (¬ (f_Te_kindOf x1 σ) = 5 → (((f_Te_kindOf x1 σ) = 6 → True) ∧ (¬ (f_Te_kindOf x1 σ) = 6 → (((f_Te_kindOf x1 σ) = 7 → True) ∧ (¬ (f_Te_kindOf x1 σ) = 7 → (((f_Te_kindOf x1 σ) = 8 → ((k_CL_joinMeaningOfAnd x1 x3 x4 x2 σ) ∧ (k_CL_joinMeaning_69 ((f_CL_joinMeaningOfAnd x1 x3 x4 x2 σ).1) ((f_CL_joinMeaningOfAnd x1 x3 x4 x2 σ).2)))) ∧ (¬ (f_Te_kindOf x1 σ) = 8 → (((f_Te_kindOf x1 σ) = 9 → ((k_CL_joinMeaningOfOr x1 x3 x4 x2 σ) ∧ (k_CL_joinMeaning_79 ((f_CL_joinMeaningOfOr x1 x3 x4 x2 σ).1) ((f_CL_joinMeaningOfOr x1 x3 x4 x2 σ).2)))) ∧ (¬ (f_Te_kindOf x1 σ) = 9 → True))))))))))
def f_CL_joinMeaning_9 (x1 : Int32) (x2 : Int32) (x3 : Int32) (σ : St) : Int32 × St := f_CL_joinMeaning_19 x1 x2 x3 (f_Te_secondOf x1 σ) σ
def k_CL_joinMeaning_9 (x1 : Int32) (x2 : Int32) (x3 : Int32) (σ : St) : Prop := (k_Te_secondOf x1 σ) ∧ (k_CL_joinMeaning_19 x1 x2 x3 (f_Te_secondOf x1 σ) σ)
def f_CL_joinMeaning (a1 : Int32) (a2 : Int32) (σ : St) : Int32 × St := f_CL_joinMeaning_9 a1 a2 (f_Te_firstOf a1 σ) σ
def k_CL_joinMeaning (a1 : Int32) (a2 : Int32) (σ : St) : Prop := (k_Te_firstOf a1 σ) ∧ (k_CL_joinMeaning_9 a1 a2 (f_Te_firstOf a1 σ) σ)
abbrev w_CL_joinMeaning : List Cond := Cond.code y_CL_joinMeaning b_CL_joinMeaning 5 (some .boolean) :: gw
abbrev rm_CL_joinMeaning : Room := { frames := 5, cells := 0, slots := 0, locals := 121 }
set_option maxHeartbeats 4000000 in
set_option maxRecDepth 100000 in
theorem c_CL_joinMeaning (l : Launch) (D : va_G) (ty : Nat → ClassId) (h : Nat → Nat) (px : va_W) (σ : St) (sz : Nat) (a1 : Int32) (a2 : Int32) (hk : k_CL_joinMeaning a1 a2 σ) : Met l y_CL_joinMeaning w_CL_joinMeaning rm_CL_joinMeaning (va_Pc [.ref (h 0), .int a1, .int a2] (fun U => U.heap.size = sz ∧ va_P D classes (Wc ty h σ px) U.heap ∧ va_K D classes (Ta ty) U ∧ NW U ∧ va_D (fun _ => True) (Wc ty h σ px))) (va_Qi (fun r (u : St) => (r, u) = f_CL_joinMeaning a1 a2 σ) (fun u t => va_P D classes (Wc ty h u px) t.heap) (va_A (Wc ty h σ px) sz)) 0 0 (va_A (Wc ty h σ px) sz) := by
  refine Met.ofW (cc := b_CL_joinMeaning) (maxL := 5) (ret := (some .boolean)) (by decide) rfl ?_
  intro p e s m args below meth c s₁ B hml hv
  obtain ⟨ha, hsz, hP, hK, hN, hD0⟩ := hv
  have hx := B.exec
  have hb := B.bytes
  have hr := B.returns
  have hg : ∀ w ∈ gw, w.before args s = true := fun w h9 => atoms_spec (ws := w_CL_joinMeaning) B.pre w (List.mem_cons_of_mem _ h9)
  have hown : s.vm.findClass "ClauseLedger" = some m.cls := findClass_of_methodNamed B.named
  have hlocks := B.notSynchronized
  subst hsz
  have hD := hD0.self (sz := s.heap.size)
  generalize hAe : va_A (Wc ty h σ px) s.heap.size = A at hD ⊢
  have hA : ∀ q : Nat, s.heap.size ≤ q → A q := fun q h9 => by rw [← hAe]; exact Or.inr h9
  have hS : va_S A s.heap s.heap [] := va_S.rf
  have he : entryFrame m args 5 = entryFrame m ([.ref (h 0), .int a1, .int a2] : List Value).toArray 5 := by rw [ha]
  rw [he, lg_entry_eq]
  have hl := lv_entry ([.ref (h 0), .int a1, .int a2]) (n := 5) (Nat.le_of_ble_eq_true rfl)
  generalize (lg_sl ([.ref (h 0), .int a1, .int a2]) ++ List.replicate (5 - (lg_sl ([.ref (h 0), .int a1, .int a2])).length) Slot.unset).toArray = ls at hl ⊢
  have hl : lv_has ls 5 [(0, .ref (h 0)), (1, .int a1), (2, .int a2)] := hl
  generalize hv : f_CL_joinMeaning a1 a2 σ = v
  replace hv := hv.symm
  have B69 : ∀ (H : Heap) (locs : List Loc) (ls : Array Slot) (s0 : Int32) (σ : St), v = f_CL_joinMeaning_69 s0 σ → k_CL_joinMeaning_69 s0 σ → lv_has ls 5 [] → va_P D classes (Wc ty h σ px) H → va_D A (Wc ty h σ px) → va_S A s.heap H locs → W p l e (headSpec w_CL_joinMeaning rm_CL_joinMeaning).room s m args below meth c H locs 0 0 (MQ below (va_Qi (fun r (u : St) => (r, u) = v) (fun u t => va_P D classes (Wc ty h u px) t.heap) A) args s 0 0 A) (F0 m 69 ls [.int s0]) := by
    intro H locs ls s0 σ hv hk hl hP hD hS
    unfold f_CL_joinMeaning_69 at hv
    unfold k_CL_joinMeaning_69 at hk
    obtain ⟨hk0, hk⟩ := hk
    exact W.zret hx hb hr hk0 (fun t ht hW => ⟨⟨_, _, rfl, hv.symm, by dsimp only; rw [ht]; exact hP⟩, hS.F ht⟩) hS.2.2 d_CL_joinMeaning_69
  have B79 : ∀ (H : Heap) (locs : List Loc) (ls : Array Slot) (s0 : Int32) (σ : St), v = f_CL_joinMeaning_79 s0 σ → k_CL_joinMeaning_79 s0 σ → lv_has ls 5 [] → va_P D classes (Wc ty h σ px) H → va_D A (Wc ty h σ px) → va_S A s.heap H locs → W p l e (headSpec w_CL_joinMeaning rm_CL_joinMeaning).room s m args below meth c H locs 0 0 (MQ below (va_Qi (fun r (u : St) => (r, u) = v) (fun u t => va_P D classes (Wc ty h u px) t.heap) A) args s 0 0 A) (F0 m 79 ls [.int s0]) := by
    intro H locs ls s0 σ hv hk hl hP hD hS
    unfold f_CL_joinMeaning_79 at hv
    unfold k_CL_joinMeaning_79 at hk
    obtain ⟨hk0, hk⟩ := hk
    exact W.zret hx hb hr hk0 (fun t ht hW => ⟨⟨_, _, rfl, hv.symm, by dsimp only; rw [ht]; exact hP⟩, hS.F ht⟩) hS.2.2 d_CL_joinMeaning_79
  have B108 : ∀ (H : Heap) (locs : List Loc) (ls : Array Slot) (s0 : Int32) (σ : St), v = f_CL_joinMeaning_108 s0 σ → k_CL_joinMeaning_108 s0 σ → lv_has ls 5 [] → va_P D classes (Wc ty h σ px) H → va_D A (Wc ty h σ px) → va_S A s.heap H locs → W p l e (headSpec w_CL_joinMeaning rm_CL_joinMeaning).room s m args below meth c H locs 0 0 (MQ below (va_Qi (fun r (u : St) => (r, u) = v) (fun u t => va_P D classes (Wc ty h u px) t.heap) A) args s 0 0 A) (F0 m 108 ls [.int s0]) := by
    intro H locs ls s0 σ hv hk hl hP hD hS
    unfold f_CL_joinMeaning_108 at hv
    unfold k_CL_joinMeaning_108 at hk
    obtain ⟨hk0, hk⟩ := hk
    exact W.zret hx hb hr hk0 (fun t ht hW => ⟨⟨_, _, rfl, hv.symm, by dsimp only; rw [ht]; exact hP⟩, hS.F ht⟩) hS.2.2 d_CL_joinMeaning_108
  have B107 : ∀ (H : Heap) (locs : List Loc) (ls : Array Slot) (σ : St), v = f_CL_joinMeaning_107 σ → k_CL_joinMeaning_107 σ → lv_has ls 5 [] → va_P D classes (Wc ty h σ px) H → va_D A (Wc ty h σ px) → va_S A s.heap H locs → W p l e (headSpec w_CL_joinMeaning rm_CL_joinMeaning).room s m args below meth c H locs 0 0 (MQ below (va_Qi (fun r (u : St) => (r, u) = v) (fun u t => va_P D classes (Wc ty h u px) t.heap) A) args s 0 0 A) (F0 m 107 ls []) := by
    intro H locs ls σ hv hk hl hP hD hS
    unfold f_CL_joinMeaning_107 at hv
    unfold k_CL_joinMeaning_107 at hk
    refine lv_iconst (v := 0) hx hb d_CL_joinMeaning_107 (by decide) ?_
    exact B108 _ _ _ 0 σ hv hk (lv_sub hl [] rfl) hP hD hS
  have B100 : ∀ (H : Heap) (locs : List Loc) (ls : Array Slot) (s0 : Int32) (σ : St), v = f_CL_joinMeaning_100 s0 σ → k_CL_joinMeaning_100 s0 σ → lv_has ls 5 [] → va_P D classes (Wc ty h σ px) H → va_D A (Wc ty h σ px) → va_S A s.heap H locs → W p l e (headSpec w_CL_joinMeaning rm_CL_joinMeaning).room s m args below meth c H locs 0 0 (MQ below (va_Qi (fun r (u : St) => (r, u) = v) (fun u t => va_P D classes (Wc ty h u px) t.heap) A) args s 0 0 A) (F0 m 100 ls [.int s0]) := by
    intro H locs ls s0 σ hv hk hl hP hD hS
    unfold f_CL_joinMeaning_100 at hv
    unfold k_CL_joinMeaning_100 at hk
    refine lv_if_eq (tgt := 107) hx hb d_CL_joinMeaning_100 (by decide) (fun hc => ?_) (fun hc => ?_)
    · have hv := hv.trans (if_pos hc)
      have hk := hk.1 hc
      exact B107 _ _ _  σ hv hk (lv_sub hl [] rfl) hP hD hS
    · have hv := hv.trans (if_neg hc)
      have hk := hk.2 hc
      refine lv_iconst (v := 1) hx hb d_CL_joinMeaning_103 (by decide) ?_
      refine lv_goto (tgt := 108) hx hb d_CL_joinMeaning_104 (by decide) ?_
      exact B108 _ _ _ 1 σ hv hk (lv_sub hl [] rfl) hP hD hS
  have B19 : ∀ (H : Heap) (locs : List Loc) (ls : Array Slot) (x1 : Int32) (x2 : Int32) (x3 : Int32) (x4 : Int32) (σ : St), v = f_CL_joinMeaning_19 x1 x2 x3 x4 σ → k_CL_joinMeaning_19 x1 x2 x3 x4 σ → lv_has ls 5 [(0, .ref (h 0)), (1, .int x1), (2, .int x2), (3, .int x3), (4, .int x4)] → va_P D classes (Wc ty h σ px) H → va_D A (Wc ty h σ px) → va_S A s.heap H locs → W p l e (headSpec w_CL_joinMeaning rm_CL_joinMeaning).room s m args below meth c H locs 0 0 (MQ below (va_Qi (fun r (u : St) => (r, u) = v) (fun u t => va_P D classes (Wc ty h u px) t.heap) A) args s 0 0 A) (F0 m 19 ls []) := by
    intro H locs ls x1 x2 x3 x4 σ hv hk hl hP hD hS
    unfold f_CL_joinMeaning_19 at hv
    unfold k_CL_joinMeaning_19 at hk
    refine lv_aload_n hx hb d_CL_joinMeaning_19 rfl (lv_at hl 0 rfl) ?_
    refine va_get (v := .ref (h 6)) (C := R_CL) (T := T_CL) (N := 11) hx hb hg in_CL hown hK hP 0 rfl rfl 1 (by decide) (hg _ m_285) (fun _ h9 => h9) rfl d_CL_joinMeaning_20 ?_
    refine lv_iload_n hx hb d_CL_joinMeaning_23 rfl (lv_at hl 1 rfl) ?_
    obtain ⟨hk0, hk⟩ := hk
    refine zz_callV (va_runV (As := [.int x1]) (rest := []) ⟨hx, hb, hml, hown, hg⟩ (c_Te_kindOf l D ty h px σ x1 hk0) ⟨callB_of 1 hg (gw_C m_434) rfl rfl rfl (hg _ m_3) (hg _ m_431) hd_Te_kindOf ⟨Nat.le_of_ble_eq_true rfl, Nat.le_of_ble_eq_true rfl⟩, hg _ m_432, hg _ m_433⟩ (zz_preV hN hK hP 6 rfl rfl) rfl rfl hl.1 rfl (lv_room (Nat.le_of_ble_eq_true rfl)) d_CL_joinMeaning_24 ⟨Nat.le_of_ble_eq_true rfl, Nat.le_of_ble_eq_true rfl⟩) ?_
    by_cases hc5 : (f_Te_kindOf x1 σ) = 5
    · have hv := hv.trans (if_pos hc5)
      have hk := hk.1 hc5
      refine lv_tableIn (tgt := 80) hx hb d_CL_joinMeaning_27 (by rw [hc5]; decide) (by rw [hc5]; decide) (by rw [hc5]; rfl) (by decide) ?_
      refine lv_aload_n hx hb d_CL_joinMeaning_80 rfl (lv_at hl 0 rfl) ?_
      refine va_get (v := .ref (h 6)) (C := R_CL) (T := T_CL) (N := 11) hx hb hg in_CL hown hK hP 0 rfl rfl 1 (by decide) (hg _ m_285) (fun _ h9 => h9) rfl d_CL_joinMeaning_81 ?_
      refine lv_iload_n hx hb d_CL_joinMeaning_84 rfl (lv_at hl 3 rfl) ?_
      obtain ⟨hk0, hk⟩ := hk
      refine zz_callV (va_runV (As := [.int x3]) (rest := []) ⟨hx, hb, hml, hown, hg⟩ (c_Te_isTruth l D ty h px σ x3 hk0) ⟨callB_of 1 hg (gw_C m_661) rfl rfl rfl (hg _ m_3) (hg _ m_931) hd_Te_isTruth ⟨Nat.le_of_ble_eq_true rfl, Nat.le_of_ble_eq_true rfl⟩, hg _ m_659, hg _ m_660⟩ (zz_preV hN hK hP 6 rfl rfl) rfl rfl hl.1 rfl (lv_room (Nat.le_of_ble_eq_true rfl)) d_CL_joinMeaning_85 ⟨Nat.le_of_ble_eq_true rfl, Nat.le_of_ble_eq_true rfl⟩) ?_
      refine lv_if_eq (tgt := 107) hx hb d_CL_joinMeaning_88 (by decide) (fun hc => ?_) (fun hc => ?_)
      · have hv := hv.trans (if_pos hc)
        have hk := hk.1 hc
        exact B107 _ _ _  σ hv hk (lv_sub hl [] rfl) hP hD hS
      · have hv := hv.trans (if_neg hc)
        have hk := hk.2 hc
        refine lv_aload_n hx hb d_CL_joinMeaning_91 rfl (lv_at hl 0 rfl) ?_
        refine lv_iload_n hx hb d_CL_joinMeaning_92 rfl (lv_at hl 1 rfl) ?_
        refine lv_iload_n hx hb d_CL_joinMeaning_93 rfl (lv_at hl 3 rfl) ?_
        refine lv_iload hx hb d_CL_joinMeaning_94 (lv_at hl 4 rfl) ?_
        refine lv_iload_n hx hb d_CL_joinMeaning_96 rfl (lv_at hl 2 rfl) ?_
        obtain ⟨hk0, hk⟩ := hk
        refine va_calli (va_runV (As := [.int x1, .int x3, .int x4, .int x2]) (rest := []) ⟨hx, hb, hml, hown, hg⟩ (c_CL_joinMeaningOfEqual l D ty h px σ H.size x1 x3 x4 x2 hk0) ⟨callB_of 4 hg (gw_C m_1027) rfl rfl rfl (hg _ m_1) (hg _ m_1024) hd_CL_joinMeaningOfEqual ⟨Nat.le_of_ble_eq_true rfl, Nat.le_of_ble_eq_true rfl⟩, hg _ m_1026, hg _ ms_36⟩ (zz_preVW hN hK hP hD 0 rfl rfl) rfl rfl hl.1 rfl (lv_room (Nat.le_of_ble_eq_true rfl)) d_CL_joinMeaning_97 ⟨Nat.le_of_ble_eq_true rfl, Nat.le_of_ble_eq_true rfl⟩) hS (fun q _ h => zz_free hD hS hA q h) (zz_free hD hS hA) (fun r97 u97 t H locs ht hvm hp hP1 hz hk1 hS => ?_)
        rw [ht] at hP1
        rw [← hp] at hv hk
        have hD : va_D A (Wc ty h u97 px) := zz_D hD rfl
        have hP := hP1
        exact B100 _ _ _ r97 u97 hv hk (lv_sub hl [] rfl) hP hD hS
    · have hv := hv.trans (if_neg hc5)
      have hk := hk.2 hc5
      by_cases hc6 : (f_Te_kindOf x1 σ) = 6
      · have hv := hv.trans (if_pos hc6)
        have hk := hk.1 hc6
        refine lv_tableIn (tgt := 109) hx hb d_CL_joinMeaning_27 (by rw [hc6]; decide) (by rw [hc6]; decide) (by rw [hc6]; rfl) (by decide) ?_
        refine lv_iconst (v := 0) hx hb d_CL_joinMeaning_109 (by decide) ?_
        exact W.zret hx hb hr rfl (fun t ht hW => ⟨⟨_, _, rfl, hv.symm, by dsimp only; rw [ht]; exact hP⟩, hS.F ht⟩) hS.2.2 d_CL_joinMeaning_110
      · have hv := hv.trans (if_neg hc6)
        have hk := hk.2 hc6
        by_cases hc7 : (f_Te_kindOf x1 σ) = 7
        · have hv := hv.trans (if_pos hc7)
          have hk := hk.1 hc7
          refine lv_tableIn (tgt := 109) hx hb d_CL_joinMeaning_27 (by rw [hc7]; decide) (by rw [hc7]; decide) (by rw [hc7]; rfl) (by decide) ?_
          refine lv_iconst (v := 0) hx hb d_CL_joinMeaning_109 (by decide) ?_
          exact W.zret hx hb hr rfl (fun t ht hW => ⟨⟨_, _, rfl, hv.symm, by dsimp only; rw [ht]; exact hP⟩, hS.F ht⟩) hS.2.2 d_CL_joinMeaning_110
        · have hv := hv.trans (if_neg hc7)
          have hk := hk.2 hc7
          by_cases hc8 : (f_Te_kindOf x1 σ) = 8
          · have hv := hv.trans (if_pos hc8)
            have hk := hk.1 hc8
            refine lv_tableIn (tgt := 60) hx hb d_CL_joinMeaning_27 (by rw [hc8]; decide) (by rw [hc8]; decide) (by rw [hc8]; rfl) (by decide) ?_
            refine lv_aload_n hx hb d_CL_joinMeaning_60 rfl (lv_at hl 0 rfl) ?_
            refine lv_iload_n hx hb d_CL_joinMeaning_61 rfl (lv_at hl 1 rfl) ?_
            refine lv_iload_n hx hb d_CL_joinMeaning_62 rfl (lv_at hl 3 rfl) ?_
            refine lv_iload hx hb d_CL_joinMeaning_63 (lv_at hl 4 rfl) ?_
            refine lv_iload_n hx hb d_CL_joinMeaning_65 rfl (lv_at hl 2 rfl) ?_
            obtain ⟨hk0, hk⟩ := hk
            refine va_calli (va_runV (As := [.int x1, .int x3, .int x4, .int x2]) (rest := []) ⟨hx, hb, hml, hown, hg⟩ (c_CL_joinMeaningOfAnd l D ty h px σ H.size x1 x3 x4 x2 hk0) ⟨callB_of 4 hg (gw_C m_1010) rfl rfl rfl (hg _ m_1) (hg _ m_1007) hd_CL_joinMeaningOfAnd ⟨Nat.le_of_ble_eq_true rfl, Nat.le_of_ble_eq_true rfl⟩, hg _ m_1009, hg _ ms_33⟩ (zz_preVW hN hK hP hD 0 rfl rfl) rfl rfl hl.1 rfl (lv_room (Nat.le_of_ble_eq_true rfl)) d_CL_joinMeaning_66 ⟨Nat.le_of_ble_eq_true rfl, Nat.le_of_ble_eq_true rfl⟩) hS (fun q _ h => zz_free hD hS hA q h) (zz_free hD hS hA) (fun r66 u66 t H locs ht hvm hp hP1 hz hk1 hS => ?_)
            rw [ht] at hP1
            rw [← hp] at hv hk
            have hD : va_D A (Wc ty h u66 px) := zz_D hD rfl
            have hP := hP1
            exact B69 _ _ _ r66 u66 hv hk (lv_sub hl [] rfl) hP hD hS
          · have hv := hv.trans (if_neg hc8)
            have hk := hk.2 hc8
            by_cases hc9 : (f_Te_kindOf x1 σ) = 9
            · have hv := hv.trans (if_pos hc9)
              have hk := hk.1 hc9
              refine lv_tableIn (tgt := 70) hx hb d_CL_joinMeaning_27 (by rw [hc9]; decide) (by rw [hc9]; decide) (by rw [hc9]; rfl) (by decide) ?_
              refine lv_aload_n hx hb d_CL_joinMeaning_70 rfl (lv_at hl 0 rfl) ?_
              refine lv_iload_n hx hb d_CL_joinMeaning_71 rfl (lv_at hl 1 rfl) ?_
              refine lv_iload_n hx hb d_CL_joinMeaning_72 rfl (lv_at hl 3 rfl) ?_
              refine lv_iload hx hb d_CL_joinMeaning_73 (lv_at hl 4 rfl) ?_
              refine lv_iload_n hx hb d_CL_joinMeaning_75 rfl (lv_at hl 2 rfl) ?_
              obtain ⟨hk0, hk⟩ := hk
              refine va_calli (va_runV (As := [.int x1, .int x3, .int x4, .int x2]) (rest := []) ⟨hx, hb, hml, hown, hg⟩ (c_CL_joinMeaningOfOr l D ty h px σ H.size x1 x3 x4 x2 hk0) ⟨callB_of 4 hg (gw_C m_1023) rfl rfl rfl (hg _ m_1) (hg _ m_1020) hd_CL_joinMeaningOfOr ⟨Nat.le_of_ble_eq_true rfl, Nat.le_of_ble_eq_true rfl⟩, hg _ m_1022, hg _ ms_35⟩ (zz_preVW hN hK hP hD 0 rfl rfl) rfl rfl hl.1 rfl (lv_room (Nat.le_of_ble_eq_true rfl)) d_CL_joinMeaning_76 ⟨Nat.le_of_ble_eq_true rfl, Nat.le_of_ble_eq_true rfl⟩) hS (fun q _ h => zz_free hD hS hA q h) (zz_free hD hS hA) (fun r76 u76 t H locs ht hvm hp hP1 hz hk1 hS => ?_)
              rw [ht] at hP1
              rw [← hp] at hv hk
              have hD : va_D A (Wc ty h u76 px) := zz_D hD rfl
              have hP := hP1
              exact B79 _ _ _ r76 u76 hv hk (lv_sub hl [] rfl) hP hD hS
            · have hv := hv.trans (if_neg hc9)
              have hk := hk.2 hc9
              refine lv_tableOut (tgt := 109) hx hb d_CL_joinMeaning_27 (by have := lv_neT hc5 (by decide : (5 : Int32).toInt = 5); have := lv_neT hc6 (by decide : (6 : Int32).toInt = 6); have := lv_neT hc7 (by decide : (7 : Int32).toInt = 7); have := lv_neT hc8 (by decide : (8 : Int32).toInt = 8); have := lv_neT hc9 (by decide : (9 : Int32).toInt = 9); omega) (by decide) ?_
              refine lv_iconst (v := 0) hx hb d_CL_joinMeaning_109 (by decide) ?_
              exact W.zret hx hb hr rfl (fun t ht hW => ⟨⟨_, _, rfl, hv.symm, by dsimp only; rw [ht]; exact hP⟩, hS.F ht⟩) hS.2.2 d_CL_joinMeaning_110
  have B9 : ∀ (H : Heap) (locs : List Loc) (ls : Array Slot) (x1 : Int32) (x2 : Int32) (x3 : Int32) (σ : St), v = f_CL_joinMeaning_9 x1 x2 x3 σ → k_CL_joinMeaning_9 x1 x2 x3 σ → lv_has ls 5 [(0, .ref (h 0)), (1, .int x1), (2, .int x2), (3, .int x3)] → va_P D classes (Wc ty h σ px) H → va_D A (Wc ty h σ px) → va_S A s.heap H locs → W p l e (headSpec w_CL_joinMeaning rm_CL_joinMeaning).room s m args below meth c H locs 0 0 (MQ below (va_Qi (fun r (u : St) => (r, u) = v) (fun u t => va_P D classes (Wc ty h u px) t.heap) A) args s 0 0 A) (F0 m 9 ls []) := by
    intro H locs ls x1 x2 x3 σ hv hk hl hP hD hS
    unfold f_CL_joinMeaning_9 at hv
    unfold k_CL_joinMeaning_9 at hk
    refine lv_aload_n hx hb d_CL_joinMeaning_9 rfl (lv_at hl 0 rfl) ?_
    refine va_get (v := .ref (h 6)) (C := R_CL) (T := T_CL) (N := 11) hx hb hg in_CL hown hK hP 0 rfl rfl 1 (by decide) (hg _ m_285) (fun _ h9 => h9) rfl d_CL_joinMeaning_10 ?_
    refine lv_iload_n hx hb d_CL_joinMeaning_13 rfl (lv_at hl 1 rfl) ?_
    obtain ⟨hk0, hk⟩ := hk
    refine zz_callV (va_runV (As := [.int x1]) (rest := []) ⟨hx, hb, hml, hown, hg⟩ (c_Te_secondOf l D ty h px σ x1 hk0) ⟨callB_of 1 hg (gw_C m_451) rfl rfl rfl (hg _ m_3) (hg _ m_448) hd_Te_secondOf ⟨Nat.le_of_ble_eq_true rfl, Nat.le_of_ble_eq_true rfl⟩, hg _ m_449, hg _ m_450⟩ (zz_preV hN hK hP 6 rfl rfl) rfl rfl hl.1 rfl (lv_room (Nat.le_of_ble_eq_true rfl)) d_CL_joinMeaning_14 ⟨Nat.le_of_ble_eq_true rfl, Nat.le_of_ble_eq_true rfl⟩) ?_
    refine lv_istore (lv' := [(4, .int (f_Te_secondOf x1 σ)), (0, .ref (h 0)), (1, .int x1), (2, .int x2), (3, .int x3)]) hx hb d_CL_joinMeaning_17 hl (by decide) rfl (fun ls hl => ?_)
    exact B19 _ _ _ x1 x2 x3 (f_Te_secondOf x1 σ) σ hv hk (lv_sub hl [1, 2, 3, 4, 0] rfl) hP hD hS
  unfold f_CL_joinMeaning at hv
  unfold k_CL_joinMeaning at hk
  refine lv_aload_n hx hb d_CL_joinMeaning_0 rfl (lv_at hl 0 rfl) ?_
  refine va_get (v := .ref (h 6)) (C := R_CL) (T := T_CL) (N := 11) hx hb hg in_CL hown hK hP 0 rfl rfl 1 (by decide) (hg _ m_285) (fun _ h9 => h9) rfl d_CL_joinMeaning_1 ?_
  refine lv_iload_n hx hb d_CL_joinMeaning_4 rfl (lv_at hl 1 rfl) ?_
  obtain ⟨hk0, hk⟩ := hk
  refine zz_callV (va_runV (As := [.int a1]) (rest := []) ⟨hx, hb, hml, hown, hg⟩ (c_Te_firstOf l D ty h px σ a1 hk0) ⟨callB_of 1 hg (gw_C m_447) rfl rfl rfl (hg _ m_3) (hg _ m_444) hd_Te_firstOf ⟨Nat.le_of_ble_eq_true rfl, Nat.le_of_ble_eq_true rfl⟩, hg _ m_445, hg _ m_446⟩ (zz_preV hN hK hP 6 rfl rfl) rfl rfl hl.1 rfl (lv_room (Nat.le_of_ble_eq_true rfl)) d_CL_joinMeaning_5 ⟨Nat.le_of_ble_eq_true rfl, Nat.le_of_ble_eq_true rfl⟩) ?_
  refine lv_istore_n (lv' := [(3, .int (f_Te_firstOf a1 σ)), (0, .ref (h 0)), (1, .int a1), (2, .int a2)]) hx hb d_CL_joinMeaning_8 rfl hl (by decide) rfl (fun ls hl => ?_)
  exact B9 _ _ _ a1 a2 (f_Te_firstOf a1 σ) σ hv hk (lv_sub hl [1, 2, 3, 0] rfl) hP hD hS

-- ClauseLedger.meaning(II)I
abbrev b_CL_meaning : ByteArray := prog_1_method_10_code
def y_CL_meaning : MethodName := ⟨"ClauseLedger", "meaning", "(II)I"⟩
theorem hd_CL_meaning : y_CL_meaning.cls ≠ "java/lang/invoke/MethodHandle" ∧ y_CL_meaning.cls ≠ "java/lang/invoke/VarHandle" ∧ (parseMethodDescriptor y_CL_meaning.desc).map (fun d => d.parameters.length) = some 2 := by decide +kernel
theorem d_CL_meaning_0 : decode b_CL_meaning 0 = .ok (.aload_n 0, 1) := by decide +kernel
theorem d_CL_meaning_1 : decode b_CL_meaning 1 = .ok (.invokevirtual 102, 3) := by decide +kernel
theorem d_CL_meaning_4 : decode b_CL_meaning 4 = .ok (.ifCond .eq 5, 3) := by decide +kernel
theorem d_CL_meaning_7 : decode b_CL_meaning 7 = .ok (.iconst (-1), 1) := by decide +kernel
theorem d_CL_meaning_8 : decode b_CL_meaning 8 = .ok (.ireturn, 1) := by decide +kernel
theorem d_CL_meaning_9 : decode b_CL_meaning 9 = .ok (.aload_n 0, 1) := by decide +kernel
theorem d_CL_meaning_10 : decode b_CL_meaning 10 = .ok (.getfield 19, 3) := by decide +kernel
theorem d_CL_meaning_13 : decode b_CL_meaning 13 = .ok (.iload_n 1, 1) := by decide +kernel
theorem d_CL_meaning_14 : decode b_CL_meaning 14 = .ok (.invokevirtual 130, 3) := by decide +kernel
theorem d_CL_meaning_17 : decode b_CL_meaning 17 = .ok (.ifCond .ne 8, 3) := by decide +kernel
theorem d_CL_meaning_20 : decode b_CL_meaning 20 = .ok (.aload_n 0, 1) := by decide +kernel
theorem d_CL_meaning_21 : decode b_CL_meaning 21 = .ok (.invokevirtual 134, 3) := by decide +kernel
theorem d_CL_meaning_24 : decode b_CL_meaning 24 = .ok (.ireturn, 1) := by decide +kernel
theorem d_CL_meaning_25 : decode b_CL_meaning 25 = .ok (.aload_n 0, 1) := by decide +kernel
theorem d_CL_meaning_26 : decode b_CL_meaning 26 = .ok (.getfield 65, 3) := by decide +kernel
theorem d_CL_meaning_29 : decode b_CL_meaning 29 = .ok (.invokevirtual 140, 3) := by decide +kernel
theorem d_CL_meaning_32 : decode b_CL_meaning 32 = .ok (.aload_n 0, 1) := by decide +kernel
theorem d_CL_meaning_33 : decode b_CL_meaning 33 = .ok (.iload_n 1, 1) := by decide +kernel
theorem d_CL_meaning_34 : decode b_CL_meaning 34 = .ok (.iload_n 2, 1) := by decide +kernel
theorem d_CL_meaning_35 : decode b_CL_meaning 35 = .ok (.invokevirtual 166, 3) := by decide +kernel
theorem d_CL_meaning_38 : decode b_CL_meaning 38 = .ok (.ifCond .ne 8, 3) := by decide +kernel
theorem d_CL_meaning_41 : decode b_CL_meaning 41 = .ok (.aload_n 0, 1) := by decide +kernel
theorem d_CL_meaning_42 : decode b_CL_meaning 42 = .ok (.invokevirtual 112, 3) := by decide +kernel
theorem d_CL_meaning_45 : decode b_CL_meaning 45 = .ok (.ireturn, 1) := by decide +kernel
theorem d_CL_meaning_46 : decode b_CL_meaning 46 = .ok (.aload_n 0, 1) := by decide +kernel
theorem d_CL_meaning_47 : decode b_CL_meaning 47 = .ok (.aload_n 0, 1) := by decide +kernel
theorem d_CL_meaning_48 : decode b_CL_meaning 48 = .ok (.getfield 72, 3) := by decide +kernel
theorem d_CL_meaning_51 : decode b_CL_meaning 51 = .ok (.invokevirtual 145, 3) := by decide +kernel
theorem d_CL_meaning_54 : decode b_CL_meaning 54 = .ok (.iconst 0, 1) := by decide +kernel
theorem d_CL_meaning_55 : decode b_CL_meaning 55 = .ok (.invokevirtual 148, 3) := by decide +kernel
theorem d_CL_meaning_58 : decode b_CL_meaning 58 = .ok (.ireturn, 1) := by decide +kernel
def f_CL_meaning_24 (s0 : Int32) (σ : St) : XR := (.inl s0, σ)
def k_CL_meaning_24 (s0 : Int32) (σ : St) : Prop := True
def f_CL_meaning_45 (s0 : Int32) (σ : St) : XR := (.inl s0, σ)
def k_CL_meaning_45 (s0 : Int32) (σ : St) : Prop := True
def f_CL_meaning_58 (s0 : Int32) (σ : St) : XR := (.inl s0, σ)
def k_CL_meaning_58 (s0 : Int32) (σ : St) : Prop := True
def f_CL_meaning_38 (s0 : Int32) (σ : St) : XR := if s0 = 0 then (xb (f_CL_throwWrong σ) (fun x u => f_CL_meaning_45 x u)) else (xb (f_CL_enterRow (f_Sc_innermost σ) 0 σ) (fun x u => f_CL_meaning_58 x u))
def k_CL_meaning_38 (s0 : Int32) (σ : St) : Prop := (s0 = 0 → ((k_CL_throwWrong σ) ∧ (∀ x, (f_CL_throwWrong σ).1 = .inl x → (k_CL_meaning_45 x ((f_CL_throwWrong σ).2))))) ∧ (¬ s0 = 0 → ((k_Sc_innermost σ) ∧ ((k_CL_enterRow (f_Sc_innermost σ) 0 σ) ∧ (∀ x, (f_CL_enterRow (f_Sc_innermost σ) 0 σ).1 = .inl x → (k_CL_meaning_58 x ((f_CL_enterRow (f_Sc_innermost σ) 0 σ).2))))))
def f_CL_meaning_32 (x1 : Int32) (x2 : Int32) (σ : St) : XR := f_CL_meaning_38 ((f_CL_joinMeaning x1 x2 σ).1) ((f_CL_joinMeaning x1 x2 σ).2)
def k_CL_meaning_32 (x1 : Int32) (x2 : Int32) (σ : St) : Prop := (k_CL_joinMeaning x1 x2 σ) ∧ (k_CL_meaning_38 ((f_CL_joinMeaning x1 x2 σ).1) ((f_CL_joinMeaning x1 x2 σ).2))
def f_CL_meaning (a1 : Int32) (a2 : Int32) (σ : St) : XR := if (f_CL_isShut σ) = 0 then (if (f_Te_has a1 σ) = 0 then (xb (f_CL_throwMissing σ) (fun x u => f_CL_meaning_24 x u)) else (f_CL_meaning_32 a1 a2 (f_Ro_wipe σ))) else (.inl (-1), σ)
def k_CL_meaning (a1 : Int32) (a2 : Int32) (σ : St) : Prop := (k_CL_isShut σ) ∧ (((f_CL_isShut σ) = 0 → ((k_Te_has a1 σ) ∧ (((f_Te_has a1 σ) = 0 → ((k_CL_throwMissing σ) ∧ (∀ x, (f_CL_throwMissing σ).1 = .inl x → (k_CL_meaning_24 x ((f_CL_throwMissing σ).2))))) ∧ (¬ (f_Te_has a1 σ) = 0 → ((k_Ro_wipe σ) ∧ (k_CL_meaning_32 a1 a2 (f_Ro_wipe σ))))))) ∧ (¬ (f_CL_isShut σ) = 0 → True))
abbrev w_CL_meaning : List Cond := Cond.code y_CL_meaning b_CL_meaning 3 (some .int) :: gw
abbrev rm_CL_meaning : Room := { frames := 8, cells := 1, slots := 6, locals := 145 }
set_option maxHeartbeats 4000000 in
set_option maxRecDepth 100000 in
theorem c_CL_meaning (l : Launch) (hlt : l.stackTraces = false) (D : va_G) (ty : Nat → ClassId) (h : Nat → Nat) (px : va_W) (sa : Nat → Nat) (σ : St) (sz : Nat) (a1 : Int32) (a2 : Int32) (hk : k_CL_meaning a1 a2 σ) : xMet l y_CL_meaning w_CL_meaning rm_CL_meaning (va_Pc [.ref (h 0), .int a1, .int a2] (fun U => U.heap.size = sz ∧ va_P D classes (Wc ty h σ px) U.heap ∧ va_K D classes (Ta ty) U ∧ NW U ∧ XK sa (va_A (Wc ty h σ px) sz) U U.heap ∧ va_D (fun _ => True) (Wc ty h σ px))) (Rx D classes (fun u => Wc ty h u px) (va_A (Wc ty h σ px) sz) (f_CL_meaning a1 a2 σ)) 1 6 (va_A (Wc ty h σ px) sz) := by
  refine xMet.ofW (cc := b_CL_meaning) (maxL := 3) (ret := (some .int)) (by decide) rfl ?_
  intro p e s m args below meth c s₁ B hml htab hv
  obtain ⟨ha, hsz, hP, hK, hN, hX, hD0⟩ := hv
  have hx := B.exec
  have hb := B.bytes
  have hr := B.returns
  have hg : ∀ w ∈ gw, w.before args s = true := fun w h9 => atoms_spec (ws := w_CL_meaning) B.pre w (List.mem_cons_of_mem _ h9)
  have hown : s.vm.findClass "ClauseLedger" = some m.cls := findClass_of_methodNamed B.named
  have hlocks := B.notSynchronized
  subst hsz
  have hD := hD0.self (sz := s.heap.size)
  generalize hAe : va_A (Wc ty h σ px) s.heap.size = A at hD hX ⊢
  have hA : ∀ q : Nat, s.heap.size ≤ q → A q := fun q h9 => by rw [← hAe]; exact Or.inr h9
  have hS : va_S A s.heap s.heap [] := va_S.rf
  have he : entryFrame m args 3 = entryFrame m ([.ref (h 0), .int a1, .int a2] : List Value).toArray 3 := by rw [ha]
  rw [he, lg_entry_eq]
  have hl := lv_entry ([.ref (h 0), .int a1, .int a2]) (n := 3) (Nat.le_of_ble_eq_true rfl)
  generalize (lg_sl ([.ref (h 0), .int a1, .int a2]) ++ List.replicate (3 - (lg_sl ([.ref (h 0), .int a1, .int a2])).length) Slot.unset).toArray = ls at hl ⊢
  have hl : lv_has ls 3 [(0, .ref (h 0)), (1, .int a1), (2, .int a2)] := hl
  generalize hv : f_CL_meaning a1 a2 σ = v
  replace hv := hv.symm
  have B24 : ∀ (H : Heap) (locs : List Loc) (ls : Array Slot) (s0 : Int32) (σ : St), v = f_CL_meaning_24 s0 σ → k_CL_meaning_24 s0 σ → lv_has ls 3 [] → va_P D classes (Wc ty h σ px) H → va_D A (Wc ty h σ px) → va_S A s.heap H locs → W p l e (headSpec w_CL_meaning rm_CL_meaning).room s m args below meth c H locs 1 6 (xMQ below (Rx D classes (fun u => Wc ty h u px) A v) args s 1 6 A) (F0 m 24 ls [.int s0]) := by
    intro H locs ls s0 σ hv hk hl hP hD hS
    unfold f_CL_meaning_24 at hv
    unfold k_CL_meaning_24 at hk
    exact x_ret (fun o t hq => by obtain ⟨rfl, ht⟩ := hq; exact ⟨hS.F ht, by rw [ht, hv]; exact hP, _, rfl, by rw [hv]⟩) (Nat.le_of_ble_eq_true rfl) (Nat.le_of_ble_eq_true rfl) (W.iret (Qc := fun _ _ o t => o = .returned (some (.int s0)) ∧ t.heap = H) hx hb hr (fun t ht hW => ⟨rfl, ht⟩) hS.2.2 d_CL_meaning_24)
  have B45 : ∀ (H : Heap) (locs : List Loc) (ls : Array Slot) (s0 : Int32) (σ : St), v = f_CL_meaning_45 s0 σ → k_CL_meaning_45 s0 σ → lv_has ls 3 [] → va_P D classes (Wc ty h σ px) H → va_D A (Wc ty h σ px) → va_S A s.heap H locs → W p l e (headSpec w_CL_meaning rm_CL_meaning).room s m args below meth c H locs 1 6 (xMQ below (Rx D classes (fun u => Wc ty h u px) A v) args s 1 6 A) (F0 m 45 ls [.int s0]) := by
    intro H locs ls s0 σ hv hk hl hP hD hS
    unfold f_CL_meaning_45 at hv
    unfold k_CL_meaning_45 at hk
    exact x_ret (fun o t hq => by obtain ⟨rfl, ht⟩ := hq; exact ⟨hS.F ht, by rw [ht, hv]; exact hP, _, rfl, by rw [hv]⟩) (Nat.le_of_ble_eq_true rfl) (Nat.le_of_ble_eq_true rfl) (W.iret (Qc := fun _ _ o t => o = .returned (some (.int s0)) ∧ t.heap = H) hx hb hr (fun t ht hW => ⟨rfl, ht⟩) hS.2.2 d_CL_meaning_45)
  have B58 : ∀ (H : Heap) (locs : List Loc) (ls : Array Slot) (s0 : Int32) (σ : St), v = f_CL_meaning_58 s0 σ → k_CL_meaning_58 s0 σ → lv_has ls 3 [] → va_P D classes (Wc ty h σ px) H → va_D A (Wc ty h σ px) → va_S A s.heap H locs → W p l e (headSpec w_CL_meaning rm_CL_meaning).room s m args below meth c H locs 1 6 (xMQ below (Rx D classes (fun u => Wc ty h u px) A v) args s 1 6 A) (F0 m 58 ls [.int s0]) := by
    intro H locs ls s0 σ hv hk hl hP hD hS
    unfold f_CL_meaning_58 at hv
    unfold k_CL_meaning_58 at hk
    exact x_ret (fun o t hq => by obtain ⟨rfl, ht⟩ := hq; exact ⟨hS.F ht, by rw [ht, hv]; exact hP, _, rfl, by rw [hv]⟩) (Nat.le_of_ble_eq_true rfl) (Nat.le_of_ble_eq_true rfl) (W.iret (Qc := fun _ _ o t => o = .returned (some (.int s0)) ∧ t.heap = H) hx hb hr (fun t ht hW => ⟨rfl, ht⟩) hS.2.2 d_CL_meaning_58)
  have B38 : ∀ (H : Heap) (locs : List Loc) (ls : Array Slot) (s0 : Int32) (σ : St), v = f_CL_meaning_38 s0 σ → k_CL_meaning_38 s0 σ → lv_has ls 3 [(0, .ref (h 0))] → va_P D classes (Wc ty h σ px) H → va_D A (Wc ty h σ px) → va_S A s.heap H locs → W p l e (headSpec w_CL_meaning rm_CL_meaning).room s m args below meth c H locs 0 0 (xMQ below (Rx D classes (fun u => Wc ty h u px) A v) args s 1 6 A) (F0 m 38 ls [.int s0]) := by
    intro H locs ls s0 σ hv hk hl hP hD hS
    unfold f_CL_meaning_38 at hv
    unfold k_CL_meaning_38 at hk
    refine lv_if_ne (tgt := 46) hx hb d_CL_meaning_38 (by decide) (fun hc => ?_) (fun hc => ?_)
    · have hv := hv.trans (if_neg hc)
      have hk := hk.2 hc
      refine lv_aload_n hx hb d_CL_meaning_46 rfl (lv_at hl 0 rfl) ?_
      refine lv_aload_n hx hb d_CL_meaning_47 rfl (lv_at hl 0 rfl) ?_
      refine va_get (v := .ref (h 27)) (C := R_CL) (T := T_CL) (N := 11) hx hb hg in_CL hown hK hP 0 rfl rfl 8 (by decide) (hg _ m_292) (fun _ h9 => h9) rfl d_CL_meaning_48 ?_
      obtain ⟨hk0, hk⟩ := hk
      refine zz_callV (va_runV (As := []) (rest := [.ref (h 0)]) ⟨hx, hb, hml, hown, hg⟩ (c_Sc_innermost l D ty h px σ  hk0) ⟨callB_of 0 hg (gw_C m_943) rfl rfl rfl (hg _ m_11) (hg _ m_940) hd_Sc_innermost ⟨Nat.le_of_ble_eq_true rfl, Nat.le_of_ble_eq_true rfl⟩, hg _ m_941, hg _ m_942⟩ (zz_preV hN hK hP 27 rfl rfl) rfl rfl hl.1 rfl (lv_room (Nat.le_of_ble_eq_true rfl)) d_CL_meaning_51 ⟨Nat.le_of_ble_eq_true rfl, Nat.le_of_ble_eq_true rfl⟩) ?_
      refine lv_iconst (v := 0) hx hb d_CL_meaning_54 (by decide) ?_
      obtain ⟨hk0, hk⟩ := hk
      refine x_callV (As := [.int (f_Sc_innermost σ), .int 0]) (rest := []) ⟨hx, hb, hml, hown, hg⟩ (c_CL_enterRow l hlt D ty h px sa σ H.size (f_Sc_innermost σ) 0 hk0) ⟨callB_of 2 hg (gw_C m_947) rfl rfl rfl (hg _ m_1) (hg _ m_944) hd_CL_enterRow ⟨Nat.le_of_ble_eq_true rfl, Nat.le_of_ble_eq_true rfl⟩, hg _ m_946, hg _ ms_30⟩ (zz_preX hN hX hS hA hK hP hD 0 rfl rfl) rfl hl.1 rfl (Nat.le_of_ble_eq_true rfl) d_CL_meaning_55 ⟨Nat.le_of_ble_eq_true rfl, Nat.le_of_ble_eq_true rfl⟩ (fun r9 st9 t9 L9 h09 hal9 hR9 hL9 => ?_) (fun q9 st9 t9 L9 h09 h19 hal9 hR9 hL9 => ?_)
      · obtain ⟨hF9, hP9, x, rfl, hz9⟩ := hR9
        have hv := hv.trans (xb_l hz9)
        have hk := hk _ hz9
        have hS := zz_xS hS h09 hF9 (zz_free hD hS hA) hL9
        have hD : va_D A (Wc ty h (f_CL_enterRow (f_Sc_innermost σ) 0 σ).2 px) := zz_D hD rfl
        exact B58 _ _ _ x (f_CL_enterRow (f_Sc_innermost σ) 0 σ).2 hv hk (lv_sub hl [] rfl) hP9 hD hS
      · obtain ⟨hF9, hP9, E9, ce9, hz9, hq9, hn9, hc9⟩ := hR9
        have hv := hv.trans (xb_r hz9)
        have hS := zz_xS hS h09 hF9 (zz_free hD hS hA) hL9
        exact x_out htab hlocks (fun t ht hal => ⟨hS.F ht, by rw [ht, hv]; exact hP9, E9, ce9, by rw [hv], by rw [ht]; exact hq9, hn9, by rw [h19.findClass]; exact hc9⟩) hS.2.2 (Nat.le_of_ble_eq_true rfl) (Nat.le_of_ble_eq_true rfl)
    · have hv := hv.trans (if_pos hc)
      have hk := hk.1 hc
      refine lv_aload_n hx hb d_CL_meaning_41 rfl (lv_at hl 0 rfl) ?_
      obtain ⟨hk0, hk⟩ := hk
      refine x_callV (As := []) (rest := []) ⟨hx, hb, hml, hown, hg⟩ (c_CL_throwWrong l hlt D ty h px sa σ H.size  hk0) ⟨callB_of 0 hg (gw_C m_774) rfl rfl rfl (hg _ m_1) (hg _ m_771) hd_CL_throwWrong ⟨Nat.le_of_ble_eq_true rfl, Nat.le_of_ble_eq_true rfl⟩, hg _ m_773, hg _ ms_24⟩ (zz_preX hN hX hS hA hK hP hD 0 rfl rfl) rfl hl.1 rfl (Nat.le_of_ble_eq_true rfl) d_CL_meaning_42 ⟨Nat.le_of_ble_eq_true rfl, Nat.le_of_ble_eq_true rfl⟩ (fun r9 st9 t9 L9 h09 hal9 hR9 hL9 => ?_) (fun q9 st9 t9 L9 h09 h19 hal9 hR9 hL9 => ?_)
      · obtain ⟨hF9, hP9, x, rfl, hz9⟩ := hR9
        have hv := hv.trans (xb_l hz9)
        have hk := hk _ hz9
        have hS := zz_xS hS h09 hF9 (zz_free hD hS hA) hL9
        have hD : va_D A (Wc ty h (f_CL_throwWrong σ).2 px) := zz_D hD rfl
        exact B45 _ _ _ x (f_CL_throwWrong σ).2 hv hk (lv_sub hl [] rfl) hP9 hD hS
      · obtain ⟨hF9, hP9, E9, ce9, hz9, hq9, hn9, hc9⟩ := hR9
        have hv := hv.trans (xb_r hz9)
        have hS := zz_xS hS h09 hF9 (zz_free hD hS hA) hL9
        exact x_out htab hlocks (fun t ht hal => ⟨hS.F ht, by rw [ht, hv]; exact hP9, E9, ce9, by rw [hv], by rw [ht]; exact hq9, hn9, by rw [h19.findClass]; exact hc9⟩) hS.2.2 (Nat.le_of_ble_eq_true rfl) (Nat.le_of_ble_eq_true rfl)
  have B32 : ∀ (H : Heap) (locs : List Loc) (ls : Array Slot) (x1 : Int32) (x2 : Int32) (σ : St), v = f_CL_meaning_32 x1 x2 σ → k_CL_meaning_32 x1 x2 σ → lv_has ls 3 [(0, .ref (h 0)), (1, .int x1), (2, .int x2)] → va_P D classes (Wc ty h σ px) H → va_D A (Wc ty h σ px) → va_S A s.heap H locs → W p l e (headSpec w_CL_meaning rm_CL_meaning).room s m args below meth c H locs 0 0 (xMQ below (Rx D classes (fun u => Wc ty h u px) A v) args s 1 6 A) (F0 m 32 ls []) := by
    intro H locs ls x1 x2 σ hv hk hl hP hD hS
    unfold f_CL_meaning_32 at hv
    unfold k_CL_meaning_32 at hk
    refine lv_aload_n hx hb d_CL_meaning_32 rfl (lv_at hl 0 rfl) ?_
    refine lv_iload_n hx hb d_CL_meaning_33 rfl (lv_at hl 1 rfl) ?_
    refine lv_iload_n hx hb d_CL_meaning_34 rfl (lv_at hl 2 rfl) ?_
    obtain ⟨hk0, hk⟩ := hk
    refine va_calli (va_runV (As := [.int x1, .int x2]) (rest := []) ⟨hx, hb, hml, hown, hg⟩ (c_CL_joinMeaning l D ty h px σ H.size x1 x2 hk0) ⟨callB_of 2 hg (gw_C m_1006) rfl rfl rfl (hg _ m_1) (hg _ m_1003) hd_CL_joinMeaning ⟨Nat.le_of_ble_eq_true rfl, Nat.le_of_ble_eq_true rfl⟩, hg _ m_1005, hg _ ms_32⟩ (zz_preVW hN hK hP hD 0 rfl rfl) rfl rfl hl.1 rfl (lv_room (Nat.le_of_ble_eq_true rfl)) d_CL_meaning_35 ⟨Nat.le_of_ble_eq_true rfl, Nat.le_of_ble_eq_true rfl⟩) hS (fun q _ h => zz_free hD hS hA q h) (zz_free hD hS hA) (fun r35 u35 t H locs ht hvm hp hP1 hz hk1 hS => ?_)
    rw [ht] at hP1
    rw [← hp] at hv hk
    have hD : va_D A (Wc ty h u35 px) := zz_D hD rfl
    have hP := hP1
    exact B38 _ _ _ r35 u35 hv hk (lv_sub hl [0] rfl) hP hD hS
  unfold f_CL_meaning at hv
  unfold k_CL_meaning at hk
  refine lv_aload_n hx hb d_CL_meaning_0 rfl (lv_at hl 0 rfl) ?_
  obtain ⟨hk0, hk⟩ := hk
  refine zz_callV (va_runV (As := []) (rest := []) ⟨hx, hb, hml, hown, hg⟩ (c_CL_isShut l D ty h px σ  hk0) ⟨callB_of 0 hg (gw_C m_571) rfl rfl rfl (hg _ m_1) (hg _ m_568) hd_CL_isShut ⟨Nat.le_of_ble_eq_true rfl, Nat.le_of_ble_eq_true rfl⟩, hg _ m_570, hg _ ms_8⟩ (zz_preV hN hK hP 0 rfl rfl) rfl rfl hl.1 rfl (lv_room (Nat.le_of_ble_eq_true rfl)) d_CL_meaning_1 ⟨Nat.le_of_ble_eq_true rfl, Nat.le_of_ble_eq_true rfl⟩) ?_
  refine lv_if_eq (tgt := 9) hx hb d_CL_meaning_4 (by decide) (fun hc => ?_) (fun hc => ?_)
  · have hv := hv.trans (if_pos hc)
    have hk := hk.1 hc
    refine lv_aload_n hx hb d_CL_meaning_9 rfl (lv_at hl 0 rfl) ?_
    refine va_get (v := .ref (h 6)) (C := R_CL) (T := T_CL) (N := 11) hx hb hg in_CL hown hK hP 0 rfl rfl 1 (by decide) (hg _ m_285) (fun _ h9 => h9) rfl d_CL_meaning_10 ?_
    refine lv_iload_n hx hb d_CL_meaning_13 rfl (lv_at hl 1 rfl) ?_
    obtain ⟨hk0, hk⟩ := hk
    refine zz_callV (va_runV (As := [.int a1]) (rest := []) ⟨hx, hb, hml, hown, hg⟩ (c_Te_has l D ty h px σ a1 hk0) ⟨callB_of 1 hg (gw_C m_430) rfl rfl rfl (hg _ m_3) (hg _ m_427) hd_Te_has ⟨Nat.le_of_ble_eq_true rfl, Nat.le_of_ble_eq_true rfl⟩, hg _ m_428, hg _ m_429⟩ (zz_preV hN hK hP 6 rfl rfl) rfl rfl hl.1 rfl (lv_room (Nat.le_of_ble_eq_true rfl)) d_CL_meaning_14 ⟨Nat.le_of_ble_eq_true rfl, Nat.le_of_ble_eq_true rfl⟩) ?_
    refine lv_if_ne (tgt := 25) hx hb d_CL_meaning_17 (by decide) (fun hc => ?_) (fun hc => ?_)
    · have hv := hv.trans (if_neg hc)
      have hk := hk.2 hc
      refine lv_aload_n hx hb d_CL_meaning_25 rfl (lv_at hl 0 rfl) ?_
      refine va_get (v := .ref (h 25)) (C := R_CL) (T := T_CL) (N := 11) hx hb hg in_CL hown hK hP 0 rfl rfl 7 (by decide) (hg _ m_291) (fun _ h9 => h9) rfl d_CL_meaning_26 ?_
      obtain ⟨hk0, hk⟩ := hk
      refine va_callv (va_runV (As := []) (rest := []) ⟨hx, hb, hml, hown, hg⟩ (c_Ro_wipe l D ty h px σ s.heap.size  hk0) ⟨callB_of 0 hg (gw_C m_935) rfl rfl rfl (hg _ m_10) (hg _ m_932) hd_Ro_wipe ⟨Nat.le_of_ble_eq_true rfl, Nat.le_of_ble_eq_true rfl⟩, hg _ m_933, hg _ m_934⟩ (zz_preVW hN hK hP hD 25 rfl rfl) rfl rfl hl.1 rfl (lv_room (Nat.le_of_ble_eq_true rfl)) d_CL_meaning_29 ⟨Nat.le_of_ble_eq_true rfl, Nat.le_of_ble_eq_true rfl⟩) hS (fun q _ h => zz_free hD hS hA q h) (zz_free hD hS hA) (fun u29 t H locs ht hvm hp hP1 hz hk1 hS => ?_)
      rw [ht] at hP1
      rw [← hp] at hv hk
      have hD : va_D A (Wc ty h u29 px) := zz_D hD rfl
      have hP := hP1
      exact B32 _ _ _ a1 a2 u29 hv hk (lv_sub hl [0, 1, 2] rfl) hP hD hS
    · have hv := hv.trans (if_pos hc)
      have hk := hk.1 hc
      refine lv_aload_n hx hb d_CL_meaning_20 rfl (lv_at hl 0 rfl) ?_
      obtain ⟨hk0, hk⟩ := hk
      refine x_callV (As := []) (rest := []) ⟨hx, hb, hml, hown, hg⟩ (c_CL_throwMissing l hlt D ty h px sa σ s.heap.size  hk0) ⟨callB_of 0 hg (gw_C m_914) rfl rfl rfl (hg _ m_1) (hg _ m_911) hd_CL_throwMissing ⟨Nat.le_of_ble_eq_true rfl, Nat.le_of_ble_eq_true rfl⟩, hg _ m_913, hg _ ms_29⟩ (zz_preX hN hX hS hA hK hP hD 0 rfl rfl) rfl hl.1 rfl (Nat.le_of_ble_eq_true rfl) d_CL_meaning_21 ⟨Nat.le_of_ble_eq_true rfl, Nat.le_of_ble_eq_true rfl⟩ (fun r9 st9 t9 L9 h09 hal9 hR9 hL9 => ?_) (fun q9 st9 t9 L9 h09 h19 hal9 hR9 hL9 => ?_)
      · obtain ⟨hF9, hP9, x, rfl, hz9⟩ := hR9
        have hv := hv.trans (xb_l hz9)
        have hk := hk _ hz9
        have hS := zz_xS hS h09 hF9 (zz_free hD hS hA) hL9
        have hD : va_D A (Wc ty h (f_CL_throwMissing σ).2 px) := zz_D hD rfl
        exact B24 _ _ _ x (f_CL_throwMissing σ).2 hv hk (lv_sub hl [] rfl) hP9 hD hS
      · obtain ⟨hF9, hP9, E9, ce9, hz9, hq9, hn9, hc9⟩ := hR9
        have hv := hv.trans (xb_r hz9)
        have hS := zz_xS hS h09 hF9 (zz_free hD hS hA) hL9
        exact x_out htab hlocks (fun t ht hal => ⟨hS.F ht, by rw [ht, hv]; exact hP9, E9, ce9, by rw [hv], by rw [ht]; exact hq9, hn9, by rw [h19.findClass]; exact hc9⟩) hS.2.2 (Nat.le_of_ble_eq_true rfl) (Nat.le_of_ble_eq_true rfl)
  · have hv := hv.trans (if_neg hc)
    have hk := hk.2 hc
    refine lv_iconst (v := -1) hx hb d_CL_meaning_7 (by decide) ?_
    exact x_ret (fun o t hq => by obtain ⟨rfl, ht⟩ := hq; exact ⟨hS.F ht, by rw [ht, hv]; exact hP, _, rfl, by rw [hv]⟩) (Nat.le_of_ble_eq_true rfl) (Nat.le_of_ble_eq_true rfl) (W.iret (Qc := fun _ _ o t => o = .returned (some (.int (-1))) ∧ t.heap = s.heap) hx hb hr (fun t ht hW => ⟨rfl, ht⟩) hS.2.2 d_CL_meaning_8)

-- ClauseLedger$Terms.equation(II)I
abbrev b_Te_equation : ByteArray := prog_11_method_21_code
def y_Te_equation : MethodName := ⟨"ClauseLedger$Terms", "equation", "(II)I"⟩
theorem hd_Te_equation : y_Te_equation.cls ≠ "java/lang/invoke/MethodHandle" ∧ y_Te_equation.cls ≠ "java/lang/invoke/VarHandle" ∧ (parseMethodDescriptor y_Te_equation.desc).map (fun d => d.parameters.length) = some 2 := by decide +kernel
theorem d_Te_equation_0 : decode b_Te_equation 0 = .ok (.aload_n 0, 1) := by decide +kernel
theorem d_Te_equation_1 : decode b_Te_equation 1 = .ok (.iconst 5, 1) := by decide +kernel
theorem d_Te_equation_2 : decode b_Te_equation 2 = .ok (.iconst 0, 1) := by decide +kernel
theorem d_Te_equation_3 : decode b_Te_equation 3 = .ok (.iconst (-1), 1) := by decide +kernel
theorem d_Te_equation_4 : decode b_Te_equation 4 = .ok (.iload_n 1, 1) := by decide +kernel
theorem d_Te_equation_5 : decode b_Te_equation 5 = .ok (.iload_n 2, 1) := by decide +kernel
theorem d_Te_equation_6 : decode b_Te_equation 6 = .ok (.invokevirtual 105, 3) := by decide +kernel
theorem d_Te_equation_9 : decode b_Te_equation 9 = .ok (.ireturn, 1) := by decide +kernel
def f_Te_equation_9 (s0 : Int32) (σ : St) : Int32 × St := (s0, σ)
def k_Te_equation_9 (s0 : Int32) (σ : St) : Prop := True
def f_Te_equation (a1 : Int32) (a2 : Int32) (σ : St) : Int32 × St := f_Te_equation_9 ((f_Te_make 5 0 (-1) a1 a2 σ).1) ((f_Te_make 5 0 (-1) a1 a2 σ).2)
def k_Te_equation (a1 : Int32) (a2 : Int32) (σ : St) : Prop := (k_Te_make 5 0 (-1) a1 a2 σ) ∧ (k_Te_equation_9 ((f_Te_make 5 0 (-1) a1 a2 σ).1) ((f_Te_make 5 0 (-1) a1 a2 σ).2))
abbrev w_Te_equation : List Cond := Cond.code y_Te_equation b_Te_equation 3 (some .int) :: gw
abbrev rm_Te_equation : Room := { frames := 3, cells := 0, slots := 0, locals := 76 }
set_option maxHeartbeats 4000000 in
set_option maxRecDepth 100000 in
theorem c_Te_equation (l : Launch) (D : va_G) (ty : Nat → ClassId) (h : Nat → Nat) (px : va_W) (σ : St) (sz : Nat) (a1 : Int32) (a2 : Int32) (hk : k_Te_equation a1 a2 σ) : Met l y_Te_equation w_Te_equation rm_Te_equation (va_Pc [.ref (h 6), .int a1, .int a2] (fun U => U.heap.size = sz ∧ va_P D classes (Wc ty h σ px) U.heap ∧ va_K D classes (Ta ty) U ∧ NW U ∧ va_D (fun _ => True) (Wc ty h σ px))) (va_Qi (fun r (u : St) => (r, u) = f_Te_equation a1 a2 σ) (fun u t => va_P D classes (Wc ty h u px) t.heap) (va_A (Wc ty h σ px) sz)) 0 0 (va_A (Wc ty h σ px) sz) := by
  refine Met.ofW (cc := b_Te_equation) (maxL := 3) (ret := (some .int)) (by decide) rfl ?_
  intro p e s m args below meth c s₁ B hml hv
  obtain ⟨ha, hsz, hP, hK, hN, hD0⟩ := hv
  have hx := B.exec
  have hb := B.bytes
  have hr := B.returns
  have hg : ∀ w ∈ gw, w.before args s = true := fun w h9 => atoms_spec (ws := w_Te_equation) B.pre w (List.mem_cons_of_mem _ h9)
  have hown : s.vm.findClass "ClauseLedger$Terms" = some m.cls := findClass_of_methodNamed B.named
  have hlocks := B.notSynchronized
  subst hsz
  have hD := hD0.self (sz := s.heap.size)
  generalize hAe : va_A (Wc ty h σ px) s.heap.size = A at hD ⊢
  have hA : ∀ q : Nat, s.heap.size ≤ q → A q := fun q h9 => by rw [← hAe]; exact Or.inr h9
  have hS : va_S A s.heap s.heap [] := va_S.rf
  have he : entryFrame m args 3 = entryFrame m ([.ref (h 6), .int a1, .int a2] : List Value).toArray 3 := by rw [ha]
  rw [he, lg_entry_eq]
  have hl := lv_entry ([.ref (h 6), .int a1, .int a2]) (n := 3) (Nat.le_of_ble_eq_true rfl)
  generalize (lg_sl ([.ref (h 6), .int a1, .int a2]) ++ List.replicate (3 - (lg_sl ([.ref (h 6), .int a1, .int a2])).length) Slot.unset).toArray = ls at hl ⊢
  have hl : lv_has ls 3 [(0, .ref (h 6)), (1, .int a1), (2, .int a2)] := hl
  generalize hv : f_Te_equation a1 a2 σ = v
  replace hv := hv.symm
  have B9 : ∀ (H : Heap) (locs : List Loc) (ls : Array Slot) (s0 : Int32) (σ : St), v = f_Te_equation_9 s0 σ → k_Te_equation_9 s0 σ → lv_has ls 3 [] → va_P D classes (Wc ty h σ px) H → va_D A (Wc ty h σ px) → va_S A s.heap H locs → W p l e (headSpec w_Te_equation rm_Te_equation).room s m args below meth c H locs 0 0 (MQ below (va_Qi (fun r (u : St) => (r, u) = v) (fun u t => va_P D classes (Wc ty h u px) t.heap) A) args s 0 0 A) (F0 m 9 ls [.int s0]) := by
    intro H locs ls s0 σ hv hk hl hP hD hS
    unfold f_Te_equation_9 at hv
    unfold k_Te_equation_9 at hk
    exact W.iret hx hb hr (fun t ht hW => ⟨⟨_, _, rfl, hv.symm, by dsimp only; rw [ht]; exact hP⟩, hS.F ht⟩) hS.2.2 d_Te_equation_9
  unfold f_Te_equation at hv
  unfold k_Te_equation at hk
  refine lv_aload_n hx hb d_Te_equation_0 rfl (lv_at hl 0 rfl) ?_
  refine lv_iconst (v := 5) hx hb d_Te_equation_1 (by decide) ?_
  refine lv_iconst (v := 0) hx hb d_Te_equation_2 (by decide) ?_
  refine lv_iconst (v := -1) hx hb d_Te_equation_3 (by decide) ?_
  refine lv_iload_n hx hb d_Te_equation_4 rfl (lv_at hl 1 rfl) ?_
  refine lv_iload_n hx hb d_Te_equation_5 rfl (lv_at hl 2 rfl) ?_
  obtain ⟨hk0, hk⟩ := hk
  refine va_calli (va_runV (As := [.int 5, .int 0, .int (-1), .int a1, .int a2]) (rest := []) ⟨hx, hb, hml, hown, hg⟩ (c_Te_make l D ty h px σ s.heap.size 5 0 (-1) a1 a2 hk0) ⟨callB_of 5 hg (gw_C m_620) rfl rfl rfl (hg _ m_3) (hg _ m_1015) hd_Te_make ⟨Nat.le_of_ble_eq_true rfl, Nat.le_of_ble_eq_true rfl⟩, hg _ m_618, hg _ m_619⟩ (zz_preVW hN hK hP hD 6 rfl rfl) rfl rfl hl.1 rfl (lv_room (Nat.le_of_ble_eq_true rfl)) d_Te_equation_6 ⟨Nat.le_of_ble_eq_true rfl, Nat.le_of_ble_eq_true rfl⟩) hS (fun q _ h => zz_free hD hS hA q h) (zz_free hD hS hA) (fun r6 u6 t H locs ht hvm hp hP1 hz hk1 hS => ?_)
  rw [ht] at hP1
  rw [← hp] at hv hk
  have hD : va_D A (Wc ty h u6 px) := zz_D hD rfl
  have hP := hP1
  exact B9 _ _ _ r6 u6 hv hk (lv_sub hl [] rfl) hP hD hS

-- ClauseLedger.same(I)I
abbrev b_CL_same : ByteArray := prog_1_method_11_code
def y_CL_same : MethodName := ⟨"ClauseLedger", "same", "(I)I"⟩
theorem hd_CL_same : y_CL_same.cls ≠ "java/lang/invoke/MethodHandle" ∧ y_CL_same.cls ≠ "java/lang/invoke/VarHandle" ∧ (parseMethodDescriptor y_CL_same.desc).map (fun d => d.parameters.length) = some 1 := by decide +kernel
theorem d_CL_same_0 : decode b_CL_same 0 = .ok (.aload_n 0, 1) := by decide +kernel
theorem d_CL_same_1 : decode b_CL_same 1 = .ok (.invokevirtual 102, 3) := by decide +kernel
theorem d_CL_same_4 : decode b_CL_same 4 = .ok (.ifCond .eq 5, 3) := by decide +kernel
theorem d_CL_same_7 : decode b_CL_same 7 = .ok (.iconst (-1), 1) := by decide +kernel
theorem d_CL_same_8 : decode b_CL_same 8 = .ok (.ireturn, 1) := by decide +kernel
theorem d_CL_same_9 : decode b_CL_same 9 = .ok (.aload_n 0, 1) := by decide +kernel
theorem d_CL_same_10 : decode b_CL_same 10 = .ok (.getfield 19, 3) := by decide +kernel
theorem d_CL_same_13 : decode b_CL_same 13 = .ok (.iload_n 1, 1) := by decide +kernel
theorem d_CL_same_14 : decode b_CL_same 14 = .ok (.invokevirtual 130, 3) := by decide +kernel
theorem d_CL_same_17 : decode b_CL_same 17 = .ok (.ifCond .ne 8, 3) := by decide +kernel
theorem d_CL_same_20 : decode b_CL_same 20 = .ok (.aload_n 0, 1) := by decide +kernel
theorem d_CL_same_21 : decode b_CL_same 21 = .ok (.invokevirtual 134, 3) := by decide +kernel
theorem d_CL_same_24 : decode b_CL_same 24 = .ok (.ireturn, 1) := by decide +kernel
theorem d_CL_same_25 : decode b_CL_same 25 = .ok (.aload_n 0, 1) := by decide +kernel
theorem d_CL_same_26 : decode b_CL_same 26 = .ok (.getfield 65, 3) := by decide +kernel
theorem d_CL_same_29 : decode b_CL_same 29 = .ok (.invokevirtual 140, 3) := by decide +kernel
theorem d_CL_same_32 : decode b_CL_same 32 = .ok (.aload_n 0, 1) := by decide +kernel
theorem d_CL_same_33 : decode b_CL_same 33 = .ok (.getfield 65, 3) := by decide +kernel
theorem d_CL_same_36 : decode b_CL_same 36 = .ok (.aload_n 0, 1) := by decide +kernel
theorem d_CL_same_37 : decode b_CL_same 37 = .ok (.getfield 19, 3) := by decide +kernel
theorem d_CL_same_40 : decode b_CL_same 40 = .ok (.iload_n 1, 1) := by decide +kernel
theorem d_CL_same_41 : decode b_CL_same 41 = .ok (.iload_n 1, 1) := by decide +kernel
theorem d_CL_same_42 : decode b_CL_same 42 = .ok (.invokevirtual 169, 3) := by decide +kernel
theorem d_CL_same_45 : decode b_CL_same 45 = .ok (.invokevirtual 141, 3) := by decide +kernel
theorem d_CL_same_48 : decode b_CL_same 48 = .ok (.aload_n 0, 1) := by decide +kernel
theorem d_CL_same_49 : decode b_CL_same 49 = .ok (.aload_n 0, 1) := by decide +kernel
theorem d_CL_same_50 : decode b_CL_same 50 = .ok (.getfield 72, 3) := by decide +kernel
theorem d_CL_same_53 : decode b_CL_same 53 = .ok (.invokevirtual 145, 3) := by decide +kernel
theorem d_CL_same_56 : decode b_CL_same 56 = .ok (.iconst 0, 1) := by decide +kernel
theorem d_CL_same_57 : decode b_CL_same 57 = .ok (.invokevirtual 148, 3) := by decide +kernel
theorem d_CL_same_60 : decode b_CL_same 60 = .ok (.ireturn, 1) := by decide +kernel
def f_CL_same_24 (s0 : Int32) (σ : St) : XR := (.inl s0, σ)
def k_CL_same_24 (s0 : Int32) (σ : St) : Prop := True
def f_CL_same_60 (s0 : Int32) (σ : St) : XR := (.inl s0, σ)
def k_CL_same_60 (s0 : Int32) (σ : St) : Prop := True
def f_CL_same_48 (σ : St) : XR := xb (f_CL_enterRow (f_Sc_innermost σ) 0 σ) (fun x u => f_CL_same_60 x u)
def k_CL_same_48 (σ : St) : Prop := (k_Sc_innermost σ) ∧ ((k_CL_enterRow (f_Sc_innermost σ) 0 σ) ∧ (∀ x, (f_CL_enterRow (f_Sc_innermost σ) 0 σ).1 = .inl x → (k_CL_same_60 x ((f_CL_enterRow (f_Sc_innermost σ) 0 σ).2))))
def f_CL_same_45 (s0 : Int32) (σ : St) : XR := f_CL_same_48 (f_Ro_join s0 σ)
def k_CL_same_45 (s0 : Int32) (σ : St) : Prop := (k_Ro_join s0 σ) ∧ (k_CL_same_48 (f_Ro_join s0 σ))
def f_CL_same_32 (x1 : Int32) (σ : St) : XR := f_CL_same_45 ((f_Te_equation x1 x1 σ).1) ((f_Te_equation x1 x1 σ).2)
def k_CL_same_32 (x1 : Int32) (σ : St) : Prop := (k_Te_equation x1 x1 σ) ∧ (k_CL_same_45 ((f_Te_equation x1 x1 σ).1) ((f_Te_equation x1 x1 σ).2))
def f_CL_same (a1 : Int32) (σ : St) : XR := if (f_CL_isShut σ) = 0 then (if (f_Te_has a1 σ) = 0 then (xb (f_CL_throwMissing σ) (fun x u => f_CL_same_24 x u)) else (f_CL_same_32 a1 (f_Ro_wipe σ))) else (.inl (-1), σ)
def k_CL_same (a1 : Int32) (σ : St) : Prop := (k_CL_isShut σ) ∧ (((f_CL_isShut σ) = 0 → ((k_Te_has a1 σ) ∧ (((f_Te_has a1 σ) = 0 → ((k_CL_throwMissing σ) ∧ (∀ x, (f_CL_throwMissing σ).1 = .inl x → (k_CL_same_24 x ((f_CL_throwMissing σ).2))))) ∧ (¬ (f_Te_has a1 σ) = 0 → ((k_Ro_wipe σ) ∧ (k_CL_same_32 a1 (f_Ro_wipe σ))))))) ∧ (¬ (f_CL_isShut σ) = 0 → True))
abbrev w_CL_same : List Cond := Cond.code y_CL_same b_CL_same 2 (some .int) :: gw
abbrev rm_CL_same : Room := { frames := 8, cells := 1, slots := 6, locals := 142 }
set_option maxHeartbeats 4000000 in
set_option maxRecDepth 100000 in
theorem c_CL_same (l : Launch) (hlt : l.stackTraces = false) (D : va_G) (ty : Nat → ClassId) (h : Nat → Nat) (px : va_W) (sa : Nat → Nat) (σ : St) (sz : Nat) (a1 : Int32) (hk : k_CL_same a1 σ) : xMet l y_CL_same w_CL_same rm_CL_same (va_Pc [.ref (h 0), .int a1] (fun U => U.heap.size = sz ∧ va_P D classes (Wc ty h σ px) U.heap ∧ va_K D classes (Ta ty) U ∧ NW U ∧ XK sa (va_A (Wc ty h σ px) sz) U U.heap ∧ va_D (fun _ => True) (Wc ty h σ px))) (Rx D classes (fun u => Wc ty h u px) (va_A (Wc ty h σ px) sz) (f_CL_same a1 σ)) 1 6 (va_A (Wc ty h σ px) sz) := by
  refine xMet.ofW (cc := b_CL_same) (maxL := 2) (ret := (some .int)) (by decide) rfl ?_
  intro p e s m args below meth c s₁ B hml htab hv
  obtain ⟨ha, hsz, hP, hK, hN, hX, hD0⟩ := hv
  have hx := B.exec
  have hb := B.bytes
  have hr := B.returns
  have hg : ∀ w ∈ gw, w.before args s = true := fun w h9 => atoms_spec (ws := w_CL_same) B.pre w (List.mem_cons_of_mem _ h9)
  have hown : s.vm.findClass "ClauseLedger" = some m.cls := findClass_of_methodNamed B.named
  have hlocks := B.notSynchronized
  subst hsz
  have hD := hD0.self (sz := s.heap.size)
  generalize hAe : va_A (Wc ty h σ px) s.heap.size = A at hD hX ⊢
  have hA : ∀ q : Nat, s.heap.size ≤ q → A q := fun q h9 => by rw [← hAe]; exact Or.inr h9
  have hS : va_S A s.heap s.heap [] := va_S.rf
  have he : entryFrame m args 2 = entryFrame m ([.ref (h 0), .int a1] : List Value).toArray 2 := by rw [ha]
  rw [he, lg_entry_eq]
  have hl := lv_entry ([.ref (h 0), .int a1]) (n := 2) (Nat.le_of_ble_eq_true rfl)
  generalize (lg_sl ([.ref (h 0), .int a1]) ++ List.replicate (2 - (lg_sl ([.ref (h 0), .int a1])).length) Slot.unset).toArray = ls at hl ⊢
  have hl : lv_has ls 2 [(0, .ref (h 0)), (1, .int a1)] := hl
  generalize hv : f_CL_same a1 σ = v
  replace hv := hv.symm
  have B24 : ∀ (H : Heap) (locs : List Loc) (ls : Array Slot) (s0 : Int32) (σ : St), v = f_CL_same_24 s0 σ → k_CL_same_24 s0 σ → lv_has ls 2 [] → va_P D classes (Wc ty h σ px) H → va_D A (Wc ty h σ px) → va_S A s.heap H locs → W p l e (headSpec w_CL_same rm_CL_same).room s m args below meth c H locs 1 6 (xMQ below (Rx D classes (fun u => Wc ty h u px) A v) args s 1 6 A) (F0 m 24 ls [.int s0]) := by
    intro H locs ls s0 σ hv hk hl hP hD hS
    unfold f_CL_same_24 at hv
    unfold k_CL_same_24 at hk
    exact x_ret (fun o t hq => by obtain ⟨rfl, ht⟩ := hq; exact ⟨hS.F ht, by rw [ht, hv]; exact hP, _, rfl, by rw [hv]⟩) (Nat.le_of_ble_eq_true rfl) (Nat.le_of_ble_eq_true rfl) (W.iret (Qc := fun _ _ o t => o = .returned (some (.int s0)) ∧ t.heap = H) hx hb hr (fun t ht hW => ⟨rfl, ht⟩) hS.2.2 d_CL_same_24)
  have B60 : ∀ (H : Heap) (locs : List Loc) (ls : Array Slot) (s0 : Int32) (σ : St), v = f_CL_same_60 s0 σ → k_CL_same_60 s0 σ → lv_has ls 2 [] → va_P D classes (Wc ty h σ px) H → va_D A (Wc ty h σ px) → va_S A s.heap H locs → W p l e (headSpec w_CL_same rm_CL_same).room s m args below meth c H locs 1 6 (xMQ below (Rx D classes (fun u => Wc ty h u px) A v) args s 1 6 A) (F0 m 60 ls [.int s0]) := by
    intro H locs ls s0 σ hv hk hl hP hD hS
    unfold f_CL_same_60 at hv
    unfold k_CL_same_60 at hk
    exact x_ret (fun o t hq => by obtain ⟨rfl, ht⟩ := hq; exact ⟨hS.F ht, by rw [ht, hv]; exact hP, _, rfl, by rw [hv]⟩) (Nat.le_of_ble_eq_true rfl) (Nat.le_of_ble_eq_true rfl) (W.iret (Qc := fun _ _ o t => o = .returned (some (.int s0)) ∧ t.heap = H) hx hb hr (fun t ht hW => ⟨rfl, ht⟩) hS.2.2 d_CL_same_60)
  have B48 : ∀ (H : Heap) (locs : List Loc) (ls : Array Slot) (σ : St), v = f_CL_same_48 σ → k_CL_same_48 σ → lv_has ls 2 [(0, .ref (h 0))] → va_P D classes (Wc ty h σ px) H → va_D A (Wc ty h σ px) → va_S A s.heap H locs → W p l e (headSpec w_CL_same rm_CL_same).room s m args below meth c H locs 0 0 (xMQ below (Rx D classes (fun u => Wc ty h u px) A v) args s 1 6 A) (F0 m 48 ls []) := by
    intro H locs ls σ hv hk hl hP hD hS
    unfold f_CL_same_48 at hv
    unfold k_CL_same_48 at hk
    refine lv_aload_n hx hb d_CL_same_48 rfl (lv_at hl 0 rfl) ?_
    refine lv_aload_n hx hb d_CL_same_49 rfl (lv_at hl 0 rfl) ?_
    refine va_get (v := .ref (h 27)) (C := R_CL) (T := T_CL) (N := 11) hx hb hg in_CL hown hK hP 0 rfl rfl 8 (by decide) (hg _ m_292) (fun _ h9 => h9) rfl d_CL_same_50 ?_
    obtain ⟨hk0, hk⟩ := hk
    refine zz_callV (va_runV (As := []) (rest := [.ref (h 0)]) ⟨hx, hb, hml, hown, hg⟩ (c_Sc_innermost l D ty h px σ  hk0) ⟨callB_of 0 hg (gw_C m_943) rfl rfl rfl (hg _ m_11) (hg _ m_940) hd_Sc_innermost ⟨Nat.le_of_ble_eq_true rfl, Nat.le_of_ble_eq_true rfl⟩, hg _ m_941, hg _ m_942⟩ (zz_preV hN hK hP 27 rfl rfl) rfl rfl hl.1 rfl (lv_room (Nat.le_of_ble_eq_true rfl)) d_CL_same_53 ⟨Nat.le_of_ble_eq_true rfl, Nat.le_of_ble_eq_true rfl⟩) ?_
    refine lv_iconst (v := 0) hx hb d_CL_same_56 (by decide) ?_
    obtain ⟨hk0, hk⟩ := hk
    refine x_callV (As := [.int (f_Sc_innermost σ), .int 0]) (rest := []) ⟨hx, hb, hml, hown, hg⟩ (c_CL_enterRow l hlt D ty h px sa σ H.size (f_Sc_innermost σ) 0 hk0) ⟨callB_of 2 hg (gw_C m_947) rfl rfl rfl (hg _ m_1) (hg _ m_944) hd_CL_enterRow ⟨Nat.le_of_ble_eq_true rfl, Nat.le_of_ble_eq_true rfl⟩, hg _ m_946, hg _ ms_30⟩ (zz_preX hN hX hS hA hK hP hD 0 rfl rfl) rfl hl.1 rfl (Nat.le_of_ble_eq_true rfl) d_CL_same_57 ⟨Nat.le_of_ble_eq_true rfl, Nat.le_of_ble_eq_true rfl⟩ (fun r9 st9 t9 L9 h09 hal9 hR9 hL9 => ?_) (fun q9 st9 t9 L9 h09 h19 hal9 hR9 hL9 => ?_)
    · obtain ⟨hF9, hP9, x, rfl, hz9⟩ := hR9
      have hv := hv.trans (xb_l hz9)
      have hk := hk _ hz9
      have hS := zz_xS hS h09 hF9 (zz_free hD hS hA) hL9
      have hD : va_D A (Wc ty h (f_CL_enterRow (f_Sc_innermost σ) 0 σ).2 px) := zz_D hD rfl
      exact B60 _ _ _ x (f_CL_enterRow (f_Sc_innermost σ) 0 σ).2 hv hk (lv_sub hl [] rfl) hP9 hD hS
    · obtain ⟨hF9, hP9, E9, ce9, hz9, hq9, hn9, hc9⟩ := hR9
      have hv := hv.trans (xb_r hz9)
      have hS := zz_xS hS h09 hF9 (zz_free hD hS hA) hL9
      exact x_out htab hlocks (fun t ht hal => ⟨hS.F ht, by rw [ht, hv]; exact hP9, E9, ce9, by rw [hv], by rw [ht]; exact hq9, hn9, by rw [h19.findClass]; exact hc9⟩) hS.2.2 (Nat.le_of_ble_eq_true rfl) (Nat.le_of_ble_eq_true rfl)
  have B45 : ∀ (H : Heap) (locs : List Loc) (ls : Array Slot) (s0 : Int32) (σ : St), v = f_CL_same_45 s0 σ → k_CL_same_45 s0 σ → lv_has ls 2 [(0, .ref (h 0))] → va_P D classes (Wc ty h σ px) H → va_D A (Wc ty h σ px) → va_S A s.heap H locs → W p l e (headSpec w_CL_same rm_CL_same).room s m args below meth c H locs 0 0 (xMQ below (Rx D classes (fun u => Wc ty h u px) A v) args s 1 6 A) (F0 m 45 ls [.int s0, .ref (h 25)]) := by
    intro H locs ls s0 σ hv hk hl hP hD hS
    unfold f_CL_same_45 at hv
    unfold k_CL_same_45 at hk
    obtain ⟨hk0, hk⟩ := hk
    refine va_callv (va_runV (As := [.int s0]) (rest := []) ⟨hx, hb, hml, hown, hg⟩ (c_Ro_join l D ty h px σ H.size s0 hk0) ⟨callB_of 1 hg (gw_C m_939) rfl rfl rfl (hg _ m_10) (hg _ m_936) hd_Ro_join ⟨Nat.le_of_ble_eq_true rfl, Nat.le_of_ble_eq_true rfl⟩, hg _ m_937, hg _ m_938⟩ (zz_preVW hN hK hP hD 25 rfl rfl) rfl rfl hl.1 rfl (lv_room (Nat.le_of_ble_eq_true rfl)) d_CL_same_45 ⟨Nat.le_of_ble_eq_true rfl, Nat.le_of_ble_eq_true rfl⟩) hS (fun q _ h => zz_free hD hS hA q h) (zz_free hD hS hA) (fun u45 t H locs ht hvm hp hP1 hz hk1 hS => ?_)
    rw [ht] at hP1
    rw [← hp] at hv hk
    have hD : va_D A (Wc ty h u45 px) := zz_D hD rfl
    have hP := hP1
    exact B48 _ _ _  u45 hv hk (lv_sub hl [0] rfl) hP hD hS
  have B32 : ∀ (H : Heap) (locs : List Loc) (ls : Array Slot) (x1 : Int32) (σ : St), v = f_CL_same_32 x1 σ → k_CL_same_32 x1 σ → lv_has ls 2 [(0, .ref (h 0)), (1, .int x1)] → va_P D classes (Wc ty h σ px) H → va_D A (Wc ty h σ px) → va_S A s.heap H locs → W p l e (headSpec w_CL_same rm_CL_same).room s m args below meth c H locs 0 0 (xMQ below (Rx D classes (fun u => Wc ty h u px) A v) args s 1 6 A) (F0 m 32 ls []) := by
    intro H locs ls x1 σ hv hk hl hP hD hS
    unfold f_CL_same_32 at hv
    unfold k_CL_same_32 at hk
    refine lv_aload_n hx hb d_CL_same_32 rfl (lv_at hl 0 rfl) ?_
    refine va_get (v := .ref (h 25)) (C := R_CL) (T := T_CL) (N := 11) hx hb hg in_CL hown hK hP 0 rfl rfl 7 (by decide) (hg _ m_291) (fun _ h9 => h9) rfl d_CL_same_33 ?_
    refine lv_aload_n hx hb d_CL_same_36 rfl (lv_at hl 0 rfl) ?_
    refine va_get (v := .ref (h 6)) (C := R_CL) (T := T_CL) (N := 11) hx hb hg in_CL hown hK hP 0 rfl rfl 1 (by decide) (hg _ m_285) (fun _ h9 => h9) rfl d_CL_same_37 ?_
    refine lv_iload_n hx hb d_CL_same_40 rfl (lv_at hl 1 rfl) ?_
    refine lv_iload_n hx hb d_CL_same_41 rfl (lv_at hl 1 rfl) ?_
    obtain ⟨hk0, hk⟩ := hk
    refine va_calli (va_runV (As := [.int x1, .int x1]) (rest := [.ref (h 25)]) ⟨hx, hb, hml, hown, hg⟩ (c_Te_equation l D ty h px σ H.size x1 x1 hk0) ⟨callB_of 2 hg (gw_C m_1038) rfl rfl rfl (hg _ m_3) (hg _ m_1035) hd_Te_equation ⟨Nat.le_of_ble_eq_true rfl, Nat.le_of_ble_eq_true rfl⟩, hg _ m_1036, hg _ m_1037⟩ (zz_preVW hN hK hP hD 6 rfl rfl) rfl rfl hl.1 rfl (lv_room (Nat.le_of_ble_eq_true rfl)) d_CL_same_42 ⟨Nat.le_of_ble_eq_true rfl, Nat.le_of_ble_eq_true rfl⟩) hS (fun q _ h => zz_free hD hS hA q h) (zz_free hD hS hA) (fun r42 u42 t H locs ht hvm hp hP1 hz hk1 hS => ?_)
    rw [ht] at hP1
    rw [← hp] at hv hk
    have hD : va_D A (Wc ty h u42 px) := zz_D hD rfl
    have hP := hP1
    exact B45 _ _ _ r42 u42 hv hk (lv_sub hl [0] rfl) hP hD hS
  unfold f_CL_same at hv
  unfold k_CL_same at hk
  refine lv_aload_n hx hb d_CL_same_0 rfl (lv_at hl 0 rfl) ?_
  obtain ⟨hk0, hk⟩ := hk
  refine zz_callV (va_runV (As := []) (rest := []) ⟨hx, hb, hml, hown, hg⟩ (c_CL_isShut l D ty h px σ  hk0) ⟨callB_of 0 hg (gw_C m_571) rfl rfl rfl (hg _ m_1) (hg _ m_568) hd_CL_isShut ⟨Nat.le_of_ble_eq_true rfl, Nat.le_of_ble_eq_true rfl⟩, hg _ m_570, hg _ ms_8⟩ (zz_preV hN hK hP 0 rfl rfl) rfl rfl hl.1 rfl (lv_room (Nat.le_of_ble_eq_true rfl)) d_CL_same_1 ⟨Nat.le_of_ble_eq_true rfl, Nat.le_of_ble_eq_true rfl⟩) ?_
  refine lv_if_eq (tgt := 9) hx hb d_CL_same_4 (by decide) (fun hc => ?_) (fun hc => ?_)
  · have hv := hv.trans (if_pos hc)
    have hk := hk.1 hc
    refine lv_aload_n hx hb d_CL_same_9 rfl (lv_at hl 0 rfl) ?_
    refine va_get (v := .ref (h 6)) (C := R_CL) (T := T_CL) (N := 11) hx hb hg in_CL hown hK hP 0 rfl rfl 1 (by decide) (hg _ m_285) (fun _ h9 => h9) rfl d_CL_same_10 ?_
    refine lv_iload_n hx hb d_CL_same_13 rfl (lv_at hl 1 rfl) ?_
    obtain ⟨hk0, hk⟩ := hk
    refine zz_callV (va_runV (As := [.int a1]) (rest := []) ⟨hx, hb, hml, hown, hg⟩ (c_Te_has l D ty h px σ a1 hk0) ⟨callB_of 1 hg (gw_C m_430) rfl rfl rfl (hg _ m_3) (hg _ m_427) hd_Te_has ⟨Nat.le_of_ble_eq_true rfl, Nat.le_of_ble_eq_true rfl⟩, hg _ m_428, hg _ m_429⟩ (zz_preV hN hK hP 6 rfl rfl) rfl rfl hl.1 rfl (lv_room (Nat.le_of_ble_eq_true rfl)) d_CL_same_14 ⟨Nat.le_of_ble_eq_true rfl, Nat.le_of_ble_eq_true rfl⟩) ?_
    refine lv_if_ne (tgt := 25) hx hb d_CL_same_17 (by decide) (fun hc => ?_) (fun hc => ?_)
    · have hv := hv.trans (if_neg hc)
      have hk := hk.2 hc
      refine lv_aload_n hx hb d_CL_same_25 rfl (lv_at hl 0 rfl) ?_
      refine va_get (v := .ref (h 25)) (C := R_CL) (T := T_CL) (N := 11) hx hb hg in_CL hown hK hP 0 rfl rfl 7 (by decide) (hg _ m_291) (fun _ h9 => h9) rfl d_CL_same_26 ?_
      obtain ⟨hk0, hk⟩ := hk
      refine va_callv (va_runV (As := []) (rest := []) ⟨hx, hb, hml, hown, hg⟩ (c_Ro_wipe l D ty h px σ s.heap.size  hk0) ⟨callB_of 0 hg (gw_C m_935) rfl rfl rfl (hg _ m_10) (hg _ m_932) hd_Ro_wipe ⟨Nat.le_of_ble_eq_true rfl, Nat.le_of_ble_eq_true rfl⟩, hg _ m_933, hg _ m_934⟩ (zz_preVW hN hK hP hD 25 rfl rfl) rfl rfl hl.1 rfl (lv_room (Nat.le_of_ble_eq_true rfl)) d_CL_same_29 ⟨Nat.le_of_ble_eq_true rfl, Nat.le_of_ble_eq_true rfl⟩) hS (fun q _ h => zz_free hD hS hA q h) (zz_free hD hS hA) (fun u29 t H locs ht hvm hp hP1 hz hk1 hS => ?_)
      rw [ht] at hP1
      rw [← hp] at hv hk
      have hD : va_D A (Wc ty h u29 px) := zz_D hD rfl
      have hP := hP1
      exact B32 _ _ _ a1 u29 hv hk (lv_sub hl [0, 1] rfl) hP hD hS
    · have hv := hv.trans (if_pos hc)
      have hk := hk.1 hc
      refine lv_aload_n hx hb d_CL_same_20 rfl (lv_at hl 0 rfl) ?_
      obtain ⟨hk0, hk⟩ := hk
      refine x_callV (As := []) (rest := []) ⟨hx, hb, hml, hown, hg⟩ (c_CL_throwMissing l hlt D ty h px sa σ s.heap.size  hk0) ⟨callB_of 0 hg (gw_C m_914) rfl rfl rfl (hg _ m_1) (hg _ m_911) hd_CL_throwMissing ⟨Nat.le_of_ble_eq_true rfl, Nat.le_of_ble_eq_true rfl⟩, hg _ m_913, hg _ ms_29⟩ (zz_preX hN hX hS hA hK hP hD 0 rfl rfl) rfl hl.1 rfl (Nat.le_of_ble_eq_true rfl) d_CL_same_21 ⟨Nat.le_of_ble_eq_true rfl, Nat.le_of_ble_eq_true rfl⟩ (fun r9 st9 t9 L9 h09 hal9 hR9 hL9 => ?_) (fun q9 st9 t9 L9 h09 h19 hal9 hR9 hL9 => ?_)
      · obtain ⟨hF9, hP9, x, rfl, hz9⟩ := hR9
        have hv := hv.trans (xb_l hz9)
        have hk := hk _ hz9
        have hS := zz_xS hS h09 hF9 (zz_free hD hS hA) hL9
        have hD : va_D A (Wc ty h (f_CL_throwMissing σ).2 px) := zz_D hD rfl
        exact B24 _ _ _ x (f_CL_throwMissing σ).2 hv hk (lv_sub hl [] rfl) hP9 hD hS
      · obtain ⟨hF9, hP9, E9, ce9, hz9, hq9, hn9, hc9⟩ := hR9
        have hv := hv.trans (xb_r hz9)
        have hS := zz_xS hS h09 hF9 (zz_free hD hS hA) hL9
        exact x_out htab hlocks (fun t ht hal => ⟨hS.F ht, by rw [ht, hv]; exact hP9, E9, ce9, by rw [hv], by rw [ht]; exact hq9, hn9, by rw [h19.findClass]; exact hc9⟩) hS.2.2 (Nat.le_of_ble_eq_true rfl) (Nat.le_of_ble_eq_true rfl)
  · have hv := hv.trans (if_neg hc)
    have hk := hk.2 hc
    refine lv_iconst (v := -1) hx hb d_CL_same_7 (by decide) ?_
    exact x_ret (fun o t hq => by obtain ⟨rfl, ht⟩ := hq; exact ⟨hS.F ht, by rw [ht, hv]; exact hP, _, rfl, by rw [hv]⟩) (Nat.le_of_ble_eq_true rfl) (Nat.le_of_ble_eq_true rfl) (W.iret (Qc := fun _ _ o t => o = .returned (some (.int (-1))) ∧ t.heap = s.heap) hx hb hr (fun t ht hW => ⟨rfl, ht⟩) hS.2.2 d_CL_same_8)

-- ClauseLedger.chain(II)I
abbrev b_CL_chain : ByteArray := prog_1_method_12_code
def y_CL_chain : MethodName := ⟨"ClauseLedger", "chain", "(II)I"⟩
theorem hd_CL_chain : y_CL_chain.cls ≠ "java/lang/invoke/MethodHandle" ∧ y_CL_chain.cls ≠ "java/lang/invoke/VarHandle" ∧ (parseMethodDescriptor y_CL_chain.desc).map (fun d => d.parameters.length) = some 2 := by decide +kernel
theorem d_CL_chain_0 : decode b_CL_chain 0 = .ok (.aload_n 0, 1) := by decide +kernel
theorem d_CL_chain_1 : decode b_CL_chain 1 = .ok (.invokevirtual 102, 3) := by decide +kernel
theorem d_CL_chain_4 : decode b_CL_chain 4 = .ok (.ifCond .eq 5, 3) := by decide +kernel
theorem d_CL_chain_7 : decode b_CL_chain 7 = .ok (.iconst (-1), 1) := by decide +kernel
theorem d_CL_chain_8 : decode b_CL_chain 8 = .ok (.ireturn, 1) := by decide +kernel
theorem d_CL_chain_9 : decode b_CL_chain 9 = .ok (.aload_n 0, 1) := by decide +kernel
theorem d_CL_chain_10 : decode b_CL_chain 10 = .ok (.getfield 19, 3) := by decide +kernel
theorem d_CL_chain_13 : decode b_CL_chain 13 = .ok (.iload_n 1, 1) := by decide +kernel
theorem d_CL_chain_14 : decode b_CL_chain 14 = .ok (.invokevirtual 130, 3) := by decide +kernel
theorem d_CL_chain_17 : decode b_CL_chain 17 = .ok (.ifCond .eq 14, 3) := by decide +kernel
theorem d_CL_chain_20 : decode b_CL_chain 20 = .ok (.aload_n 0, 1) := by decide +kernel
theorem d_CL_chain_21 : decode b_CL_chain 21 = .ok (.getfield 19, 3) := by decide +kernel
theorem d_CL_chain_24 : decode b_CL_chain 24 = .ok (.iload_n 2, 1) := by decide +kernel
theorem d_CL_chain_25 : decode b_CL_chain 25 = .ok (.invokevirtual 130, 3) := by decide +kernel
theorem d_CL_chain_28 : decode b_CL_chain 28 = .ok (.ifCond .ne 8, 3) := by decide +kernel
theorem d_CL_chain_31 : decode b_CL_chain 31 = .ok (.aload_n 0, 1) := by decide +kernel
theorem d_CL_chain_32 : decode b_CL_chain 32 = .ok (.invokevirtual 134, 3) := by decide +kernel
theorem d_CL_chain_35 : decode b_CL_chain 35 = .ok (.ireturn, 1) := by decide +kernel
theorem d_CL_chain_36 : decode b_CL_chain 36 = .ok (.aload_n 0, 1) := by decide +kernel
theorem d_CL_chain_37 : decode b_CL_chain 37 = .ok (.getfield 19, 3) := by decide +kernel
theorem d_CL_chain_40 : decode b_CL_chain 40 = .ok (.iload_n 1, 1) := by decide +kernel
theorem d_CL_chain_41 : decode b_CL_chain 41 = .ok (.invokevirtual 173, 3) := by decide +kernel
theorem d_CL_chain_44 : decode b_CL_chain 44 = .ok (.iconst 5, 1) := by decide +kernel
theorem d_CL_chain_45 : decode b_CL_chain 45 = .ok (.if_icmp .ne 34, 3) := by decide +kernel
theorem d_CL_chain_48 : decode b_CL_chain 48 = .ok (.aload_n 0, 1) := by decide +kernel
theorem d_CL_chain_49 : decode b_CL_chain 49 = .ok (.getfield 19, 3) := by decide +kernel
theorem d_CL_chain_52 : decode b_CL_chain 52 = .ok (.iload_n 2, 1) := by decide +kernel
theorem d_CL_chain_53 : decode b_CL_chain 53 = .ok (.invokevirtual 173, 3) := by decide +kernel
theorem d_CL_chain_56 : decode b_CL_chain 56 = .ok (.iconst 5, 1) := by decide +kernel
theorem d_CL_chain_57 : decode b_CL_chain 57 = .ok (.if_icmp .ne 22, 3) := by decide +kernel
theorem d_CL_chain_60 : decode b_CL_chain 60 = .ok (.aload_n 0, 1) := by decide +kernel
theorem d_CL_chain_61 : decode b_CL_chain 61 = .ok (.getfield 19, 3) := by decide +kernel
theorem d_CL_chain_64 : decode b_CL_chain 64 = .ok (.iload_n 1, 1) := by decide +kernel
theorem d_CL_chain_65 : decode b_CL_chain 65 = .ok (.invokevirtual 176, 3) := by decide +kernel
theorem d_CL_chain_68 : decode b_CL_chain 68 = .ok (.aload_n 0, 1) := by decide +kernel
theorem d_CL_chain_69 : decode b_CL_chain 69 = .ok (.getfield 19, 3) := by decide +kernel
theorem d_CL_chain_72 : decode b_CL_chain 72 = .ok (.iload_n 2, 1) := by decide +kernel
theorem d_CL_chain_73 : decode b_CL_chain 73 = .ok (.invokevirtual 179, 3) := by decide +kernel
theorem d_CL_chain_76 : decode b_CL_chain 76 = .ok (.if_icmp .eq 8, 3) := by decide +kernel
theorem d_CL_chain_79 : decode b_CL_chain 79 = .ok (.aload_n 0, 1) := by decide +kernel
theorem d_CL_chain_80 : decode b_CL_chain 80 = .ok (.invokevirtual 112, 3) := by decide +kernel
theorem d_CL_chain_83 : decode b_CL_chain 83 = .ok (.ireturn, 1) := by decide +kernel
theorem d_CL_chain_84 : decode b_CL_chain 84 = .ok (.aload_n 0, 1) := by decide +kernel
theorem d_CL_chain_85 : decode b_CL_chain 85 = .ok (.getfield 65, 3) := by decide +kernel
theorem d_CL_chain_88 : decode b_CL_chain 88 = .ok (.invokevirtual 140, 3) := by decide +kernel
theorem d_CL_chain_91 : decode b_CL_chain 91 = .ok (.aload_n 0, 1) := by decide +kernel
theorem d_CL_chain_92 : decode b_CL_chain 92 = .ok (.getfield 65, 3) := by decide +kernel
theorem d_CL_chain_95 : decode b_CL_chain 95 = .ok (.aload_n 0, 1) := by decide +kernel
theorem d_CL_chain_96 : decode b_CL_chain 96 = .ok (.getfield 19, 3) := by decide +kernel
theorem d_CL_chain_99 : decode b_CL_chain 99 = .ok (.iload_n 1, 1) := by decide +kernel
theorem d_CL_chain_100 : decode b_CL_chain 100 = .ok (.invokevirtual 182, 3) := by decide +kernel
theorem d_CL_chain_103 : decode b_CL_chain 103 = .ok (.invokevirtual 141, 3) := by decide +kernel
theorem d_CL_chain_106 : decode b_CL_chain 106 = .ok (.aload_n 0, 1) := by decide +kernel
theorem d_CL_chain_107 : decode b_CL_chain 107 = .ok (.getfield 65, 3) := by decide +kernel
theorem d_CL_chain_110 : decode b_CL_chain 110 = .ok (.aload_n 0, 1) := by decide +kernel
theorem d_CL_chain_111 : decode b_CL_chain 111 = .ok (.getfield 19, 3) := by decide +kernel
theorem d_CL_chain_114 : decode b_CL_chain 114 = .ok (.iload_n 2, 1) := by decide +kernel
theorem d_CL_chain_115 : decode b_CL_chain 115 = .ok (.invokevirtual 182, 3) := by decide +kernel
theorem d_CL_chain_118 : decode b_CL_chain 118 = .ok (.invokevirtual 141, 3) := by decide +kernel
theorem d_CL_chain_121 : decode b_CL_chain 121 = .ok (.aload_n 0, 1) := by decide +kernel
theorem d_CL_chain_122 : decode b_CL_chain 122 = .ok (.getfield 65, 3) := by decide +kernel
theorem d_CL_chain_125 : decode b_CL_chain 125 = .ok (.aload_n 0, 1) := by decide +kernel
theorem d_CL_chain_126 : decode b_CL_chain 126 = .ok (.getfield 19, 3) := by decide +kernel
theorem d_CL_chain_129 : decode b_CL_chain 129 = .ok (.aload_n 0, 1) := by decide +kernel
theorem d_CL_chain_130 : decode b_CL_chain 130 = .ok (.getfield 19, 3) := by decide +kernel
theorem d_CL_chain_133 : decode b_CL_chain 133 = .ok (.iload_n 1, 1) := by decide +kernel
theorem d_CL_chain_134 : decode b_CL_chain 134 = .ok (.invokevirtual 179, 3) := by decide +kernel
theorem d_CL_chain_137 : decode b_CL_chain 137 = .ok (.aload_n 0, 1) := by decide +kernel
theorem d_CL_chain_138 : decode b_CL_chain 138 = .ok (.getfield 19, 3) := by decide +kernel
theorem d_CL_chain_141 : decode b_CL_chain 141 = .ok (.iload_n 2, 1) := by decide +kernel
theorem d_CL_chain_142 : decode b_CL_chain 142 = .ok (.invokevirtual 176, 3) := by decide +kernel
theorem d_CL_chain_145 : decode b_CL_chain 145 = .ok (.invokevirtual 169, 3) := by decide +kernel
theorem d_CL_chain_148 : decode b_CL_chain 148 = .ok (.invokevirtual 141, 3) := by decide +kernel
theorem d_CL_chain_151 : decode b_CL_chain 151 = .ok (.aload_n 0, 1) := by decide +kernel
theorem d_CL_chain_152 : decode b_CL_chain 152 = .ok (.aload_n 0, 1) := by decide +kernel
theorem d_CL_chain_153 : decode b_CL_chain 153 = .ok (.getfield 72, 3) := by decide +kernel
theorem d_CL_chain_156 : decode b_CL_chain 156 = .ok (.invokevirtual 145, 3) := by decide +kernel
theorem d_CL_chain_159 : decode b_CL_chain 159 = .ok (.iconst 0, 1) := by decide +kernel
theorem d_CL_chain_160 : decode b_CL_chain 160 = .ok (.invokevirtual 148, 3) := by decide +kernel
theorem d_CL_chain_163 : decode b_CL_chain 163 = .ok (.ireturn, 1) := by decide +kernel
def f_CL_chain_35 (s0 : Int32) (σ : St) : XR := (.inl s0, σ)
def k_CL_chain_35 (s0 : Int32) (σ : St) : Prop := True
def f_CL_chain_31 (σ : St) : XR := xb (f_CL_throwMissing σ) (fun x u => f_CL_chain_35 x u)
def k_CL_chain_31 (σ : St) : Prop := (k_CL_throwMissing σ) ∧ (∀ x, (f_CL_throwMissing σ).1 = .inl x → (k_CL_chain_35 x ((f_CL_throwMissing σ).2)))
def f_CL_chain_83 (s0 : Int32) (σ : St) : XR := (.inl s0, σ)
def k_CL_chain_83 (s0 : Int32) (σ : St) : Prop := True
def f_CL_chain_79 (σ : St) : XR := xb (f_CL_throwWrong σ) (fun x u => f_CL_chain_83 x u)
def k_CL_chain_79 (σ : St) : Prop := (k_CL_throwWrong σ) ∧ (∀ x, (f_CL_throwWrong σ).1 = .inl x → (k_CL_chain_83 x ((f_CL_throwWrong σ).2)))
def f_CL_chain_163 (s0 : Int32) (σ : St) : XR := (.inl s0, σ)
def k_CL_chain_163 (s0 : Int32) (σ : St) : Prop := True
def f_CL_chain_151 (σ : St) : XR := xb (f_CL_enterRow (f_Sc_innermost σ) 0 σ) (fun x u => f_CL_chain_163 x u)
def k_CL_chain_151 (σ : St) : Prop := (k_Sc_innermost σ) ∧ ((k_CL_enterRow (f_Sc_innermost σ) 0 σ) ∧ (∀ x, (f_CL_enterRow (f_Sc_innermost σ) 0 σ).1 = .inl x → (k_CL_chain_163 x ((f_CL_enterRow (f_Sc_innermost σ) 0 σ).2))))
def f_CL_chain_148 (s0 : Int32) (σ : St) : XR := f_CL_chain_151 (f_Ro_join s0 σ)
def k_CL_chain_148 (s0 : Int32) (σ : St) : Prop := (k_Ro_join s0 σ) ∧ (k_CL_chain_151 (f_Ro_join s0 σ))
def f_CL_chain_121 (x1 : Int32) (x2 : Int32) (σ : St) : XR := f_CL_chain_148 ((f_Te_equation (f_Te_firstOf x1 σ) (f_Te_secondOf x2 σ) σ).1) ((f_Te_equation (f_Te_firstOf x1 σ) (f_Te_secondOf x2 σ) σ).2)
def k_CL_chain_121 (x1 : Int32) (x2 : Int32) (σ : St) : Prop := (k_Te_firstOf x1 σ) ∧ ((k_Te_secondOf x2 σ) ∧ ((k_Te_equation (f_Te_firstOf x1 σ) (f_Te_secondOf x2 σ) σ) ∧ (k_CL_chain_148 ((f_Te_equation (f_Te_firstOf x1 σ) (f_Te_secondOf x2 σ) σ).1) ((f_Te_equation (f_Te_firstOf x1 σ) (f_Te_secondOf x2 σ) σ).2))))
def f_CL_chain_118 (x1 : Int32) (x2 : Int32) (s0 : Int32) (σ : St) : XR := f_CL_chain_121 x1 x2 (f_Ro_join s0 σ)
def k_CL_chain_118 (x1 : Int32) (x2 : Int32) (s0 : Int32) (σ : St) : Prop := (k_Ro_join s0 σ) ∧ (k_CL_chain_121 x1 x2 (f_Ro_join s0 σ))
def f_CL_chain_106 (x1 : Int32) (x2 : Int32) (σ : St) : XR := f_CL_chain_118 x1 x2 ((f_Te_opposite x2 σ).1) ((f_Te_opposite x2 σ).2)
def k_CL_chain_106 (x1 : Int32) (x2 : Int32) (σ : St) : Prop := (k_Te_opposite x2 σ) ∧ (k_CL_chain_118 x1 x2 ((f_Te_opposite x2 σ).1) ((f_Te_opposite x2 σ).2))
def f_CL_chain_103 (x1 : Int32) (x2 : Int32) (s0 : Int32) (σ : St) : XR := f_CL_chain_106 x1 x2 (f_Ro_join s0 σ)
def k_CL_chain_103 (x1 : Int32) (x2 : Int32) (s0 : Int32) (σ : St) : Prop := (k_Ro_join s0 σ) ∧ (k_CL_chain_106 x1 x2 (f_Ro_join s0 σ))
def f_CL_chain_91 (x1 : Int32) (x2 : Int32) (σ : St) : XR := f_CL_chain_103 x1 x2 ((f_Te_opposite x1 σ).1) ((f_Te_opposite x1 σ).2)
def k_CL_chain_91 (x1 : Int32) (x2 : Int32) (σ : St) : Prop := (k_Te_opposite x1 σ) ∧ (k_CL_chain_103 x1 x2 ((f_Te_opposite x1 σ).1) ((f_Te_opposite x1 σ).2))
def f_CL_chain (a1 : Int32) (a2 : Int32) (σ : St) : XR := if (f_CL_isShut σ) = 0 then (if (f_Te_has a1 σ) = 0 then (f_CL_chain_31 σ) else (if (f_Te_has a2 σ) = 0 then (f_CL_chain_31 σ) else (if (f_Te_kindOf a1 σ) = 5 then (if (f_Te_kindOf a2 σ) = 5 then (if (f_Te_secondOf a1 σ) = (f_Te_firstOf a2 σ) then (f_CL_chain_91 a1 a2 (f_Ro_wipe σ)) else (f_CL_chain_79 σ)) else (f_CL_chain_79 σ)) else (f_CL_chain_79 σ)))) else (.inl (-1), σ)
def k_CL_chain (a1 : Int32) (a2 : Int32) (σ : St) : Prop := (k_CL_isShut σ) ∧ (((f_CL_isShut σ) = 0 → ((k_Te_has a1 σ) ∧ (((f_Te_has a1 σ) = 0 → (k_CL_chain_31 σ)) ∧ (¬ (f_Te_has a1 σ) = 0 → ((k_Te_has a2 σ) ∧ (((f_Te_has a2 σ) = 0 → (k_CL_chain_31 σ)) ∧ (¬ (f_Te_has a2 σ) = 0 → ((k_Te_kindOf a1 σ) ∧ (((f_Te_kindOf a1 σ) = 5 → ((k_Te_kindOf a2 σ) ∧ (((f_Te_kindOf a2 σ) = 5 → ((k_Te_secondOf a1 σ) ∧ ((k_Te_firstOf a2 σ) ∧ (((f_Te_secondOf a1 σ) = (f_Te_firstOf a2 σ) → ((k_Ro_wipe σ) ∧ (k_CL_chain_91 a1 a2 (f_Ro_wipe σ)))) ∧ (¬ (f_Te_secondOf a1 σ) = (f_Te_firstOf a2 σ) → (k_CL_chain_79 σ)))))) ∧ (¬ (f_Te_kindOf a2 σ) = 5 → (k_CL_chain_79 σ))))) ∧ (¬ (f_Te_kindOf a1 σ) = 5 → (k_CL_chain_79 σ))))))))))) ∧ (¬ (f_CL_isShut σ) = 0 → True))
abbrev w_CL_chain : List Cond := Cond.code y_CL_chain b_CL_chain 3 (some .int) :: gw
abbrev rm_CL_chain : Room := { frames := 8, cells := 1, slots := 6, locals := 142 }
set_option maxHeartbeats 4000000 in
set_option maxRecDepth 100000 in
theorem c_CL_chain (l : Launch) (hlt : l.stackTraces = false) (D : va_G) (ty : Nat → ClassId) (h : Nat → Nat) (px : va_W) (sa : Nat → Nat) (σ : St) (sz : Nat) (a1 : Int32) (a2 : Int32) (hk : k_CL_chain a1 a2 σ) : xMet l y_CL_chain w_CL_chain rm_CL_chain (va_Pc [.ref (h 0), .int a1, .int a2] (fun U => U.heap.size = sz ∧ va_P D classes (Wc ty h σ px) U.heap ∧ va_K D classes (Ta ty) U ∧ NW U ∧ XK sa (va_A (Wc ty h σ px) sz) U U.heap ∧ va_D (fun _ => True) (Wc ty h σ px))) (Rx D classes (fun u => Wc ty h u px) (va_A (Wc ty h σ px) sz) (f_CL_chain a1 a2 σ)) 1 6 (va_A (Wc ty h σ px) sz) := by
  refine xMet.ofW (cc := b_CL_chain) (maxL := 3) (ret := (some .int)) (by decide) rfl ?_
  intro p e s m args below meth c s₁ B hml htab hv
  obtain ⟨ha, hsz, hP, hK, hN, hX, hD0⟩ := hv
  have hx := B.exec
  have hb := B.bytes
  have hr := B.returns
  have hg : ∀ w ∈ gw, w.before args s = true := fun w h9 => atoms_spec (ws := w_CL_chain) B.pre w (List.mem_cons_of_mem _ h9)
  have hown : s.vm.findClass "ClauseLedger" = some m.cls := findClass_of_methodNamed B.named
  have hlocks := B.notSynchronized
  subst hsz
  have hD := hD0.self (sz := s.heap.size)
  generalize hAe : va_A (Wc ty h σ px) s.heap.size = A at hD hX ⊢
  have hA : ∀ q : Nat, s.heap.size ≤ q → A q := fun q h9 => by rw [← hAe]; exact Or.inr h9
  have hS : va_S A s.heap s.heap [] := va_S.rf
  have he : entryFrame m args 3 = entryFrame m ([.ref (h 0), .int a1, .int a2] : List Value).toArray 3 := by rw [ha]
  rw [he, lg_entry_eq]
  have hl := lv_entry ([.ref (h 0), .int a1, .int a2]) (n := 3) (Nat.le_of_ble_eq_true rfl)
  generalize (lg_sl ([.ref (h 0), .int a1, .int a2]) ++ List.replicate (3 - (lg_sl ([.ref (h 0), .int a1, .int a2])).length) Slot.unset).toArray = ls at hl ⊢
  have hl : lv_has ls 3 [(0, .ref (h 0)), (1, .int a1), (2, .int a2)] := hl
  generalize hv : f_CL_chain a1 a2 σ = v
  replace hv := hv.symm
  have B35 : ∀ (H : Heap) (locs : List Loc) (ls : Array Slot) (s0 : Int32) (σ : St), v = f_CL_chain_35 s0 σ → k_CL_chain_35 s0 σ → lv_has ls 3 [] → va_P D classes (Wc ty h σ px) H → va_D A (Wc ty h σ px) → va_S A s.heap H locs → W p l e (headSpec w_CL_chain rm_CL_chain).room s m args below meth c H locs 1 6 (xMQ below (Rx D classes (fun u => Wc ty h u px) A v) args s 1 6 A) (F0 m 35 ls [.int s0]) := by
    intro H locs ls s0 σ hv hk hl hP hD hS
    unfold f_CL_chain_35 at hv
    unfold k_CL_chain_35 at hk
    exact x_ret (fun o t hq => by obtain ⟨rfl, ht⟩ := hq; exact ⟨hS.F ht, by rw [ht, hv]; exact hP, _, rfl, by rw [hv]⟩) (Nat.le_of_ble_eq_true rfl) (Nat.le_of_ble_eq_true rfl) (W.iret (Qc := fun _ _ o t => o = .returned (some (.int s0)) ∧ t.heap = H) hx hb hr (fun t ht hW => ⟨rfl, ht⟩) hS.2.2 d_CL_chain_35)
  have B31 : ∀ (H : Heap) (locs : List Loc) (ls : Array Slot) (σ : St), v = f_CL_chain_31 σ → k_CL_chain_31 σ → lv_has ls 3 [(0, .ref (h 0))] → va_P D classes (Wc ty h σ px) H → va_D A (Wc ty h σ px) → va_S A s.heap H locs → W p l e (headSpec w_CL_chain rm_CL_chain).room s m args below meth c H locs 0 0 (xMQ below (Rx D classes (fun u => Wc ty h u px) A v) args s 1 6 A) (F0 m 31 ls []) := by
    intro H locs ls σ hv hk hl hP hD hS
    unfold f_CL_chain_31 at hv
    unfold k_CL_chain_31 at hk
    refine lv_aload_n hx hb d_CL_chain_31 rfl (lv_at hl 0 rfl) ?_
    obtain ⟨hk0, hk⟩ := hk
    refine x_callV (As := []) (rest := []) ⟨hx, hb, hml, hown, hg⟩ (c_CL_throwMissing l hlt D ty h px sa σ H.size  hk0) ⟨callB_of 0 hg (gw_C m_914) rfl rfl rfl (hg _ m_1) (hg _ m_911) hd_CL_throwMissing ⟨Nat.le_of_ble_eq_true rfl, Nat.le_of_ble_eq_true rfl⟩, hg _ m_913, hg _ ms_29⟩ (zz_preX hN hX hS hA hK hP hD 0 rfl rfl) rfl hl.1 rfl (Nat.le_of_ble_eq_true rfl) d_CL_chain_32 ⟨Nat.le_of_ble_eq_true rfl, Nat.le_of_ble_eq_true rfl⟩ (fun r9 st9 t9 L9 h09 hal9 hR9 hL9 => ?_) (fun q9 st9 t9 L9 h09 h19 hal9 hR9 hL9 => ?_)
    · obtain ⟨hF9, hP9, x, rfl, hz9⟩ := hR9
      have hv := hv.trans (xb_l hz9)
      have hk := hk _ hz9
      have hS := zz_xS hS h09 hF9 (zz_free hD hS hA) hL9
      have hD : va_D A (Wc ty h (f_CL_throwMissing σ).2 px) := zz_D hD rfl
      exact B35 _ _ _ x (f_CL_throwMissing σ).2 hv hk (lv_sub hl [] rfl) hP9 hD hS
    · obtain ⟨hF9, hP9, E9, ce9, hz9, hq9, hn9, hc9⟩ := hR9
      have hv := hv.trans (xb_r hz9)
      have hS := zz_xS hS h09 hF9 (zz_free hD hS hA) hL9
      exact x_out htab hlocks (fun t ht hal => ⟨hS.F ht, by rw [ht, hv]; exact hP9, E9, ce9, by rw [hv], by rw [ht]; exact hq9, hn9, by rw [h19.findClass]; exact hc9⟩) hS.2.2 (Nat.le_of_ble_eq_true rfl) (Nat.le_of_ble_eq_true rfl)
  have B83 : ∀ (H : Heap) (locs : List Loc) (ls : Array Slot) (s0 : Int32) (σ : St), v = f_CL_chain_83 s0 σ → k_CL_chain_83 s0 σ → lv_has ls 3 [] → va_P D classes (Wc ty h σ px) H → va_D A (Wc ty h σ px) → va_S A s.heap H locs → W p l e (headSpec w_CL_chain rm_CL_chain).room s m args below meth c H locs 1 6 (xMQ below (Rx D classes (fun u => Wc ty h u px) A v) args s 1 6 A) (F0 m 83 ls [.int s0]) := by
    intro H locs ls s0 σ hv hk hl hP hD hS
    unfold f_CL_chain_83 at hv
    unfold k_CL_chain_83 at hk
    exact x_ret (fun o t hq => by obtain ⟨rfl, ht⟩ := hq; exact ⟨hS.F ht, by rw [ht, hv]; exact hP, _, rfl, by rw [hv]⟩) (Nat.le_of_ble_eq_true rfl) (Nat.le_of_ble_eq_true rfl) (W.iret (Qc := fun _ _ o t => o = .returned (some (.int s0)) ∧ t.heap = H) hx hb hr (fun t ht hW => ⟨rfl, ht⟩) hS.2.2 d_CL_chain_83)
  have B79 : ∀ (H : Heap) (locs : List Loc) (ls : Array Slot) (σ : St), v = f_CL_chain_79 σ → k_CL_chain_79 σ → lv_has ls 3 [(0, .ref (h 0))] → va_P D classes (Wc ty h σ px) H → va_D A (Wc ty h σ px) → va_S A s.heap H locs → W p l e (headSpec w_CL_chain rm_CL_chain).room s m args below meth c H locs 0 0 (xMQ below (Rx D classes (fun u => Wc ty h u px) A v) args s 1 6 A) (F0 m 79 ls []) := by
    intro H locs ls σ hv hk hl hP hD hS
    unfold f_CL_chain_79 at hv
    unfold k_CL_chain_79 at hk
    refine lv_aload_n hx hb d_CL_chain_79 rfl (lv_at hl 0 rfl) ?_
    obtain ⟨hk0, hk⟩ := hk
    refine x_callV (As := []) (rest := []) ⟨hx, hb, hml, hown, hg⟩ (c_CL_throwWrong l hlt D ty h px sa σ H.size  hk0) ⟨callB_of 0 hg (gw_C m_774) rfl rfl rfl (hg _ m_1) (hg _ m_771) hd_CL_throwWrong ⟨Nat.le_of_ble_eq_true rfl, Nat.le_of_ble_eq_true rfl⟩, hg _ m_773, hg _ ms_24⟩ (zz_preX hN hX hS hA hK hP hD 0 rfl rfl) rfl hl.1 rfl (Nat.le_of_ble_eq_true rfl) d_CL_chain_80 ⟨Nat.le_of_ble_eq_true rfl, Nat.le_of_ble_eq_true rfl⟩ (fun r9 st9 t9 L9 h09 hal9 hR9 hL9 => ?_) (fun q9 st9 t9 L9 h09 h19 hal9 hR9 hL9 => ?_)
    · obtain ⟨hF9, hP9, x, rfl, hz9⟩ := hR9
      have hv := hv.trans (xb_l hz9)
      have hk := hk _ hz9
      have hS := zz_xS hS h09 hF9 (zz_free hD hS hA) hL9
      have hD : va_D A (Wc ty h (f_CL_throwWrong σ).2 px) := zz_D hD rfl
      exact B83 _ _ _ x (f_CL_throwWrong σ).2 hv hk (lv_sub hl [] rfl) hP9 hD hS
    · obtain ⟨hF9, hP9, E9, ce9, hz9, hq9, hn9, hc9⟩ := hR9
      have hv := hv.trans (xb_r hz9)
      have hS := zz_xS hS h09 hF9 (zz_free hD hS hA) hL9
      exact x_out htab hlocks (fun t ht hal => ⟨hS.F ht, by rw [ht, hv]; exact hP9, E9, ce9, by rw [hv], by rw [ht]; exact hq9, hn9, by rw [h19.findClass]; exact hc9⟩) hS.2.2 (Nat.le_of_ble_eq_true rfl) (Nat.le_of_ble_eq_true rfl)
  have B163 : ∀ (H : Heap) (locs : List Loc) (ls : Array Slot) (s0 : Int32) (σ : St), v = f_CL_chain_163 s0 σ → k_CL_chain_163 s0 σ → lv_has ls 3 [] → va_P D classes (Wc ty h σ px) H → va_D A (Wc ty h σ px) → va_S A s.heap H locs → W p l e (headSpec w_CL_chain rm_CL_chain).room s m args below meth c H locs 1 6 (xMQ below (Rx D classes (fun u => Wc ty h u px) A v) args s 1 6 A) (F0 m 163 ls [.int s0]) := by
    intro H locs ls s0 σ hv hk hl hP hD hS
    unfold f_CL_chain_163 at hv
    unfold k_CL_chain_163 at hk
    exact x_ret (fun o t hq => by obtain ⟨rfl, ht⟩ := hq; exact ⟨hS.F ht, by rw [ht, hv]; exact hP, _, rfl, by rw [hv]⟩) (Nat.le_of_ble_eq_true rfl) (Nat.le_of_ble_eq_true rfl) (W.iret (Qc := fun _ _ o t => o = .returned (some (.int s0)) ∧ t.heap = H) hx hb hr (fun t ht hW => ⟨rfl, ht⟩) hS.2.2 d_CL_chain_163)
  have B151 : ∀ (H : Heap) (locs : List Loc) (ls : Array Slot) (σ : St), v = f_CL_chain_151 σ → k_CL_chain_151 σ → lv_has ls 3 [(0, .ref (h 0))] → va_P D classes (Wc ty h σ px) H → va_D A (Wc ty h σ px) → va_S A s.heap H locs → W p l e (headSpec w_CL_chain rm_CL_chain).room s m args below meth c H locs 0 0 (xMQ below (Rx D classes (fun u => Wc ty h u px) A v) args s 1 6 A) (F0 m 151 ls []) := by
    intro H locs ls σ hv hk hl hP hD hS
    unfold f_CL_chain_151 at hv
    unfold k_CL_chain_151 at hk
    refine lv_aload_n hx hb d_CL_chain_151 rfl (lv_at hl 0 rfl) ?_
    refine lv_aload_n hx hb d_CL_chain_152 rfl (lv_at hl 0 rfl) ?_
    refine va_get (v := .ref (h 27)) (C := R_CL) (T := T_CL) (N := 11) hx hb hg in_CL hown hK hP 0 rfl rfl 8 (by decide) (hg _ m_292) (fun _ h9 => h9) rfl d_CL_chain_153 ?_
    obtain ⟨hk0, hk⟩ := hk
    refine zz_callV (va_runV (As := []) (rest := [.ref (h 0)]) ⟨hx, hb, hml, hown, hg⟩ (c_Sc_innermost l D ty h px σ  hk0) ⟨callB_of 0 hg (gw_C m_943) rfl rfl rfl (hg _ m_11) (hg _ m_940) hd_Sc_innermost ⟨Nat.le_of_ble_eq_true rfl, Nat.le_of_ble_eq_true rfl⟩, hg _ m_941, hg _ m_942⟩ (zz_preV hN hK hP 27 rfl rfl) rfl rfl hl.1 rfl (lv_room (Nat.le_of_ble_eq_true rfl)) d_CL_chain_156 ⟨Nat.le_of_ble_eq_true rfl, Nat.le_of_ble_eq_true rfl⟩) ?_
    refine lv_iconst (v := 0) hx hb d_CL_chain_159 (by decide) ?_
    obtain ⟨hk0, hk⟩ := hk
    refine x_callV (As := [.int (f_Sc_innermost σ), .int 0]) (rest := []) ⟨hx, hb, hml, hown, hg⟩ (c_CL_enterRow l hlt D ty h px sa σ H.size (f_Sc_innermost σ) 0 hk0) ⟨callB_of 2 hg (gw_C m_947) rfl rfl rfl (hg _ m_1) (hg _ m_944) hd_CL_enterRow ⟨Nat.le_of_ble_eq_true rfl, Nat.le_of_ble_eq_true rfl⟩, hg _ m_946, hg _ ms_30⟩ (zz_preX hN hX hS hA hK hP hD 0 rfl rfl) rfl hl.1 rfl (Nat.le_of_ble_eq_true rfl) d_CL_chain_160 ⟨Nat.le_of_ble_eq_true rfl, Nat.le_of_ble_eq_true rfl⟩ (fun r9 st9 t9 L9 h09 hal9 hR9 hL9 => ?_) (fun q9 st9 t9 L9 h09 h19 hal9 hR9 hL9 => ?_)
    · obtain ⟨hF9, hP9, x, rfl, hz9⟩ := hR9
      have hv := hv.trans (xb_l hz9)
      have hk := hk _ hz9
      have hS := zz_xS hS h09 hF9 (zz_free hD hS hA) hL9
      have hD : va_D A (Wc ty h (f_CL_enterRow (f_Sc_innermost σ) 0 σ).2 px) := zz_D hD rfl
      exact B163 _ _ _ x (f_CL_enterRow (f_Sc_innermost σ) 0 σ).2 hv hk (lv_sub hl [] rfl) hP9 hD hS
    · obtain ⟨hF9, hP9, E9, ce9, hz9, hq9, hn9, hc9⟩ := hR9
      have hv := hv.trans (xb_r hz9)
      have hS := zz_xS hS h09 hF9 (zz_free hD hS hA) hL9
      exact x_out htab hlocks (fun t ht hal => ⟨hS.F ht, by rw [ht, hv]; exact hP9, E9, ce9, by rw [hv], by rw [ht]; exact hq9, hn9, by rw [h19.findClass]; exact hc9⟩) hS.2.2 (Nat.le_of_ble_eq_true rfl) (Nat.le_of_ble_eq_true rfl)
  have B148 : ∀ (H : Heap) (locs : List Loc) (ls : Array Slot) (s0 : Int32) (σ : St), v = f_CL_chain_148 s0 σ → k_CL_chain_148 s0 σ → lv_has ls 3 [(0, .ref (h 0))] → va_P D classes (Wc ty h σ px) H → va_D A (Wc ty h σ px) → va_S A s.heap H locs → W p l e (headSpec w_CL_chain rm_CL_chain).room s m args below meth c H locs 0 0 (xMQ below (Rx D classes (fun u => Wc ty h u px) A v) args s 1 6 A) (F0 m 148 ls [.int s0, .ref (h 25)]) := by
    intro H locs ls s0 σ hv hk hl hP hD hS
    unfold f_CL_chain_148 at hv
    unfold k_CL_chain_148 at hk
    obtain ⟨hk0, hk⟩ := hk
    refine va_callv (va_runV (As := [.int s0]) (rest := []) ⟨hx, hb, hml, hown, hg⟩ (c_Ro_join l D ty h px σ H.size s0 hk0) ⟨callB_of 1 hg (gw_C m_939) rfl rfl rfl (hg _ m_10) (hg _ m_936) hd_Ro_join ⟨Nat.le_of_ble_eq_true rfl, Nat.le_of_ble_eq_true rfl⟩, hg _ m_937, hg _ m_938⟩ (zz_preVW hN hK hP hD 25 rfl rfl) rfl rfl hl.1 rfl (lv_room (Nat.le_of_ble_eq_true rfl)) d_CL_chain_148 ⟨Nat.le_of_ble_eq_true rfl, Nat.le_of_ble_eq_true rfl⟩) hS (fun q _ h => zz_free hD hS hA q h) (zz_free hD hS hA) (fun u148 t H locs ht hvm hp hP1 hz hk1 hS => ?_)
    rw [ht] at hP1
    rw [← hp] at hv hk
    have hD : va_D A (Wc ty h u148 px) := zz_D hD rfl
    have hP := hP1
    exact B151 _ _ _  u148 hv hk (lv_sub hl [0] rfl) hP hD hS
  have B121 : ∀ (H : Heap) (locs : List Loc) (ls : Array Slot) (x1 : Int32) (x2 : Int32) (σ : St), v = f_CL_chain_121 x1 x2 σ → k_CL_chain_121 x1 x2 σ → lv_has ls 3 [(0, .ref (h 0)), (1, .int x1), (2, .int x2)] → va_P D classes (Wc ty h σ px) H → va_D A (Wc ty h σ px) → va_S A s.heap H locs → W p l e (headSpec w_CL_chain rm_CL_chain).room s m args below meth c H locs 0 0 (xMQ below (Rx D classes (fun u => Wc ty h u px) A v) args s 1 6 A) (F0 m 121 ls []) := by
    intro H locs ls x1 x2 σ hv hk hl hP hD hS
    unfold f_CL_chain_121 at hv
    unfold k_CL_chain_121 at hk
    refine lv_aload_n hx hb d_CL_chain_121 rfl (lv_at hl 0 rfl) ?_
    refine va_get (v := .ref (h 25)) (C := R_CL) (T := T_CL) (N := 11) hx hb hg in_CL hown hK hP 0 rfl rfl 7 (by decide) (hg _ m_291) (fun _ h9 => h9) rfl d_CL_chain_122 ?_
    refine lv_aload_n hx hb d_CL_chain_125 rfl (lv_at hl 0 rfl) ?_
    refine va_get (v := .ref (h 6)) (C := R_CL) (T := T_CL) (N := 11) hx hb hg in_CL hown hK hP 0 rfl rfl 1 (by decide) (hg _ m_285) (fun _ h9 => h9) rfl d_CL_chain_126 ?_
    refine lv_aload_n hx hb d_CL_chain_129 rfl (lv_at hl 0 rfl) ?_
    refine va_get (v := .ref (h 6)) (C := R_CL) (T := T_CL) (N := 11) hx hb hg in_CL hown hK hP 0 rfl rfl 1 (by decide) (hg _ m_285) (fun _ h9 => h9) rfl d_CL_chain_130 ?_
    refine lv_iload_n hx hb d_CL_chain_133 rfl (lv_at hl 1 rfl) ?_
    obtain ⟨hk0, hk⟩ := hk
    refine zz_callV (va_runV (As := [.int x1]) (rest := [.ref (h 6), .ref (h 25)]) ⟨hx, hb, hml, hown, hg⟩ (c_Te_firstOf l D ty h px σ x1 hk0) ⟨callB_of 1 hg (gw_C m_447) rfl rfl rfl (hg _ m_3) (hg _ m_444) hd_Te_firstOf ⟨Nat.le_of_ble_eq_true rfl, Nat.le_of_ble_eq_true rfl⟩, hg _ m_445, hg _ m_446⟩ (zz_preV hN hK hP 6 rfl rfl) rfl rfl hl.1 rfl (lv_room (Nat.le_of_ble_eq_true rfl)) d_CL_chain_134 ⟨Nat.le_of_ble_eq_true rfl, Nat.le_of_ble_eq_true rfl⟩) ?_
    refine lv_aload_n hx hb d_CL_chain_137 rfl (lv_at hl 0 rfl) ?_
    refine va_get (v := .ref (h 6)) (C := R_CL) (T := T_CL) (N := 11) hx hb hg in_CL hown hK hP 0 rfl rfl 1 (by decide) (hg _ m_285) (fun _ h9 => h9) rfl d_CL_chain_138 ?_
    refine lv_iload_n hx hb d_CL_chain_141 rfl (lv_at hl 2 rfl) ?_
    obtain ⟨hk0, hk⟩ := hk
    refine zz_callV (va_runV (As := [.int x2]) (rest := [.int (f_Te_firstOf x1 σ), .ref (h 6), .ref (h 25)]) ⟨hx, hb, hml, hown, hg⟩ (c_Te_secondOf l D ty h px σ x2 hk0) ⟨callB_of 1 hg (gw_C m_451) rfl rfl rfl (hg _ m_3) (hg _ m_448) hd_Te_secondOf ⟨Nat.le_of_ble_eq_true rfl, Nat.le_of_ble_eq_true rfl⟩, hg _ m_449, hg _ m_450⟩ (zz_preV hN hK hP 6 rfl rfl) rfl rfl hl.1 rfl (lv_room (Nat.le_of_ble_eq_true rfl)) d_CL_chain_142 ⟨Nat.le_of_ble_eq_true rfl, Nat.le_of_ble_eq_true rfl⟩) ?_
    obtain ⟨hk0, hk⟩ := hk
    refine va_calli (va_runV (As := [.int (f_Te_firstOf x1 σ), .int (f_Te_secondOf x2 σ)]) (rest := [.ref (h 25)]) ⟨hx, hb, hml, hown, hg⟩ (c_Te_equation l D ty h px σ H.size (f_Te_firstOf x1 σ) (f_Te_secondOf x2 σ) hk0) ⟨callB_of 2 hg (gw_C m_1038) rfl rfl rfl (hg _ m_3) (hg _ m_1035) hd_Te_equation ⟨Nat.le_of_ble_eq_true rfl, Nat.le_of_ble_eq_true rfl⟩, hg _ m_1036, hg _ m_1037⟩ (zz_preVW hN hK hP hD 6 rfl rfl) rfl rfl hl.1 rfl (lv_room (Nat.le_of_ble_eq_true rfl)) d_CL_chain_145 ⟨Nat.le_of_ble_eq_true rfl, Nat.le_of_ble_eq_true rfl⟩) hS (fun q _ h => zz_free hD hS hA q h) (zz_free hD hS hA) (fun r145 u145 t H locs ht hvm hp hP1 hz hk1 hS => ?_)
    rw [ht] at hP1
    rw [← hp] at hv hk
    have hD : va_D A (Wc ty h u145 px) := zz_D hD rfl
    have hP := hP1
    exact B148 _ _ _ r145 u145 hv hk (lv_sub hl [0] rfl) hP hD hS
  have B118 : ∀ (H : Heap) (locs : List Loc) (ls : Array Slot) (x1 : Int32) (x2 : Int32) (s0 : Int32) (σ : St), v = f_CL_chain_118 x1 x2 s0 σ → k_CL_chain_118 x1 x2 s0 σ → lv_has ls 3 [(0, .ref (h 0)), (1, .int x1), (2, .int x2)] → va_P D classes (Wc ty h σ px) H → va_D A (Wc ty h σ px) → va_S A s.heap H locs → W p l e (headSpec w_CL_chain rm_CL_chain).room s m args below meth c H locs 0 0 (xMQ below (Rx D classes (fun u => Wc ty h u px) A v) args s 1 6 A) (F0 m 118 ls [.int s0, .ref (h 25)]) := by
    intro H locs ls x1 x2 s0 σ hv hk hl hP hD hS
    unfold f_CL_chain_118 at hv
    unfold k_CL_chain_118 at hk
    obtain ⟨hk0, hk⟩ := hk
    refine va_callv (va_runV (As := [.int s0]) (rest := []) ⟨hx, hb, hml, hown, hg⟩ (c_Ro_join l D ty h px σ H.size s0 hk0) ⟨callB_of 1 hg (gw_C m_939) rfl rfl rfl (hg _ m_10) (hg _ m_936) hd_Ro_join ⟨Nat.le_of_ble_eq_true rfl, Nat.le_of_ble_eq_true rfl⟩, hg _ m_937, hg _ m_938⟩ (zz_preVW hN hK hP hD 25 rfl rfl) rfl rfl hl.1 rfl (lv_room (Nat.le_of_ble_eq_true rfl)) d_CL_chain_118 ⟨Nat.le_of_ble_eq_true rfl, Nat.le_of_ble_eq_true rfl⟩) hS (fun q _ h => zz_free hD hS hA q h) (zz_free hD hS hA) (fun u118 t H locs ht hvm hp hP1 hz hk1 hS => ?_)
    rw [ht] at hP1
    rw [← hp] at hv hk
    have hD : va_D A (Wc ty h u118 px) := zz_D hD rfl
    have hP := hP1
    exact B121 _ _ _ x1 x2 u118 hv hk (lv_sub hl [0, 1, 2] rfl) hP hD hS
  have B106 : ∀ (H : Heap) (locs : List Loc) (ls : Array Slot) (x1 : Int32) (x2 : Int32) (σ : St), v = f_CL_chain_106 x1 x2 σ → k_CL_chain_106 x1 x2 σ → lv_has ls 3 [(0, .ref (h 0)), (1, .int x1), (2, .int x2)] → va_P D classes (Wc ty h σ px) H → va_D A (Wc ty h σ px) → va_S A s.heap H locs → W p l e (headSpec w_CL_chain rm_CL_chain).room s m args below meth c H locs 0 0 (xMQ below (Rx D classes (fun u => Wc ty h u px) A v) args s 1 6 A) (F0 m 106 ls []) := by
    intro H locs ls x1 x2 σ hv hk hl hP hD hS
    unfold f_CL_chain_106 at hv
    unfold k_CL_chain_106 at hk
    refine lv_aload_n hx hb d_CL_chain_106 rfl (lv_at hl 0 rfl) ?_
    refine va_get (v := .ref (h 25)) (C := R_CL) (T := T_CL) (N := 11) hx hb hg in_CL hown hK hP 0 rfl rfl 7 (by decide) (hg _ m_291) (fun _ h9 => h9) rfl d_CL_chain_107 ?_
    refine lv_aload_n hx hb d_CL_chain_110 rfl (lv_at hl 0 rfl) ?_
    refine va_get (v := .ref (h 6)) (C := R_CL) (T := T_CL) (N := 11) hx hb hg in_CL hown hK hP 0 rfl rfl 1 (by decide) (hg _ m_285) (fun _ h9 => h9) rfl d_CL_chain_111 ?_
    refine lv_iload_n hx hb d_CL_chain_114 rfl (lv_at hl 2 rfl) ?_
    obtain ⟨hk0, hk⟩ := hk
    refine va_calli (va_runV (As := [.int x2]) (rest := [.ref (h 25)]) ⟨hx, hb, hml, hown, hg⟩ (c_Te_opposite l D ty h px σ H.size x2 hk0) ⟨callB_of 1 hg (gw_C m_1014) rfl rfl rfl (hg _ m_3) (hg _ m_1011) hd_Te_opposite ⟨Nat.le_of_ble_eq_true rfl, Nat.le_of_ble_eq_true rfl⟩, hg _ m_1012, hg _ m_1013⟩ (zz_preVW hN hK hP hD 6 rfl rfl) rfl rfl hl.1 rfl (lv_room (Nat.le_of_ble_eq_true rfl)) d_CL_chain_115 ⟨Nat.le_of_ble_eq_true rfl, Nat.le_of_ble_eq_true rfl⟩) hS (fun q _ h => zz_free hD hS hA q h) (zz_free hD hS hA) (fun r115 u115 t H locs ht hvm hp hP1 hz hk1 hS => ?_)
    rw [ht] at hP1
    rw [← hp] at hv hk
    have hD : va_D A (Wc ty h u115 px) := zz_D hD rfl
    have hP := hP1
    exact B118 _ _ _ x1 x2 r115 u115 hv hk (lv_sub hl [0, 1, 2] rfl) hP hD hS
  have B103 : ∀ (H : Heap) (locs : List Loc) (ls : Array Slot) (x1 : Int32) (x2 : Int32) (s0 : Int32) (σ : St), v = f_CL_chain_103 x1 x2 s0 σ → k_CL_chain_103 x1 x2 s0 σ → lv_has ls 3 [(0, .ref (h 0)), (1, .int x1), (2, .int x2)] → va_P D classes (Wc ty h σ px) H → va_D A (Wc ty h σ px) → va_S A s.heap H locs → W p l e (headSpec w_CL_chain rm_CL_chain).room s m args below meth c H locs 0 0 (xMQ below (Rx D classes (fun u => Wc ty h u px) A v) args s 1 6 A) (F0 m 103 ls [.int s0, .ref (h 25)]) := by
    intro H locs ls x1 x2 s0 σ hv hk hl hP hD hS
    unfold f_CL_chain_103 at hv
    unfold k_CL_chain_103 at hk
    obtain ⟨hk0, hk⟩ := hk
    refine va_callv (va_runV (As := [.int s0]) (rest := []) ⟨hx, hb, hml, hown, hg⟩ (c_Ro_join l D ty h px σ H.size s0 hk0) ⟨callB_of 1 hg (gw_C m_939) rfl rfl rfl (hg _ m_10) (hg _ m_936) hd_Ro_join ⟨Nat.le_of_ble_eq_true rfl, Nat.le_of_ble_eq_true rfl⟩, hg _ m_937, hg _ m_938⟩ (zz_preVW hN hK hP hD 25 rfl rfl) rfl rfl hl.1 rfl (lv_room (Nat.le_of_ble_eq_true rfl)) d_CL_chain_103 ⟨Nat.le_of_ble_eq_true rfl, Nat.le_of_ble_eq_true rfl⟩) hS (fun q _ h => zz_free hD hS hA q h) (zz_free hD hS hA) (fun u103 t H locs ht hvm hp hP1 hz hk1 hS => ?_)
    rw [ht] at hP1
    rw [← hp] at hv hk
    have hD : va_D A (Wc ty h u103 px) := zz_D hD rfl
    have hP := hP1
    exact B106 _ _ _ x1 x2 u103 hv hk (lv_sub hl [0, 1, 2] rfl) hP hD hS
  have B91 : ∀ (H : Heap) (locs : List Loc) (ls : Array Slot) (x1 : Int32) (x2 : Int32) (σ : St), v = f_CL_chain_91 x1 x2 σ → k_CL_chain_91 x1 x2 σ → lv_has ls 3 [(0, .ref (h 0)), (1, .int x1), (2, .int x2)] → va_P D classes (Wc ty h σ px) H → va_D A (Wc ty h σ px) → va_S A s.heap H locs → W p l e (headSpec w_CL_chain rm_CL_chain).room s m args below meth c H locs 0 0 (xMQ below (Rx D classes (fun u => Wc ty h u px) A v) args s 1 6 A) (F0 m 91 ls []) := by
    intro H locs ls x1 x2 σ hv hk hl hP hD hS
    unfold f_CL_chain_91 at hv
    unfold k_CL_chain_91 at hk
    refine lv_aload_n hx hb d_CL_chain_91 rfl (lv_at hl 0 rfl) ?_
    refine va_get (v := .ref (h 25)) (C := R_CL) (T := T_CL) (N := 11) hx hb hg in_CL hown hK hP 0 rfl rfl 7 (by decide) (hg _ m_291) (fun _ h9 => h9) rfl d_CL_chain_92 ?_
    refine lv_aload_n hx hb d_CL_chain_95 rfl (lv_at hl 0 rfl) ?_
    refine va_get (v := .ref (h 6)) (C := R_CL) (T := T_CL) (N := 11) hx hb hg in_CL hown hK hP 0 rfl rfl 1 (by decide) (hg _ m_285) (fun _ h9 => h9) rfl d_CL_chain_96 ?_
    refine lv_iload_n hx hb d_CL_chain_99 rfl (lv_at hl 1 rfl) ?_
    obtain ⟨hk0, hk⟩ := hk
    refine va_calli (va_runV (As := [.int x1]) (rest := [.ref (h 25)]) ⟨hx, hb, hml, hown, hg⟩ (c_Te_opposite l D ty h px σ H.size x1 hk0) ⟨callB_of 1 hg (gw_C m_1014) rfl rfl rfl (hg _ m_3) (hg _ m_1011) hd_Te_opposite ⟨Nat.le_of_ble_eq_true rfl, Nat.le_of_ble_eq_true rfl⟩, hg _ m_1012, hg _ m_1013⟩ (zz_preVW hN hK hP hD 6 rfl rfl) rfl rfl hl.1 rfl (lv_room (Nat.le_of_ble_eq_true rfl)) d_CL_chain_100 ⟨Nat.le_of_ble_eq_true rfl, Nat.le_of_ble_eq_true rfl⟩) hS (fun q _ h => zz_free hD hS hA q h) (zz_free hD hS hA) (fun r100 u100 t H locs ht hvm hp hP1 hz hk1 hS => ?_)
    rw [ht] at hP1
    rw [← hp] at hv hk
    have hD : va_D A (Wc ty h u100 px) := zz_D hD rfl
    have hP := hP1
    exact B103 _ _ _ x1 x2 r100 u100 hv hk (lv_sub hl [0, 1, 2] rfl) hP hD hS
  unfold f_CL_chain at hv
  unfold k_CL_chain at hk
  refine lv_aload_n hx hb d_CL_chain_0 rfl (lv_at hl 0 rfl) ?_
  obtain ⟨hk0, hk⟩ := hk
  refine zz_callV (va_runV (As := []) (rest := []) ⟨hx, hb, hml, hown, hg⟩ (c_CL_isShut l D ty h px σ  hk0) ⟨callB_of 0 hg (gw_C m_571) rfl rfl rfl (hg _ m_1) (hg _ m_568) hd_CL_isShut ⟨Nat.le_of_ble_eq_true rfl, Nat.le_of_ble_eq_true rfl⟩, hg _ m_570, hg _ ms_8⟩ (zz_preV hN hK hP 0 rfl rfl) rfl rfl hl.1 rfl (lv_room (Nat.le_of_ble_eq_true rfl)) d_CL_chain_1 ⟨Nat.le_of_ble_eq_true rfl, Nat.le_of_ble_eq_true rfl⟩) ?_
  refine lv_if_eq (tgt := 9) hx hb d_CL_chain_4 (by decide) (fun hc => ?_) (fun hc => ?_)
  · have hv := hv.trans (if_pos hc)
    have hk := hk.1 hc
    refine lv_aload_n hx hb d_CL_chain_9 rfl (lv_at hl 0 rfl) ?_
    refine va_get (v := .ref (h 6)) (C := R_CL) (T := T_CL) (N := 11) hx hb hg in_CL hown hK hP 0 rfl rfl 1 (by decide) (hg _ m_285) (fun _ h9 => h9) rfl d_CL_chain_10 ?_
    refine lv_iload_n hx hb d_CL_chain_13 rfl (lv_at hl 1 rfl) ?_
    obtain ⟨hk0, hk⟩ := hk
    refine zz_callV (va_runV (As := [.int a1]) (rest := []) ⟨hx, hb, hml, hown, hg⟩ (c_Te_has l D ty h px σ a1 hk0) ⟨callB_of 1 hg (gw_C m_430) rfl rfl rfl (hg _ m_3) (hg _ m_427) hd_Te_has ⟨Nat.le_of_ble_eq_true rfl, Nat.le_of_ble_eq_true rfl⟩, hg _ m_428, hg _ m_429⟩ (zz_preV hN hK hP 6 rfl rfl) rfl rfl hl.1 rfl (lv_room (Nat.le_of_ble_eq_true rfl)) d_CL_chain_14 ⟨Nat.le_of_ble_eq_true rfl, Nat.le_of_ble_eq_true rfl⟩) ?_
    refine lv_if_eq (tgt := 31) hx hb d_CL_chain_17 (by decide) (fun hc => ?_) (fun hc => ?_)
    · have hv := hv.trans (if_pos hc)
      have hk := hk.1 hc
      exact B31 _ _ _  σ hv hk (lv_sub hl [0] rfl) hP hD hS
    · have hv := hv.trans (if_neg hc)
      have hk := hk.2 hc
      refine lv_aload_n hx hb d_CL_chain_20 rfl (lv_at hl 0 rfl) ?_
      refine va_get (v := .ref (h 6)) (C := R_CL) (T := T_CL) (N := 11) hx hb hg in_CL hown hK hP 0 rfl rfl 1 (by decide) (hg _ m_285) (fun _ h9 => h9) rfl d_CL_chain_21 ?_
      refine lv_iload_n hx hb d_CL_chain_24 rfl (lv_at hl 2 rfl) ?_
      obtain ⟨hk0, hk⟩ := hk
      refine zz_callV (va_runV (As := [.int a2]) (rest := []) ⟨hx, hb, hml, hown, hg⟩ (c_Te_has l D ty h px σ a2 hk0) ⟨callB_of 1 hg (gw_C m_430) rfl rfl rfl (hg _ m_3) (hg _ m_427) hd_Te_has ⟨Nat.le_of_ble_eq_true rfl, Nat.le_of_ble_eq_true rfl⟩, hg _ m_428, hg _ m_429⟩ (zz_preV hN hK hP 6 rfl rfl) rfl rfl hl.1 rfl (lv_room (Nat.le_of_ble_eq_true rfl)) d_CL_chain_25 ⟨Nat.le_of_ble_eq_true rfl, Nat.le_of_ble_eq_true rfl⟩) ?_
      refine lv_if_ne (tgt := 36) hx hb d_CL_chain_28 (by decide) (fun hc => ?_) (fun hc => ?_)
      · have hv := hv.trans (if_neg hc)
        have hk := hk.2 hc
        refine lv_aload_n hx hb d_CL_chain_36 rfl (lv_at hl 0 rfl) ?_
        refine va_get (v := .ref (h 6)) (C := R_CL) (T := T_CL) (N := 11) hx hb hg in_CL hown hK hP 0 rfl rfl 1 (by decide) (hg _ m_285) (fun _ h9 => h9) rfl d_CL_chain_37 ?_
        refine lv_iload_n hx hb d_CL_chain_40 rfl (lv_at hl 1 rfl) ?_
        obtain ⟨hk0, hk⟩ := hk
        refine zz_callV (va_runV (As := [.int a1]) (rest := []) ⟨hx, hb, hml, hown, hg⟩ (c_Te_kindOf l D ty h px σ a1 hk0) ⟨callB_of 1 hg (gw_C m_434) rfl rfl rfl (hg _ m_3) (hg _ m_431) hd_Te_kindOf ⟨Nat.le_of_ble_eq_true rfl, Nat.le_of_ble_eq_true rfl⟩, hg _ m_432, hg _ m_433⟩ (zz_preV hN hK hP 6 rfl rfl) rfl rfl hl.1 rfl (lv_room (Nat.le_of_ble_eq_true rfl)) d_CL_chain_41 ⟨Nat.le_of_ble_eq_true rfl, Nat.le_of_ble_eq_true rfl⟩) ?_
        refine lv_iconst (v := 5) hx hb d_CL_chain_44 (by decide) ?_
        refine lv_icmp_ne (tgt := 79) hx hb d_CL_chain_45 (by decide) (fun hc => ?_) (fun hc => ?_)
        · have hv := hv.trans (if_neg hc)
          have hk := hk.2 hc
          exact B79 _ _ _  σ hv hk (lv_sub hl [0] rfl) hP hD hS
        · have hv := hv.trans (if_pos hc)
          have hk := hk.1 hc
          refine lv_aload_n hx hb d_CL_chain_48 rfl (lv_at hl 0 rfl) ?_
          refine va_get (v := .ref (h 6)) (C := R_CL) (T := T_CL) (N := 11) hx hb hg in_CL hown hK hP 0 rfl rfl 1 (by decide) (hg _ m_285) (fun _ h9 => h9) rfl d_CL_chain_49 ?_
          refine lv_iload_n hx hb d_CL_chain_52 rfl (lv_at hl 2 rfl) ?_
          obtain ⟨hk0, hk⟩ := hk
          refine zz_callV (va_runV (As := [.int a2]) (rest := []) ⟨hx, hb, hml, hown, hg⟩ (c_Te_kindOf l D ty h px σ a2 hk0) ⟨callB_of 1 hg (gw_C m_434) rfl rfl rfl (hg _ m_3) (hg _ m_431) hd_Te_kindOf ⟨Nat.le_of_ble_eq_true rfl, Nat.le_of_ble_eq_true rfl⟩, hg _ m_432, hg _ m_433⟩ (zz_preV hN hK hP 6 rfl rfl) rfl rfl hl.1 rfl (lv_room (Nat.le_of_ble_eq_true rfl)) d_CL_chain_53 ⟨Nat.le_of_ble_eq_true rfl, Nat.le_of_ble_eq_true rfl⟩) ?_
          refine lv_iconst (v := 5) hx hb d_CL_chain_56 (by decide) ?_
          refine lv_icmp_ne (tgt := 79) hx hb d_CL_chain_57 (by decide) (fun hc => ?_) (fun hc => ?_)
          · have hv := hv.trans (if_neg hc)
            have hk := hk.2 hc
            exact B79 _ _ _  σ hv hk (lv_sub hl [0] rfl) hP hD hS
          · have hv := hv.trans (if_pos hc)
            have hk := hk.1 hc
            refine lv_aload_n hx hb d_CL_chain_60 rfl (lv_at hl 0 rfl) ?_
            refine va_get (v := .ref (h 6)) (C := R_CL) (T := T_CL) (N := 11) hx hb hg in_CL hown hK hP 0 rfl rfl 1 (by decide) (hg _ m_285) (fun _ h9 => h9) rfl d_CL_chain_61 ?_
            refine lv_iload_n hx hb d_CL_chain_64 rfl (lv_at hl 1 rfl) ?_
            obtain ⟨hk0, hk⟩ := hk
            refine zz_callV (va_runV (As := [.int a1]) (rest := []) ⟨hx, hb, hml, hown, hg⟩ (c_Te_secondOf l D ty h px σ a1 hk0) ⟨callB_of 1 hg (gw_C m_451) rfl rfl rfl (hg _ m_3) (hg _ m_448) hd_Te_secondOf ⟨Nat.le_of_ble_eq_true rfl, Nat.le_of_ble_eq_true rfl⟩, hg _ m_449, hg _ m_450⟩ (zz_preV hN hK hP 6 rfl rfl) rfl rfl hl.1 rfl (lv_room (Nat.le_of_ble_eq_true rfl)) d_CL_chain_65 ⟨Nat.le_of_ble_eq_true rfl, Nat.le_of_ble_eq_true rfl⟩) ?_
            refine lv_aload_n hx hb d_CL_chain_68 rfl (lv_at hl 0 rfl) ?_
            refine va_get (v := .ref (h 6)) (C := R_CL) (T := T_CL) (N := 11) hx hb hg in_CL hown hK hP 0 rfl rfl 1 (by decide) (hg _ m_285) (fun _ h9 => h9) rfl d_CL_chain_69 ?_
            refine lv_iload_n hx hb d_CL_chain_72 rfl (lv_at hl 2 rfl) ?_
            obtain ⟨hk0, hk⟩ := hk
            refine zz_callV (va_runV (As := [.int a2]) (rest := [.int (f_Te_secondOf a1 σ)]) ⟨hx, hb, hml, hown, hg⟩ (c_Te_firstOf l D ty h px σ a2 hk0) ⟨callB_of 1 hg (gw_C m_447) rfl rfl rfl (hg _ m_3) (hg _ m_444) hd_Te_firstOf ⟨Nat.le_of_ble_eq_true rfl, Nat.le_of_ble_eq_true rfl⟩, hg _ m_445, hg _ m_446⟩ (zz_preV hN hK hP 6 rfl rfl) rfl rfl hl.1 rfl (lv_room (Nat.le_of_ble_eq_true rfl)) d_CL_chain_73 ⟨Nat.le_of_ble_eq_true rfl, Nat.le_of_ble_eq_true rfl⟩) ?_
            refine lv_icmp_eq (tgt := 84) hx hb d_CL_chain_76 (by decide) (fun hc => ?_) (fun hc => ?_)
            · have hv := hv.trans (if_pos hc)
              have hk := hk.1 hc
              refine lv_aload_n hx hb d_CL_chain_84 rfl (lv_at hl 0 rfl) ?_
              refine va_get (v := .ref (h 25)) (C := R_CL) (T := T_CL) (N := 11) hx hb hg in_CL hown hK hP 0 rfl rfl 7 (by decide) (hg _ m_291) (fun _ h9 => h9) rfl d_CL_chain_85 ?_
              obtain ⟨hk0, hk⟩ := hk
              refine va_callv (va_runV (As := []) (rest := []) ⟨hx, hb, hml, hown, hg⟩ (c_Ro_wipe l D ty h px σ s.heap.size  hk0) ⟨callB_of 0 hg (gw_C m_935) rfl rfl rfl (hg _ m_10) (hg _ m_932) hd_Ro_wipe ⟨Nat.le_of_ble_eq_true rfl, Nat.le_of_ble_eq_true rfl⟩, hg _ m_933, hg _ m_934⟩ (zz_preVW hN hK hP hD 25 rfl rfl) rfl rfl hl.1 rfl (lv_room (Nat.le_of_ble_eq_true rfl)) d_CL_chain_88 ⟨Nat.le_of_ble_eq_true rfl, Nat.le_of_ble_eq_true rfl⟩) hS (fun q _ h => zz_free hD hS hA q h) (zz_free hD hS hA) (fun u88 t H locs ht hvm hp hP1 hz hk1 hS => ?_)
              rw [ht] at hP1
              rw [← hp] at hv hk
              have hD : va_D A (Wc ty h u88 px) := zz_D hD rfl
              have hP := hP1
              exact B91 _ _ _ a1 a2 u88 hv hk (lv_sub hl [0, 1, 2] rfl) hP hD hS
            · have hv := hv.trans (if_neg hc)
              have hk := hk.2 hc
              exact B79 _ _ _  σ hv hk (lv_sub hl [0] rfl) hP hD hS
      · have hv := hv.trans (if_pos hc)
        have hk := hk.1 hc
        exact B31 _ _ _  σ hv hk (lv_sub hl [0] rfl) hP hD hS
  · have hv := hv.trans (if_neg hc)
    have hk := hk.2 hc
    refine lv_iconst (v := -1) hx hb d_CL_chain_7 (by decide) ?_
    exact x_ret (fun o t hq => by obtain ⟨rfl, ht⟩ := hq; exact ⟨hS.F ht, by rw [ht, hv]; exact hP, _, rfl, by rw [hv]⟩) (Nat.le_of_ble_eq_true rfl) (Nat.le_of_ble_eq_true rfl) (W.iret (Qc := fun _ _ o t => o = .returned (some (.int (-1))) ∧ t.heap = s.heap) hx hb hr (fun t ht hW => ⟨rfl, ht⟩) hS.2.2 d_CL_chain_8)

-- ClauseLedger.turn(I)I
abbrev b_CL_turn : ByteArray := prog_1_method_13_code
def y_CL_turn : MethodName := ⟨"ClauseLedger", "turn", "(I)I"⟩
theorem hd_CL_turn : y_CL_turn.cls ≠ "java/lang/invoke/MethodHandle" ∧ y_CL_turn.cls ≠ "java/lang/invoke/VarHandle" ∧ (parseMethodDescriptor y_CL_turn.desc).map (fun d => d.parameters.length) = some 1 := by decide +kernel
theorem d_CL_turn_0 : decode b_CL_turn 0 = .ok (.aload_n 0, 1) := by decide +kernel
theorem d_CL_turn_1 : decode b_CL_turn 1 = .ok (.invokevirtual 102, 3) := by decide +kernel
theorem d_CL_turn_4 : decode b_CL_turn 4 = .ok (.ifCond .eq 5, 3) := by decide +kernel
theorem d_CL_turn_7 : decode b_CL_turn 7 = .ok (.iconst (-1), 1) := by decide +kernel
theorem d_CL_turn_8 : decode b_CL_turn 8 = .ok (.ireturn, 1) := by decide +kernel
theorem d_CL_turn_9 : decode b_CL_turn 9 = .ok (.aload_n 0, 1) := by decide +kernel
theorem d_CL_turn_10 : decode b_CL_turn 10 = .ok (.getfield 19, 3) := by decide +kernel
theorem d_CL_turn_13 : decode b_CL_turn 13 = .ok (.iload_n 1, 1) := by decide +kernel
theorem d_CL_turn_14 : decode b_CL_turn 14 = .ok (.invokevirtual 130, 3) := by decide +kernel
theorem d_CL_turn_17 : decode b_CL_turn 17 = .ok (.ifCond .ne 8, 3) := by decide +kernel
theorem d_CL_turn_20 : decode b_CL_turn 20 = .ok (.aload_n 0, 1) := by decide +kernel
theorem d_CL_turn_21 : decode b_CL_turn 21 = .ok (.invokevirtual 134, 3) := by decide +kernel
theorem d_CL_turn_24 : decode b_CL_turn 24 = .ok (.ireturn, 1) := by decide +kernel
theorem d_CL_turn_25 : decode b_CL_turn 25 = .ok (.aload_n 0, 1) := by decide +kernel
theorem d_CL_turn_26 : decode b_CL_turn 26 = .ok (.getfield 19, 3) := by decide +kernel
theorem d_CL_turn_29 : decode b_CL_turn 29 = .ok (.iload_n 1, 1) := by decide +kernel
theorem d_CL_turn_30 : decode b_CL_turn 30 = .ok (.invokevirtual 173, 3) := by decide +kernel
theorem d_CL_turn_33 : decode b_CL_turn 33 = .ok (.iconst 5, 1) := by decide +kernel
theorem d_CL_turn_34 : decode b_CL_turn 34 = .ok (.if_icmp .eq 8, 3) := by decide +kernel
theorem d_CL_turn_37 : decode b_CL_turn 37 = .ok (.aload_n 0, 1) := by decide +kernel
theorem d_CL_turn_38 : decode b_CL_turn 38 = .ok (.invokevirtual 112, 3) := by decide +kernel
theorem d_CL_turn_41 : decode b_CL_turn 41 = .ok (.ireturn, 1) := by decide +kernel
theorem d_CL_turn_42 : decode b_CL_turn 42 = .ok (.aload_n 0, 1) := by decide +kernel
theorem d_CL_turn_43 : decode b_CL_turn 43 = .ok (.getfield 65, 3) := by decide +kernel
theorem d_CL_turn_46 : decode b_CL_turn 46 = .ok (.invokevirtual 140, 3) := by decide +kernel
theorem d_CL_turn_49 : decode b_CL_turn 49 = .ok (.aload_n 0, 1) := by decide +kernel
theorem d_CL_turn_50 : decode b_CL_turn 50 = .ok (.getfield 65, 3) := by decide +kernel
theorem d_CL_turn_53 : decode b_CL_turn 53 = .ok (.aload_n 0, 1) := by decide +kernel
theorem d_CL_turn_54 : decode b_CL_turn 54 = .ok (.getfield 19, 3) := by decide +kernel
theorem d_CL_turn_57 : decode b_CL_turn 57 = .ok (.iload_n 1, 1) := by decide +kernel
theorem d_CL_turn_58 : decode b_CL_turn 58 = .ok (.invokevirtual 182, 3) := by decide +kernel
theorem d_CL_turn_61 : decode b_CL_turn 61 = .ok (.invokevirtual 141, 3) := by decide +kernel
theorem d_CL_turn_64 : decode b_CL_turn 64 = .ok (.aload_n 0, 1) := by decide +kernel
theorem d_CL_turn_65 : decode b_CL_turn 65 = .ok (.getfield 65, 3) := by decide +kernel
theorem d_CL_turn_68 : decode b_CL_turn 68 = .ok (.aload_n 0, 1) := by decide +kernel
theorem d_CL_turn_69 : decode b_CL_turn 69 = .ok (.getfield 19, 3) := by decide +kernel
theorem d_CL_turn_72 : decode b_CL_turn 72 = .ok (.aload_n 0, 1) := by decide +kernel
theorem d_CL_turn_73 : decode b_CL_turn 73 = .ok (.getfield 19, 3) := by decide +kernel
theorem d_CL_turn_76 : decode b_CL_turn 76 = .ok (.iload_n 1, 1) := by decide +kernel
theorem d_CL_turn_77 : decode b_CL_turn 77 = .ok (.invokevirtual 176, 3) := by decide +kernel
theorem d_CL_turn_80 : decode b_CL_turn 80 = .ok (.aload_n 0, 1) := by decide +kernel
theorem d_CL_turn_81 : decode b_CL_turn 81 = .ok (.getfield 19, 3) := by decide +kernel
theorem d_CL_turn_84 : decode b_CL_turn 84 = .ok (.iload_n 1, 1) := by decide +kernel
theorem d_CL_turn_85 : decode b_CL_turn 85 = .ok (.invokevirtual 179, 3) := by decide +kernel
theorem d_CL_turn_88 : decode b_CL_turn 88 = .ok (.invokevirtual 169, 3) := by decide +kernel
theorem d_CL_turn_91 : decode b_CL_turn 91 = .ok (.invokevirtual 141, 3) := by decide +kernel
theorem d_CL_turn_94 : decode b_CL_turn 94 = .ok (.aload_n 0, 1) := by decide +kernel
theorem d_CL_turn_95 : decode b_CL_turn 95 = .ok (.aload_n 0, 1) := by decide +kernel
theorem d_CL_turn_96 : decode b_CL_turn 96 = .ok (.getfield 72, 3) := by decide +kernel
theorem d_CL_turn_99 : decode b_CL_turn 99 = .ok (.invokevirtual 145, 3) := by decide +kernel
theorem d_CL_turn_102 : decode b_CL_turn 102 = .ok (.iconst 0, 1) := by decide +kernel
theorem d_CL_turn_103 : decode b_CL_turn 103 = .ok (.invokevirtual 148, 3) := by decide +kernel
theorem d_CL_turn_106 : decode b_CL_turn 106 = .ok (.ireturn, 1) := by decide +kernel
def f_CL_turn_24 (s0 : Int32) (σ : St) : XR := (.inl s0, σ)
def k_CL_turn_24 (s0 : Int32) (σ : St) : Prop := True
def f_CL_turn_41 (s0 : Int32) (σ : St) : XR := (.inl s0, σ)
def k_CL_turn_41 (s0 : Int32) (σ : St) : Prop := True
def f_CL_turn_106 (s0 : Int32) (σ : St) : XR := (.inl s0, σ)
def k_CL_turn_106 (s0 : Int32) (σ : St) : Prop := True
def f_CL_turn_94 (σ : St) : XR := xb (f_CL_enterRow (f_Sc_innermost σ) 0 σ) (fun x u => f_CL_turn_106 x u)
def k_CL_turn_94 (σ : St) : Prop := (k_Sc_innermost σ) ∧ ((k_CL_enterRow (f_Sc_innermost σ) 0 σ) ∧ (∀ x, (f_CL_enterRow (f_Sc_innermost σ) 0 σ).1 = .inl x → (k_CL_turn_106 x ((f_CL_enterRow (f_Sc_innermost σ) 0 σ).2))))
def f_CL_turn_91 (s0 : Int32) (σ : St) : XR := f_CL_turn_94 (f_Ro_join s0 σ)
def k_CL_turn_91 (s0 : Int32) (σ : St) : Prop := (k_Ro_join s0 σ) ∧ (k_CL_turn_94 (f_Ro_join s0 σ))
def f_CL_turn_64 (x1 : Int32) (σ : St) : XR := f_CL_turn_91 ((f_Te_equation (f_Te_secondOf x1 σ) (f_Te_firstOf x1 σ) σ).1) ((f_Te_equation (f_Te_secondOf x1 σ) (f_Te_firstOf x1 σ) σ).2)
def k_CL_turn_64 (x1 : Int32) (σ : St) : Prop := (k_Te_secondOf x1 σ) ∧ ((k_Te_firstOf x1 σ) ∧ ((k_Te_equation (f_Te_secondOf x1 σ) (f_Te_firstOf x1 σ) σ) ∧ (k_CL_turn_91 ((f_Te_equation (f_Te_secondOf x1 σ) (f_Te_firstOf x1 σ) σ).1) ((f_Te_equation (f_Te_secondOf x1 σ) (f_Te_firstOf x1 σ) σ).2))))
def f_CL_turn_61 (x1 : Int32) (s0 : Int32) (σ : St) : XR := f_CL_turn_64 x1 (f_Ro_join s0 σ)
def k_CL_turn_61 (x1 : Int32) (s0 : Int32) (σ : St) : Prop := (k_Ro_join s0 σ) ∧ (k_CL_turn_64 x1 (f_Ro_join s0 σ))
def f_CL_turn_49 (x1 : Int32) (σ : St) : XR := f_CL_turn_61 x1 ((f_Te_opposite x1 σ).1) ((f_Te_opposite x1 σ).2)
def k_CL_turn_49 (x1 : Int32) (σ : St) : Prop := (k_Te_opposite x1 σ) ∧ (k_CL_turn_61 x1 ((f_Te_opposite x1 σ).1) ((f_Te_opposite x1 σ).2))
def f_CL_turn (a1 : Int32) (σ : St) : XR := if (f_CL_isShut σ) = 0 then (if (f_Te_has a1 σ) = 0 then (xb (f_CL_throwMissing σ) (fun x u => f_CL_turn_24 x u)) else (if (f_Te_kindOf a1 σ) = 5 then (f_CL_turn_49 a1 (f_Ro_wipe σ)) else (xb (f_CL_throwWrong σ) (fun x u => f_CL_turn_41 x u)))) else (.inl (-1), σ)
def k_CL_turn (a1 : Int32) (σ : St) : Prop := (k_CL_isShut σ) ∧ (((f_CL_isShut σ) = 0 → ((k_Te_has a1 σ) ∧ (((f_Te_has a1 σ) = 0 → ((k_CL_throwMissing σ) ∧ (∀ x, (f_CL_throwMissing σ).1 = .inl x → (k_CL_turn_24 x ((f_CL_throwMissing σ).2))))) ∧ (¬ (f_Te_has a1 σ) = 0 → ((k_Te_kindOf a1 σ) ∧ (((f_Te_kindOf a1 σ) = 5 → ((k_Ro_wipe σ) ∧ (k_CL_turn_49 a1 (f_Ro_wipe σ)))) ∧ (¬ (f_Te_kindOf a1 σ) = 5 → ((k_CL_throwWrong σ) ∧ (∀ x, (f_CL_throwWrong σ).1 = .inl x → (k_CL_turn_41 x ((f_CL_throwWrong σ).2))))))))))) ∧ (¬ (f_CL_isShut σ) = 0 → True))
abbrev w_CL_turn : List Cond := Cond.code y_CL_turn b_CL_turn 2 (some .int) :: gw
abbrev rm_CL_turn : Room := { frames := 8, cells := 1, slots := 6, locals := 142 }
set_option maxHeartbeats 4000000 in
set_option maxRecDepth 100000 in
theorem c_CL_turn (l : Launch) (hlt : l.stackTraces = false) (D : va_G) (ty : Nat → ClassId) (h : Nat → Nat) (px : va_W) (sa : Nat → Nat) (σ : St) (sz : Nat) (a1 : Int32) (hk : k_CL_turn a1 σ) : xMet l y_CL_turn w_CL_turn rm_CL_turn (va_Pc [.ref (h 0), .int a1] (fun U => U.heap.size = sz ∧ va_P D classes (Wc ty h σ px) U.heap ∧ va_K D classes (Ta ty) U ∧ NW U ∧ XK sa (va_A (Wc ty h σ px) sz) U U.heap ∧ va_D (fun _ => True) (Wc ty h σ px))) (Rx D classes (fun u => Wc ty h u px) (va_A (Wc ty h σ px) sz) (f_CL_turn a1 σ)) 1 6 (va_A (Wc ty h σ px) sz) := by
  refine xMet.ofW (cc := b_CL_turn) (maxL := 2) (ret := (some .int)) (by decide) rfl ?_
  intro p e s m args below meth c s₁ B hml htab hv
  obtain ⟨ha, hsz, hP, hK, hN, hX, hD0⟩ := hv
  have hx := B.exec
  have hb := B.bytes
  have hr := B.returns
  have hg : ∀ w ∈ gw, w.before args s = true := fun w h9 => atoms_spec (ws := w_CL_turn) B.pre w (List.mem_cons_of_mem _ h9)
  have hown : s.vm.findClass "ClauseLedger" = some m.cls := findClass_of_methodNamed B.named
  have hlocks := B.notSynchronized
  subst hsz
  have hD := hD0.self (sz := s.heap.size)
  generalize hAe : va_A (Wc ty h σ px) s.heap.size = A at hD hX ⊢
  have hA : ∀ q : Nat, s.heap.size ≤ q → A q := fun q h9 => by rw [← hAe]; exact Or.inr h9
  have hS : va_S A s.heap s.heap [] := va_S.rf
  have he : entryFrame m args 2 = entryFrame m ([.ref (h 0), .int a1] : List Value).toArray 2 := by rw [ha]
  rw [he, lg_entry_eq]
  have hl := lv_entry ([.ref (h 0), .int a1]) (n := 2) (Nat.le_of_ble_eq_true rfl)
  generalize (lg_sl ([.ref (h 0), .int a1]) ++ List.replicate (2 - (lg_sl ([.ref (h 0), .int a1])).length) Slot.unset).toArray = ls at hl ⊢
  have hl : lv_has ls 2 [(0, .ref (h 0)), (1, .int a1)] := hl
  generalize hv : f_CL_turn a1 σ = v
  replace hv := hv.symm
  have B24 : ∀ (H : Heap) (locs : List Loc) (ls : Array Slot) (s0 : Int32) (σ : St), v = f_CL_turn_24 s0 σ → k_CL_turn_24 s0 σ → lv_has ls 2 [] → va_P D classes (Wc ty h σ px) H → va_D A (Wc ty h σ px) → va_S A s.heap H locs → W p l e (headSpec w_CL_turn rm_CL_turn).room s m args below meth c H locs 1 6 (xMQ below (Rx D classes (fun u => Wc ty h u px) A v) args s 1 6 A) (F0 m 24 ls [.int s0]) := by
    intro H locs ls s0 σ hv hk hl hP hD hS
    unfold f_CL_turn_24 at hv
    unfold k_CL_turn_24 at hk
    exact x_ret (fun o t hq => by obtain ⟨rfl, ht⟩ := hq; exact ⟨hS.F ht, by rw [ht, hv]; exact hP, _, rfl, by rw [hv]⟩) (Nat.le_of_ble_eq_true rfl) (Nat.le_of_ble_eq_true rfl) (W.iret (Qc := fun _ _ o t => o = .returned (some (.int s0)) ∧ t.heap = H) hx hb hr (fun t ht hW => ⟨rfl, ht⟩) hS.2.2 d_CL_turn_24)
  have B41 : ∀ (H : Heap) (locs : List Loc) (ls : Array Slot) (s0 : Int32) (σ : St), v = f_CL_turn_41 s0 σ → k_CL_turn_41 s0 σ → lv_has ls 2 [] → va_P D classes (Wc ty h σ px) H → va_D A (Wc ty h σ px) → va_S A s.heap H locs → W p l e (headSpec w_CL_turn rm_CL_turn).room s m args below meth c H locs 1 6 (xMQ below (Rx D classes (fun u => Wc ty h u px) A v) args s 1 6 A) (F0 m 41 ls [.int s0]) := by
    intro H locs ls s0 σ hv hk hl hP hD hS
    unfold f_CL_turn_41 at hv
    unfold k_CL_turn_41 at hk
    exact x_ret (fun o t hq => by obtain ⟨rfl, ht⟩ := hq; exact ⟨hS.F ht, by rw [ht, hv]; exact hP, _, rfl, by rw [hv]⟩) (Nat.le_of_ble_eq_true rfl) (Nat.le_of_ble_eq_true rfl) (W.iret (Qc := fun _ _ o t => o = .returned (some (.int s0)) ∧ t.heap = H) hx hb hr (fun t ht hW => ⟨rfl, ht⟩) hS.2.2 d_CL_turn_41)
  have B106 : ∀ (H : Heap) (locs : List Loc) (ls : Array Slot) (s0 : Int32) (σ : St), v = f_CL_turn_106 s0 σ → k_CL_turn_106 s0 σ → lv_has ls 2 [] → va_P D classes (Wc ty h σ px) H → va_D A (Wc ty h σ px) → va_S A s.heap H locs → W p l e (headSpec w_CL_turn rm_CL_turn).room s m args below meth c H locs 1 6 (xMQ below (Rx D classes (fun u => Wc ty h u px) A v) args s 1 6 A) (F0 m 106 ls [.int s0]) := by
    intro H locs ls s0 σ hv hk hl hP hD hS
    unfold f_CL_turn_106 at hv
    unfold k_CL_turn_106 at hk
    exact x_ret (fun o t hq => by obtain ⟨rfl, ht⟩ := hq; exact ⟨hS.F ht, by rw [ht, hv]; exact hP, _, rfl, by rw [hv]⟩) (Nat.le_of_ble_eq_true rfl) (Nat.le_of_ble_eq_true rfl) (W.iret (Qc := fun _ _ o t => o = .returned (some (.int s0)) ∧ t.heap = H) hx hb hr (fun t ht hW => ⟨rfl, ht⟩) hS.2.2 d_CL_turn_106)
  have B94 : ∀ (H : Heap) (locs : List Loc) (ls : Array Slot) (σ : St), v = f_CL_turn_94 σ → k_CL_turn_94 σ → lv_has ls 2 [(0, .ref (h 0))] → va_P D classes (Wc ty h σ px) H → va_D A (Wc ty h σ px) → va_S A s.heap H locs → W p l e (headSpec w_CL_turn rm_CL_turn).room s m args below meth c H locs 0 0 (xMQ below (Rx D classes (fun u => Wc ty h u px) A v) args s 1 6 A) (F0 m 94 ls []) := by
    intro H locs ls σ hv hk hl hP hD hS
    unfold f_CL_turn_94 at hv
    unfold k_CL_turn_94 at hk
    refine lv_aload_n hx hb d_CL_turn_94 rfl (lv_at hl 0 rfl) ?_
    refine lv_aload_n hx hb d_CL_turn_95 rfl (lv_at hl 0 rfl) ?_
    refine va_get (v := .ref (h 27)) (C := R_CL) (T := T_CL) (N := 11) hx hb hg in_CL hown hK hP 0 rfl rfl 8 (by decide) (hg _ m_292) (fun _ h9 => h9) rfl d_CL_turn_96 ?_
    obtain ⟨hk0, hk⟩ := hk
    refine zz_callV (va_runV (As := []) (rest := [.ref (h 0)]) ⟨hx, hb, hml, hown, hg⟩ (c_Sc_innermost l D ty h px σ  hk0) ⟨callB_of 0 hg (gw_C m_943) rfl rfl rfl (hg _ m_11) (hg _ m_940) hd_Sc_innermost ⟨Nat.le_of_ble_eq_true rfl, Nat.le_of_ble_eq_true rfl⟩, hg _ m_941, hg _ m_942⟩ (zz_preV hN hK hP 27 rfl rfl) rfl rfl hl.1 rfl (lv_room (Nat.le_of_ble_eq_true rfl)) d_CL_turn_99 ⟨Nat.le_of_ble_eq_true rfl, Nat.le_of_ble_eq_true rfl⟩) ?_
    refine lv_iconst (v := 0) hx hb d_CL_turn_102 (by decide) ?_
    obtain ⟨hk0, hk⟩ := hk
    refine x_callV (As := [.int (f_Sc_innermost σ), .int 0]) (rest := []) ⟨hx, hb, hml, hown, hg⟩ (c_CL_enterRow l hlt D ty h px sa σ H.size (f_Sc_innermost σ) 0 hk0) ⟨callB_of 2 hg (gw_C m_947) rfl rfl rfl (hg _ m_1) (hg _ m_944) hd_CL_enterRow ⟨Nat.le_of_ble_eq_true rfl, Nat.le_of_ble_eq_true rfl⟩, hg _ m_946, hg _ ms_30⟩ (zz_preX hN hX hS hA hK hP hD 0 rfl rfl) rfl hl.1 rfl (Nat.le_of_ble_eq_true rfl) d_CL_turn_103 ⟨Nat.le_of_ble_eq_true rfl, Nat.le_of_ble_eq_true rfl⟩ (fun r9 st9 t9 L9 h09 hal9 hR9 hL9 => ?_) (fun q9 st9 t9 L9 h09 h19 hal9 hR9 hL9 => ?_)
    · obtain ⟨hF9, hP9, x, rfl, hz9⟩ := hR9
      have hv := hv.trans (xb_l hz9)
      have hk := hk _ hz9
      have hS := zz_xS hS h09 hF9 (zz_free hD hS hA) hL9
      have hD : va_D A (Wc ty h (f_CL_enterRow (f_Sc_innermost σ) 0 σ).2 px) := zz_D hD rfl
      exact B106 _ _ _ x (f_CL_enterRow (f_Sc_innermost σ) 0 σ).2 hv hk (lv_sub hl [] rfl) hP9 hD hS
    · obtain ⟨hF9, hP9, E9, ce9, hz9, hq9, hn9, hc9⟩ := hR9
      have hv := hv.trans (xb_r hz9)
      have hS := zz_xS hS h09 hF9 (zz_free hD hS hA) hL9
      exact x_out htab hlocks (fun t ht hal => ⟨hS.F ht, by rw [ht, hv]; exact hP9, E9, ce9, by rw [hv], by rw [ht]; exact hq9, hn9, by rw [h19.findClass]; exact hc9⟩) hS.2.2 (Nat.le_of_ble_eq_true rfl) (Nat.le_of_ble_eq_true rfl)
  have B91 : ∀ (H : Heap) (locs : List Loc) (ls : Array Slot) (s0 : Int32) (σ : St), v = f_CL_turn_91 s0 σ → k_CL_turn_91 s0 σ → lv_has ls 2 [(0, .ref (h 0))] → va_P D classes (Wc ty h σ px) H → va_D A (Wc ty h σ px) → va_S A s.heap H locs → W p l e (headSpec w_CL_turn rm_CL_turn).room s m args below meth c H locs 0 0 (xMQ below (Rx D classes (fun u => Wc ty h u px) A v) args s 1 6 A) (F0 m 91 ls [.int s0, .ref (h 25)]) := by
    intro H locs ls s0 σ hv hk hl hP hD hS
    unfold f_CL_turn_91 at hv
    unfold k_CL_turn_91 at hk
    obtain ⟨hk0, hk⟩ := hk
    refine va_callv (va_runV (As := [.int s0]) (rest := []) ⟨hx, hb, hml, hown, hg⟩ (c_Ro_join l D ty h px σ H.size s0 hk0) ⟨callB_of 1 hg (gw_C m_939) rfl rfl rfl (hg _ m_10) (hg _ m_936) hd_Ro_join ⟨Nat.le_of_ble_eq_true rfl, Nat.le_of_ble_eq_true rfl⟩, hg _ m_937, hg _ m_938⟩ (zz_preVW hN hK hP hD 25 rfl rfl) rfl rfl hl.1 rfl (lv_room (Nat.le_of_ble_eq_true rfl)) d_CL_turn_91 ⟨Nat.le_of_ble_eq_true rfl, Nat.le_of_ble_eq_true rfl⟩) hS (fun q _ h => zz_free hD hS hA q h) (zz_free hD hS hA) (fun u91 t H locs ht hvm hp hP1 hz hk1 hS => ?_)
    rw [ht] at hP1
    rw [← hp] at hv hk
    have hD : va_D A (Wc ty h u91 px) := zz_D hD rfl
    have hP := hP1
    exact B94 _ _ _  u91 hv hk (lv_sub hl [0] rfl) hP hD hS
  have B64 : ∀ (H : Heap) (locs : List Loc) (ls : Array Slot) (x1 : Int32) (σ : St), v = f_CL_turn_64 x1 σ → k_CL_turn_64 x1 σ → lv_has ls 2 [(0, .ref (h 0)), (1, .int x1)] → va_P D classes (Wc ty h σ px) H → va_D A (Wc ty h σ px) → va_S A s.heap H locs → W p l e (headSpec w_CL_turn rm_CL_turn).room s m args below meth c H locs 0 0 (xMQ below (Rx D classes (fun u => Wc ty h u px) A v) args s 1 6 A) (F0 m 64 ls []) := by
    intro H locs ls x1 σ hv hk hl hP hD hS
    unfold f_CL_turn_64 at hv
    unfold k_CL_turn_64 at hk
    refine lv_aload_n hx hb d_CL_turn_64 rfl (lv_at hl 0 rfl) ?_
    refine va_get (v := .ref (h 25)) (C := R_CL) (T := T_CL) (N := 11) hx hb hg in_CL hown hK hP 0 rfl rfl 7 (by decide) (hg _ m_291) (fun _ h9 => h9) rfl d_CL_turn_65 ?_
    refine lv_aload_n hx hb d_CL_turn_68 rfl (lv_at hl 0 rfl) ?_
    refine va_get (v := .ref (h 6)) (C := R_CL) (T := T_CL) (N := 11) hx hb hg in_CL hown hK hP 0 rfl rfl 1 (by decide) (hg _ m_285) (fun _ h9 => h9) rfl d_CL_turn_69 ?_
    refine lv_aload_n hx hb d_CL_turn_72 rfl (lv_at hl 0 rfl) ?_
    refine va_get (v := .ref (h 6)) (C := R_CL) (T := T_CL) (N := 11) hx hb hg in_CL hown hK hP 0 rfl rfl 1 (by decide) (hg _ m_285) (fun _ h9 => h9) rfl d_CL_turn_73 ?_
    refine lv_iload_n hx hb d_CL_turn_76 rfl (lv_at hl 1 rfl) ?_
    obtain ⟨hk0, hk⟩ := hk
    refine zz_callV (va_runV (As := [.int x1]) (rest := [.ref (h 6), .ref (h 25)]) ⟨hx, hb, hml, hown, hg⟩ (c_Te_secondOf l D ty h px σ x1 hk0) ⟨callB_of 1 hg (gw_C m_451) rfl rfl rfl (hg _ m_3) (hg _ m_448) hd_Te_secondOf ⟨Nat.le_of_ble_eq_true rfl, Nat.le_of_ble_eq_true rfl⟩, hg _ m_449, hg _ m_450⟩ (zz_preV hN hK hP 6 rfl rfl) rfl rfl hl.1 rfl (lv_room (Nat.le_of_ble_eq_true rfl)) d_CL_turn_77 ⟨Nat.le_of_ble_eq_true rfl, Nat.le_of_ble_eq_true rfl⟩) ?_
    refine lv_aload_n hx hb d_CL_turn_80 rfl (lv_at hl 0 rfl) ?_
    refine va_get (v := .ref (h 6)) (C := R_CL) (T := T_CL) (N := 11) hx hb hg in_CL hown hK hP 0 rfl rfl 1 (by decide) (hg _ m_285) (fun _ h9 => h9) rfl d_CL_turn_81 ?_
    refine lv_iload_n hx hb d_CL_turn_84 rfl (lv_at hl 1 rfl) ?_
    obtain ⟨hk0, hk⟩ := hk
    refine zz_callV (va_runV (As := [.int x1]) (rest := [.int (f_Te_secondOf x1 σ), .ref (h 6), .ref (h 25)]) ⟨hx, hb, hml, hown, hg⟩ (c_Te_firstOf l D ty h px σ x1 hk0) ⟨callB_of 1 hg (gw_C m_447) rfl rfl rfl (hg _ m_3) (hg _ m_444) hd_Te_firstOf ⟨Nat.le_of_ble_eq_true rfl, Nat.le_of_ble_eq_true rfl⟩, hg _ m_445, hg _ m_446⟩ (zz_preV hN hK hP 6 rfl rfl) rfl rfl hl.1 rfl (lv_room (Nat.le_of_ble_eq_true rfl)) d_CL_turn_85 ⟨Nat.le_of_ble_eq_true rfl, Nat.le_of_ble_eq_true rfl⟩) ?_
    obtain ⟨hk0, hk⟩ := hk
    refine va_calli (va_runV (As := [.int (f_Te_secondOf x1 σ), .int (f_Te_firstOf x1 σ)]) (rest := [.ref (h 25)]) ⟨hx, hb, hml, hown, hg⟩ (c_Te_equation l D ty h px σ H.size (f_Te_secondOf x1 σ) (f_Te_firstOf x1 σ) hk0) ⟨callB_of 2 hg (gw_C m_1038) rfl rfl rfl (hg _ m_3) (hg _ m_1035) hd_Te_equation ⟨Nat.le_of_ble_eq_true rfl, Nat.le_of_ble_eq_true rfl⟩, hg _ m_1036, hg _ m_1037⟩ (zz_preVW hN hK hP hD 6 rfl rfl) rfl rfl hl.1 rfl (lv_room (Nat.le_of_ble_eq_true rfl)) d_CL_turn_88 ⟨Nat.le_of_ble_eq_true rfl, Nat.le_of_ble_eq_true rfl⟩) hS (fun q _ h => zz_free hD hS hA q h) (zz_free hD hS hA) (fun r88 u88 t H locs ht hvm hp hP1 hz hk1 hS => ?_)
    rw [ht] at hP1
    rw [← hp] at hv hk
    have hD : va_D A (Wc ty h u88 px) := zz_D hD rfl
    have hP := hP1
    exact B91 _ _ _ r88 u88 hv hk (lv_sub hl [0] rfl) hP hD hS
  have B61 : ∀ (H : Heap) (locs : List Loc) (ls : Array Slot) (x1 : Int32) (s0 : Int32) (σ : St), v = f_CL_turn_61 x1 s0 σ → k_CL_turn_61 x1 s0 σ → lv_has ls 2 [(0, .ref (h 0)), (1, .int x1)] → va_P D classes (Wc ty h σ px) H → va_D A (Wc ty h σ px) → va_S A s.heap H locs → W p l e (headSpec w_CL_turn rm_CL_turn).room s m args below meth c H locs 0 0 (xMQ below (Rx D classes (fun u => Wc ty h u px) A v) args s 1 6 A) (F0 m 61 ls [.int s0, .ref (h 25)]) := by
    intro H locs ls x1 s0 σ hv hk hl hP hD hS
    unfold f_CL_turn_61 at hv
    unfold k_CL_turn_61 at hk
    obtain ⟨hk0, hk⟩ := hk
    refine va_callv (va_runV (As := [.int s0]) (rest := []) ⟨hx, hb, hml, hown, hg⟩ (c_Ro_join l D ty h px σ H.size s0 hk0) ⟨callB_of 1 hg (gw_C m_939) rfl rfl rfl (hg _ m_10) (hg _ m_936) hd_Ro_join ⟨Nat.le_of_ble_eq_true rfl, Nat.le_of_ble_eq_true rfl⟩, hg _ m_937, hg _ m_938⟩ (zz_preVW hN hK hP hD 25 rfl rfl) rfl rfl hl.1 rfl (lv_room (Nat.le_of_ble_eq_true rfl)) d_CL_turn_61 ⟨Nat.le_of_ble_eq_true rfl, Nat.le_of_ble_eq_true rfl⟩) hS (fun q _ h => zz_free hD hS hA q h) (zz_free hD hS hA) (fun u61 t H locs ht hvm hp hP1 hz hk1 hS => ?_)
    rw [ht] at hP1
    rw [← hp] at hv hk
    have hD : va_D A (Wc ty h u61 px) := zz_D hD rfl
    have hP := hP1
    exact B64 _ _ _ x1 u61 hv hk (lv_sub hl [0, 1] rfl) hP hD hS
  have B49 : ∀ (H : Heap) (locs : List Loc) (ls : Array Slot) (x1 : Int32) (σ : St), v = f_CL_turn_49 x1 σ → k_CL_turn_49 x1 σ → lv_has ls 2 [(0, .ref (h 0)), (1, .int x1)] → va_P D classes (Wc ty h σ px) H → va_D A (Wc ty h σ px) → va_S A s.heap H locs → W p l e (headSpec w_CL_turn rm_CL_turn).room s m args below meth c H locs 0 0 (xMQ below (Rx D classes (fun u => Wc ty h u px) A v) args s 1 6 A) (F0 m 49 ls []) := by
    intro H locs ls x1 σ hv hk hl hP hD hS
    unfold f_CL_turn_49 at hv
    unfold k_CL_turn_49 at hk
    refine lv_aload_n hx hb d_CL_turn_49 rfl (lv_at hl 0 rfl) ?_
    refine va_get (v := .ref (h 25)) (C := R_CL) (T := T_CL) (N := 11) hx hb hg in_CL hown hK hP 0 rfl rfl 7 (by decide) (hg _ m_291) (fun _ h9 => h9) rfl d_CL_turn_50 ?_
    refine lv_aload_n hx hb d_CL_turn_53 rfl (lv_at hl 0 rfl) ?_
    refine va_get (v := .ref (h 6)) (C := R_CL) (T := T_CL) (N := 11) hx hb hg in_CL hown hK hP 0 rfl rfl 1 (by decide) (hg _ m_285) (fun _ h9 => h9) rfl d_CL_turn_54 ?_
    refine lv_iload_n hx hb d_CL_turn_57 rfl (lv_at hl 1 rfl) ?_
    obtain ⟨hk0, hk⟩ := hk
    refine va_calli (va_runV (As := [.int x1]) (rest := [.ref (h 25)]) ⟨hx, hb, hml, hown, hg⟩ (c_Te_opposite l D ty h px σ H.size x1 hk0) ⟨callB_of 1 hg (gw_C m_1014) rfl rfl rfl (hg _ m_3) (hg _ m_1011) hd_Te_opposite ⟨Nat.le_of_ble_eq_true rfl, Nat.le_of_ble_eq_true rfl⟩, hg _ m_1012, hg _ m_1013⟩ (zz_preVW hN hK hP hD 6 rfl rfl) rfl rfl hl.1 rfl (lv_room (Nat.le_of_ble_eq_true rfl)) d_CL_turn_58 ⟨Nat.le_of_ble_eq_true rfl, Nat.le_of_ble_eq_true rfl⟩) hS (fun q _ h => zz_free hD hS hA q h) (zz_free hD hS hA) (fun r58 u58 t H locs ht hvm hp hP1 hz hk1 hS => ?_)
    rw [ht] at hP1
    rw [← hp] at hv hk
    have hD : va_D A (Wc ty h u58 px) := zz_D hD rfl
    have hP := hP1
    exact B61 _ _ _ x1 r58 u58 hv hk (lv_sub hl [0, 1] rfl) hP hD hS
  unfold f_CL_turn at hv
  unfold k_CL_turn at hk
  refine lv_aload_n hx hb d_CL_turn_0 rfl (lv_at hl 0 rfl) ?_
  obtain ⟨hk0, hk⟩ := hk
  refine zz_callV (va_runV (As := []) (rest := []) ⟨hx, hb, hml, hown, hg⟩ (c_CL_isShut l D ty h px σ  hk0) ⟨callB_of 0 hg (gw_C m_571) rfl rfl rfl (hg _ m_1) (hg _ m_568) hd_CL_isShut ⟨Nat.le_of_ble_eq_true rfl, Nat.le_of_ble_eq_true rfl⟩, hg _ m_570, hg _ ms_8⟩ (zz_preV hN hK hP 0 rfl rfl) rfl rfl hl.1 rfl (lv_room (Nat.le_of_ble_eq_true rfl)) d_CL_turn_1 ⟨Nat.le_of_ble_eq_true rfl, Nat.le_of_ble_eq_true rfl⟩) ?_
  refine lv_if_eq (tgt := 9) hx hb d_CL_turn_4 (by decide) (fun hc => ?_) (fun hc => ?_)
  · have hv := hv.trans (if_pos hc)
    have hk := hk.1 hc
    refine lv_aload_n hx hb d_CL_turn_9 rfl (lv_at hl 0 rfl) ?_
    refine va_get (v := .ref (h 6)) (C := R_CL) (T := T_CL) (N := 11) hx hb hg in_CL hown hK hP 0 rfl rfl 1 (by decide) (hg _ m_285) (fun _ h9 => h9) rfl d_CL_turn_10 ?_
    refine lv_iload_n hx hb d_CL_turn_13 rfl (lv_at hl 1 rfl) ?_
    obtain ⟨hk0, hk⟩ := hk
    refine zz_callV (va_runV (As := [.int a1]) (rest := []) ⟨hx, hb, hml, hown, hg⟩ (c_Te_has l D ty h px σ a1 hk0) ⟨callB_of 1 hg (gw_C m_430) rfl rfl rfl (hg _ m_3) (hg _ m_427) hd_Te_has ⟨Nat.le_of_ble_eq_true rfl, Nat.le_of_ble_eq_true rfl⟩, hg _ m_428, hg _ m_429⟩ (zz_preV hN hK hP 6 rfl rfl) rfl rfl hl.1 rfl (lv_room (Nat.le_of_ble_eq_true rfl)) d_CL_turn_14 ⟨Nat.le_of_ble_eq_true rfl, Nat.le_of_ble_eq_true rfl⟩) ?_
    refine lv_if_ne (tgt := 25) hx hb d_CL_turn_17 (by decide) (fun hc => ?_) (fun hc => ?_)
    · have hv := hv.trans (if_neg hc)
      have hk := hk.2 hc
      refine lv_aload_n hx hb d_CL_turn_25 rfl (lv_at hl 0 rfl) ?_
      refine va_get (v := .ref (h 6)) (C := R_CL) (T := T_CL) (N := 11) hx hb hg in_CL hown hK hP 0 rfl rfl 1 (by decide) (hg _ m_285) (fun _ h9 => h9) rfl d_CL_turn_26 ?_
      refine lv_iload_n hx hb d_CL_turn_29 rfl (lv_at hl 1 rfl) ?_
      obtain ⟨hk0, hk⟩ := hk
      refine zz_callV (va_runV (As := [.int a1]) (rest := []) ⟨hx, hb, hml, hown, hg⟩ (c_Te_kindOf l D ty h px σ a1 hk0) ⟨callB_of 1 hg (gw_C m_434) rfl rfl rfl (hg _ m_3) (hg _ m_431) hd_Te_kindOf ⟨Nat.le_of_ble_eq_true rfl, Nat.le_of_ble_eq_true rfl⟩, hg _ m_432, hg _ m_433⟩ (zz_preV hN hK hP 6 rfl rfl) rfl rfl hl.1 rfl (lv_room (Nat.le_of_ble_eq_true rfl)) d_CL_turn_30 ⟨Nat.le_of_ble_eq_true rfl, Nat.le_of_ble_eq_true rfl⟩) ?_
      refine lv_iconst (v := 5) hx hb d_CL_turn_33 (by decide) ?_
      refine lv_icmp_eq (tgt := 42) hx hb d_CL_turn_34 (by decide) (fun hc => ?_) (fun hc => ?_)
      · have hv := hv.trans (if_pos hc)
        have hk := hk.1 hc
        refine lv_aload_n hx hb d_CL_turn_42 rfl (lv_at hl 0 rfl) ?_
        refine va_get (v := .ref (h 25)) (C := R_CL) (T := T_CL) (N := 11) hx hb hg in_CL hown hK hP 0 rfl rfl 7 (by decide) (hg _ m_291) (fun _ h9 => h9) rfl d_CL_turn_43 ?_
        obtain ⟨hk0, hk⟩ := hk
        refine va_callv (va_runV (As := []) (rest := []) ⟨hx, hb, hml, hown, hg⟩ (c_Ro_wipe l D ty h px σ s.heap.size  hk0) ⟨callB_of 0 hg (gw_C m_935) rfl rfl rfl (hg _ m_10) (hg _ m_932) hd_Ro_wipe ⟨Nat.le_of_ble_eq_true rfl, Nat.le_of_ble_eq_true rfl⟩, hg _ m_933, hg _ m_934⟩ (zz_preVW hN hK hP hD 25 rfl rfl) rfl rfl hl.1 rfl (lv_room (Nat.le_of_ble_eq_true rfl)) d_CL_turn_46 ⟨Nat.le_of_ble_eq_true rfl, Nat.le_of_ble_eq_true rfl⟩) hS (fun q _ h => zz_free hD hS hA q h) (zz_free hD hS hA) (fun u46 t H locs ht hvm hp hP1 hz hk1 hS => ?_)
        rw [ht] at hP1
        rw [← hp] at hv hk
        have hD : va_D A (Wc ty h u46 px) := zz_D hD rfl
        have hP := hP1
        exact B49 _ _ _ a1 u46 hv hk (lv_sub hl [0, 1] rfl) hP hD hS
      · have hv := hv.trans (if_neg hc)
        have hk := hk.2 hc
        refine lv_aload_n hx hb d_CL_turn_37 rfl (lv_at hl 0 rfl) ?_
        obtain ⟨hk0, hk⟩ := hk
        refine x_callV (As := []) (rest := []) ⟨hx, hb, hml, hown, hg⟩ (c_CL_throwWrong l hlt D ty h px sa σ s.heap.size  hk0) ⟨callB_of 0 hg (gw_C m_774) rfl rfl rfl (hg _ m_1) (hg _ m_771) hd_CL_throwWrong ⟨Nat.le_of_ble_eq_true rfl, Nat.le_of_ble_eq_true rfl⟩, hg _ m_773, hg _ ms_24⟩ (zz_preX hN hX hS hA hK hP hD 0 rfl rfl) rfl hl.1 rfl (Nat.le_of_ble_eq_true rfl) d_CL_turn_38 ⟨Nat.le_of_ble_eq_true rfl, Nat.le_of_ble_eq_true rfl⟩ (fun r9 st9 t9 L9 h09 hal9 hR9 hL9 => ?_) (fun q9 st9 t9 L9 h09 h19 hal9 hR9 hL9 => ?_)
        · obtain ⟨hF9, hP9, x, rfl, hz9⟩ := hR9
          have hv := hv.trans (xb_l hz9)
          have hk := hk _ hz9
          have hS := zz_xS hS h09 hF9 (zz_free hD hS hA) hL9
          have hD : va_D A (Wc ty h (f_CL_throwWrong σ).2 px) := zz_D hD rfl
          exact B41 _ _ _ x (f_CL_throwWrong σ).2 hv hk (lv_sub hl [] rfl) hP9 hD hS
        · obtain ⟨hF9, hP9, E9, ce9, hz9, hq9, hn9, hc9⟩ := hR9
          have hv := hv.trans (xb_r hz9)
          have hS := zz_xS hS h09 hF9 (zz_free hD hS hA) hL9
          exact x_out htab hlocks (fun t ht hal => ⟨hS.F ht, by rw [ht, hv]; exact hP9, E9, ce9, by rw [hv], by rw [ht]; exact hq9, hn9, by rw [h19.findClass]; exact hc9⟩) hS.2.2 (Nat.le_of_ble_eq_true rfl) (Nat.le_of_ble_eq_true rfl)
    · have hv := hv.trans (if_pos hc)
      have hk := hk.1 hc
      refine lv_aload_n hx hb d_CL_turn_20 rfl (lv_at hl 0 rfl) ?_
      obtain ⟨hk0, hk⟩ := hk
      refine x_callV (As := []) (rest := []) ⟨hx, hb, hml, hown, hg⟩ (c_CL_throwMissing l hlt D ty h px sa σ s.heap.size  hk0) ⟨callB_of 0 hg (gw_C m_914) rfl rfl rfl (hg _ m_1) (hg _ m_911) hd_CL_throwMissing ⟨Nat.le_of_ble_eq_true rfl, Nat.le_of_ble_eq_true rfl⟩, hg _ m_913, hg _ ms_29⟩ (zz_preX hN hX hS hA hK hP hD 0 rfl rfl) rfl hl.1 rfl (Nat.le_of_ble_eq_true rfl) d_CL_turn_21 ⟨Nat.le_of_ble_eq_true rfl, Nat.le_of_ble_eq_true rfl⟩ (fun r9 st9 t9 L9 h09 hal9 hR9 hL9 => ?_) (fun q9 st9 t9 L9 h09 h19 hal9 hR9 hL9 => ?_)
      · obtain ⟨hF9, hP9, x, rfl, hz9⟩ := hR9
        have hv := hv.trans (xb_l hz9)
        have hk := hk _ hz9
        have hS := zz_xS hS h09 hF9 (zz_free hD hS hA) hL9
        have hD : va_D A (Wc ty h (f_CL_throwMissing σ).2 px) := zz_D hD rfl
        exact B24 _ _ _ x (f_CL_throwMissing σ).2 hv hk (lv_sub hl [] rfl) hP9 hD hS
      · obtain ⟨hF9, hP9, E9, ce9, hz9, hq9, hn9, hc9⟩ := hR9
        have hv := hv.trans (xb_r hz9)
        have hS := zz_xS hS h09 hF9 (zz_free hD hS hA) hL9
        exact x_out htab hlocks (fun t ht hal => ⟨hS.F ht, by rw [ht, hv]; exact hP9, E9, ce9, by rw [hv], by rw [ht]; exact hq9, hn9, by rw [h19.findClass]; exact hc9⟩) hS.2.2 (Nat.le_of_ble_eq_true rfl) (Nat.le_of_ble_eq_true rfl)
  · have hv := hv.trans (if_neg hc)
    have hk := hk.2 hc
    refine lv_iconst (v := -1) hx hb d_CL_turn_7 (by decide) ?_
    exact x_ret (fun o t hq => by obtain ⟨rfl, ht⟩ := hq; exact ⟨hS.F ht, by rw [ht, hv]; exact hP, _, rfl, by rw [hv]⟩) (Nat.le_of_ble_eq_true rfl) (Nat.le_of_ble_eq_true rfl) (W.iret (Qc := fun _ _ o t => o = .returned (some (.int (-1))) ∧ t.heap = s.heap) hx hb hr (fun t ht hW => ⟨rfl, ht⟩) hS.2.2 d_CL_turn_8)

-- ClauseLedger$Terms.nameOf(I)I
abbrev b_Te_nameOf : ByteArray := prog_11_method_7_code
def y_Te_nameOf : MethodName := ⟨"ClauseLedger$Terms", "nameOf", "(I)I"⟩
theorem hd_Te_nameOf : y_Te_nameOf.cls ≠ "java/lang/invoke/MethodHandle" ∧ y_Te_nameOf.cls ≠ "java/lang/invoke/VarHandle" ∧ (parseMethodDescriptor y_Te_nameOf.desc).map (fun d => d.parameters.length) = some 1 := by decide +kernel
theorem d_Te_nameOf_0 : decode b_Te_nameOf 0 = .ok (.aload_n 0, 1) := by decide +kernel
theorem d_Te_nameOf_1 : decode b_Te_nameOf 1 = .ok (.iload_n 1, 1) := by decide +kernel
theorem d_Te_nameOf_2 : decode b_Te_nameOf 2 = .ok (.invokevirtual 57, 3) := by decide +kernel
theorem d_Te_nameOf_5 : decode b_Te_nameOf 5 = .ok (.ifCond .eq 12, 3) := by decide +kernel
theorem d_Te_nameOf_8 : decode b_Te_nameOf 8 = .ok (.aload_n 0, 1) := by decide +kernel
theorem d_Te_nameOf_9 : decode b_Te_nameOf 9 = .ok (.getfield 18, 3) := by decide +kernel
theorem d_Te_nameOf_12 : decode b_Te_nameOf 12 = .ok (.iload_n 1, 1) := by decide +kernel
theorem d_Te_nameOf_13 : decode b_Te_nameOf 13 = .ok (.iaload, 1) := by decide +kernel
theorem d_Te_nameOf_14 : decode b_Te_nameOf 14 = .ok (.goto 4, 3) := by decide +kernel
theorem d_Te_nameOf_17 : decode b_Te_nameOf 17 = .ok (.iconst (-1), 1) := by decide +kernel
theorem d_Te_nameOf_18 : decode b_Te_nameOf 18 = .ok (.ireturn, 1) := by decide +kernel
def f_Te_nameOf_18 (s0 : Int32) (σ : St) : Int32 := s0
def k_Te_nameOf_18 (s0 : Int32) (σ : St) : Prop := True
def f_Te_nameOf (a1 : Int32) (σ : St) : Int32 := if (f_Te_has a1 σ) = 0 then (f_Te_nameOf_18 (-1) σ) else (f_Te_nameOf_18 (σ.1 9 a1.toNatClampNeg) σ)
def k_Te_nameOf (a1 : Int32) (σ : St) : Prop := (k_Te_has a1 σ) ∧ (((f_Te_has a1 σ) = 0 → (k_Te_nameOf_18 (-1) σ)) ∧ (¬ (f_Te_has a1 σ) = 0 → (vp_in a1 208 ∧ (k_Te_nameOf_18 (σ.1 9 a1.toNatClampNeg) σ))))
abbrev w_Te_nameOf : List Cond := Cond.code y_Te_nameOf b_Te_nameOf 2 (some .int) :: gw
abbrev rm_Te_nameOf : Room := { frames := 1, cells := 0, slots := 0, locals := 21 }
set_option maxHeartbeats 4000000 in
set_option maxRecDepth 100000 in
theorem c_Te_nameOf (l : Launch) (D : va_G) (ty : Nat → ClassId) (h : Nat → Nat) (px : va_W) (σ : St) (a1 : Int32) (hk : k_Te_nameOf a1 σ) : Met l y_Te_nameOf w_Te_nameOf rm_Te_nameOf (va_Pc [.ref (h 6), .int a1] (fun U => va_P D classes (Wc ty h σ px) U.heap ∧ va_K D classes (Ta ty) U ∧ NW U)) (k2_QcV (.int (f_Te_nameOf a1 σ))) 0 0 (fun _ => False) := by
  refine Met.ofW (cc := b_Te_nameOf) (maxL := 2) (ret := (some .int)) (by decide) rfl ?_
  intro p e s m args below meth c s₁ B hml hv
  obtain ⟨ha, hP, hK, hN⟩ := hv
  have hx := B.exec
  have hb := B.bytes
  have hr := B.returns
  have hg : ∀ w ∈ gw, w.before args s = true := fun w h9 => atoms_spec (ws := w_Te_nameOf) B.pre w (List.mem_cons_of_mem _ h9)
  have hown : s.vm.findClass "ClauseLedger$Terms" = some m.cls := findClass_of_methodNamed B.named
  have hlocks := B.notSynchronized
  have he : entryFrame m args 2 = entryFrame m ([.ref (h 6), .int a1] : List Value).toArray 2 := by rw [ha]
  rw [he, lg_entry_eq]
  have hl := lv_entry ([.ref (h 6), .int a1]) (n := 2) (Nat.le_of_ble_eq_true rfl)
  generalize (lg_sl ([.ref (h 6), .int a1]) ++ List.replicate (2 - (lg_sl ([.ref (h 6), .int a1])).length) Slot.unset).toArray = ls at hl ⊢
  have hl : lv_has ls 2 [(0, .ref (h 6)), (1, .int a1)] := hl
  generalize hv : f_Te_nameOf a1 σ = v
  replace hv := hv.symm
  have B18 : ∀ (ls : Array Slot) (s0 : Int32), v = f_Te_nameOf_18 s0 σ → k_Te_nameOf_18 s0 σ → lv_has ls 2 [] → W p l e (headSpec w_Te_nameOf rm_Te_nameOf).room s m args below meth c s.heap [] 0 0 (MQ below (k2_QcV (.int v)) args s 0 0 (fun _ => False)) (F0 m 18 ls [.int s0]) := by
    intro ls s0 hv hk hl
    unfold f_Te_nameOf_18 at hv
    unfold k_Te_nameOf_18 at hk
    exact W.iret hx hb hr (fun t ht hW => ⟨by rw [hv], ht⟩) (fun q h => nomatch h) d_Te_nameOf_18
  unfold f_Te_nameOf at hv
  unfold k_Te_nameOf at hk
  refine lv_aload_n hx hb d_Te_nameOf_0 rfl (lv_at hl 0 rfl) ?_
  refine lv_iload_n hx hb d_Te_nameOf_1 rfl (lv_at hl 1 rfl) ?_
  obtain ⟨hk0, hk⟩ := hk
  refine zz_callV (va_runV (As := [.int a1]) (rest := []) ⟨hx, hb, hml, hown, hg⟩ (c_Te_has l D ty h px σ a1 hk0) ⟨callB_of 1 hg (gw_C m_430) rfl rfl rfl (hg _ m_3) (hg _ m_435) hd_Te_has ⟨Nat.le_of_ble_eq_true rfl, Nat.le_of_ble_eq_true rfl⟩, hg _ m_428, hg _ m_429⟩ (zz_preV hN hK hP 6 rfl rfl) rfl rfl hl.1 rfl (lv_room (Nat.le_of_ble_eq_true rfl)) d_Te_nameOf_2 ⟨Nat.le_of_ble_eq_true rfl, Nat.le_of_ble_eq_true rfl⟩) ?_
  refine lv_if_eq (tgt := 17) hx hb d_Te_nameOf_5 (by decide) (fun hc => ?_) (fun hc => ?_)
  · have hv := hv.trans (if_pos hc)
    have hk := hk.1 hc
    refine lv_iconst (v := -1) hx hb d_Te_nameOf_17 (by decide) ?_
    exact B18 _ (-1) hv hk (lv_sub hl [] rfl)
  · have hv := hv.trans (if_neg hc)
    have hk := hk.2 hc
    refine lv_aload_n hx hb d_Te_nameOf_8 rfl (lv_at hl 0 rfl) ?_
    refine va_get (v := .ref (h 9)) (C := R_Te) (T := T_Te) (N := 14) hx hb hg in_Te hown hK hP 6 rfl rfl 2 (by decide) (hg _ m_71) (fun _ h9 => h9) rfl d_Te_nameOf_9 ?_
    refine lv_iload_n hx hb d_Te_nameOf_12 rfl (lv_at hl 1 rfl) ?_
    obtain ⟨hk0, hk⟩ := hk
    refine va_iald hx hb hK hP 9 0 rfl rfl hk0 d_Te_nameOf_13 ?_
    refine lv_goto (tgt := 18) hx hb d_Te_nameOf_14 (by decide) ?_
    exact B18 _ (σ.1 9 a1.toNatClampNeg) hv hk (lv_sub hl [] rfl)

-- ClauseLedger.isReplaceable(II)Z
abbrev b_CL_isReplaceable : ByteArray := prog_1_method_33_code
def y_CL_isReplaceable : MethodName := ⟨"ClauseLedger", "isReplaceable", "(II)Z"⟩
theorem hd_CL_isReplaceable : y_CL_isReplaceable.cls ≠ "java/lang/invoke/MethodHandle" ∧ y_CL_isReplaceable.cls ≠ "java/lang/invoke/VarHandle" ∧ (parseMethodDescriptor y_CL_isReplaceable.desc).map (fun d => d.parameters.length) = some 2 := by decide +kernel
theorem d_CL_isReplaceable_0 : decode b_CL_isReplaceable 0 = .ok (.aload_n 0, 1) := by decide +kernel
theorem d_CL_isReplaceable_1 : decode b_CL_isReplaceable 1 = .ok (.getfield 19, 3) := by decide +kernel
theorem d_CL_isReplaceable_4 : decode b_CL_isReplaceable 4 = .ok (.iload_n 1, 1) := by decide +kernel
theorem d_CL_isReplaceable_5 : decode b_CL_isReplaceable 5 = .ok (.invokevirtual 173, 3) := by decide +kernel
theorem d_CL_isReplaceable_8 : decode b_CL_isReplaceable 8 = .ok (.istore_n 3, 1) := by decide +kernel
theorem d_CL_isReplaceable_9 : decode b_CL_isReplaceable 9 = .ok (.iload_n 3, 1) := by decide +kernel
theorem d_CL_isReplaceable_10 : decode b_CL_isReplaceable 10 = .ok (.aload_n 0, 1) := by decide +kernel
theorem d_CL_isReplaceable_11 : decode b_CL_isReplaceable 11 = .ok (.getfield 19, 3) := by decide +kernel
theorem d_CL_isReplaceable_14 : decode b_CL_isReplaceable 14 = .ok (.iload_n 2, 1) := by decide +kernel
theorem d_CL_isReplaceable_15 : decode b_CL_isReplaceable 15 = .ok (.invokevirtual 173, 3) := by decide +kernel
theorem d_CL_isReplaceable_18 : decode b_CL_isReplaceable 18 = .ok (.if_icmp .ne 44, 3) := by decide +kernel
theorem d_CL_isReplaceable_21 : decode b_CL_isReplaceable 21 = .ok (.iload_n 3, 1) := by decide +kernel
theorem d_CL_isReplaceable_22 : decode b_CL_isReplaceable 22 = .ok (.bipush 10, 2) := by decide +kernel
theorem d_CL_isReplaceable_24 : decode b_CL_isReplaceable 24 = .ok (.if_icmp .eq 38, 3) := by decide +kernel
theorem d_CL_isReplaceable_27 : decode b_CL_isReplaceable 27 = .ok (.aload_n 0, 1) := by decide +kernel
theorem d_CL_isReplaceable_28 : decode b_CL_isReplaceable 28 = .ok (.getfield 19, 3) := by decide +kernel
theorem d_CL_isReplaceable_31 : decode b_CL_isReplaceable 31 = .ok (.iload_n 1, 1) := by decide +kernel
theorem d_CL_isReplaceable_32 : decode b_CL_isReplaceable 32 = .ok (.invokevirtual 179, 3) := by decide +kernel
theorem d_CL_isReplaceable_35 : decode b_CL_isReplaceable 35 = .ok (.iconst (-1), 1) := by decide +kernel
theorem d_CL_isReplaceable_36 : decode b_CL_isReplaceable 36 = .ok (.if_icmp .eq 26, 3) := by decide +kernel
theorem d_CL_isReplaceable_39 : decode b_CL_isReplaceable 39 = .ok (.aload_n 0, 1) := by decide +kernel
theorem d_CL_isReplaceable_40 : decode b_CL_isReplaceable 40 = .ok (.getfield 19, 3) := by decide +kernel
theorem d_CL_isReplaceable_43 : decode b_CL_isReplaceable 43 = .ok (.iload_n 1, 1) := by decide +kernel
theorem d_CL_isReplaceable_44 : decode b_CL_isReplaceable 44 = .ok (.invokevirtual 209, 3) := by decide +kernel
theorem d_CL_isReplaceable_47 : decode b_CL_isReplaceable 47 = .ok (.aload_n 0, 1) := by decide +kernel
theorem d_CL_isReplaceable_48 : decode b_CL_isReplaceable 48 = .ok (.getfield 19, 3) := by decide +kernel
theorem d_CL_isReplaceable_51 : decode b_CL_isReplaceable 51 = .ok (.iload_n 2, 1) := by decide +kernel
theorem d_CL_isReplaceable_52 : decode b_CL_isReplaceable 52 = .ok (.invokevirtual 209, 3) := by decide +kernel
theorem d_CL_isReplaceable_55 : decode b_CL_isReplaceable 55 = .ok (.if_icmp .ne 7, 3) := by decide +kernel
theorem d_CL_isReplaceable_58 : decode b_CL_isReplaceable 58 = .ok (.iconst 1, 1) := by decide +kernel
theorem d_CL_isReplaceable_59 : decode b_CL_isReplaceable 59 = .ok (.goto 4, 3) := by decide +kernel
theorem d_CL_isReplaceable_62 : decode b_CL_isReplaceable 62 = .ok (.iconst 0, 1) := by decide +kernel
theorem d_CL_isReplaceable_63 : decode b_CL_isReplaceable 63 = .ok (.ireturn, 1) := by decide +kernel
def f_CL_isReplaceable_63 (s0 : Int32) (σ : St) : Int32 := s0
def k_CL_isReplaceable_63 (s0 : Int32) (σ : St) : Prop := (narrow .boolean (.int s0) = .int s0) ∧ True
def f_CL_isReplaceable_62 (σ : St) : Int32 := f_CL_isReplaceable_63 0 σ
def k_CL_isReplaceable_62 (σ : St) : Prop := k_CL_isReplaceable_63 0 σ
def f_CL_isReplaceable_9 (x1 : Int32) (x2 : Int32) (x3 : Int32) (σ : St) : Int32 := if x3 = (f_Te_kindOf x2 σ) then (if x3 = 10 then (f_CL_isReplaceable_62 σ) else (if (f_Te_firstOf x1 σ) = (-1) then (f_CL_isReplaceable_62 σ) else (if (f_Te_nameOf x1 σ) = (f_Te_nameOf x2 σ) then (f_CL_isReplaceable_63 1 σ) else (f_CL_isReplaceable_62 σ)))) else (f_CL_isReplaceable_62 σ)
def k_CL_isReplaceable_9 (x1 : Int32) (x2 : Int32) (x3 : Int32) (σ : St) : Prop := (k_Te_kindOf x2 σ) ∧ ((x3 = (f_Te_kindOf x2 σ) → ((x3 = 10 → (k_CL_isReplaceable_62 σ)) ∧ (¬ x3 = 10 → ((k_Te_firstOf x1 σ) ∧ (((f_Te_firstOf x1 σ) = (-1) → (k_CL_isReplaceable_62 σ)) ∧ (¬ (f_Te_firstOf x1 σ) = (-1) → ((k_Te_nameOf x1 σ) ∧ ((k_Te_nameOf x2 σ) ∧ (((f_Te_nameOf x1 σ) = (f_Te_nameOf x2 σ) → (k_CL_isReplaceable_63 1 σ)) ∧ (¬ (f_Te_nameOf x1 σ) = (f_Te_nameOf x2 σ) → (k_CL_isReplaceable_62 σ))))))))))) ∧ (¬ x3 = (f_Te_kindOf x2 σ) → (k_CL_isReplaceable_62 σ)))
def f_CL_isReplaceable (a1 : Int32) (a2 : Int32) (σ : St) : Int32 := f_CL_isReplaceable_9 a1 a2 (f_Te_kindOf a1 σ) σ
def k_CL_isReplaceable (a1 : Int32) (a2 : Int32) (σ : St) : Prop := (k_Te_kindOf a1 σ) ∧ (k_CL_isReplaceable_9 a1 a2 (f_Te_kindOf a1 σ) σ)
abbrev w_CL_isReplaceable : List Cond := Cond.code y_CL_isReplaceable b_CL_isReplaceable 4 (some .boolean) :: gw
abbrev rm_CL_isReplaceable : Room := { frames := 2, cells := 0, slots := 0, locals := 42 }
set_option maxHeartbeats 4000000 in
set_option maxRecDepth 100000 in
theorem c_CL_isReplaceable (l : Launch) (D : va_G) (ty : Nat → ClassId) (h : Nat → Nat) (px : va_W) (σ : St) (a1 : Int32) (a2 : Int32) (hk : k_CL_isReplaceable a1 a2 σ) : Met l y_CL_isReplaceable w_CL_isReplaceable rm_CL_isReplaceable (va_Pc [.ref (h 0), .int a1, .int a2] (fun U => va_P D classes (Wc ty h σ px) U.heap ∧ va_K D classes (Ta ty) U ∧ NW U)) (k2_QcV (.int (f_CL_isReplaceable a1 a2 σ))) 0 0 (fun _ => False) := by
  refine Met.ofW (cc := b_CL_isReplaceable) (maxL := 4) (ret := (some .boolean)) (by decide) rfl ?_
  intro p e s m args below meth c s₁ B hml hv
  obtain ⟨ha, hP, hK, hN⟩ := hv
  have hx := B.exec
  have hb := B.bytes
  have hr := B.returns
  have hg : ∀ w ∈ gw, w.before args s = true := fun w h9 => atoms_spec (ws := w_CL_isReplaceable) B.pre w (List.mem_cons_of_mem _ h9)
  have hown : s.vm.findClass "ClauseLedger" = some m.cls := findClass_of_methodNamed B.named
  have hlocks := B.notSynchronized
  have he : entryFrame m args 4 = entryFrame m ([.ref (h 0), .int a1, .int a2] : List Value).toArray 4 := by rw [ha]
  rw [he, lg_entry_eq]
  have hl := lv_entry ([.ref (h 0), .int a1, .int a2]) (n := 4) (Nat.le_of_ble_eq_true rfl)
  generalize (lg_sl ([.ref (h 0), .int a1, .int a2]) ++ List.replicate (4 - (lg_sl ([.ref (h 0), .int a1, .int a2])).length) Slot.unset).toArray = ls at hl ⊢
  have hl : lv_has ls 4 [(0, .ref (h 0)), (1, .int a1), (2, .int a2)] := hl
  generalize hv : f_CL_isReplaceable a1 a2 σ = v
  replace hv := hv.symm
  have B63 : ∀ (ls : Array Slot) (s0 : Int32), v = f_CL_isReplaceable_63 s0 σ → k_CL_isReplaceable_63 s0 σ → lv_has ls 4 [] → W p l e (headSpec w_CL_isReplaceable rm_CL_isReplaceable).room s m args below meth c s.heap [] 0 0 (MQ below (k2_QcV (.int v)) args s 0 0 (fun _ => False)) (F0 m 63 ls [.int s0]) := by
    intro ls s0 hv hk hl
    unfold f_CL_isReplaceable_63 at hv
    unfold k_CL_isReplaceable_63 at hk
    obtain ⟨hk0, hk⟩ := hk
    exact W.zret hx hb hr hk0 (fun t ht hW => ⟨by rw [hv], ht⟩) (fun q h => nomatch h) d_CL_isReplaceable_63
  have B62 : ∀ (ls : Array Slot), v = f_CL_isReplaceable_62 σ → k_CL_isReplaceable_62 σ → lv_has ls 4 [] → W p l e (headSpec w_CL_isReplaceable rm_CL_isReplaceable).room s m args below meth c s.heap [] 0 0 (MQ below (k2_QcV (.int v)) args s 0 0 (fun _ => False)) (F0 m 62 ls []) := by
    intro ls hv hk hl
    unfold f_CL_isReplaceable_62 at hv
    unfold k_CL_isReplaceable_62 at hk
    refine lv_iconst (v := 0) hx hb d_CL_isReplaceable_62 (by decide) ?_
    exact B63 _ 0 hv hk (lv_sub hl [] rfl)
  have B9 : ∀ (ls : Array Slot) (x1 : Int32) (x2 : Int32) (x3 : Int32), v = f_CL_isReplaceable_9 x1 x2 x3 σ → k_CL_isReplaceable_9 x1 x2 x3 σ → lv_has ls 4 [(0, .ref (h 0)), (1, .int x1), (2, .int x2), (3, .int x3)] → W p l e (headSpec w_CL_isReplaceable rm_CL_isReplaceable).room s m args below meth c s.heap [] 0 0 (MQ below (k2_QcV (.int v)) args s 0 0 (fun _ => False)) (F0 m 9 ls []) := by
    intro ls x1 x2 x3 hv hk hl
    unfold f_CL_isReplaceable_9 at hv
    unfold k_CL_isReplaceable_9 at hk
    refine lv_iload_n hx hb d_CL_isReplaceable_9 rfl (lv_at hl 3 rfl) ?_
    refine lv_aload_n hx hb d_CL_isReplaceable_10 rfl (lv_at hl 0 rfl) ?_
    refine va_get (v := .ref (h 6)) (C := R_CL) (T := T_CL) (N := 11) hx hb hg in_CL hown hK hP 0 rfl rfl 1 (by decide) (hg _ m_285) (fun _ h9 => h9) rfl d_CL_isReplaceable_11 ?_
    refine lv_iload_n hx hb d_CL_isReplaceable_14 rfl (lv_at hl 2 rfl) ?_
    obtain ⟨hk0, hk⟩ := hk
    refine zz_callV (va_runV (As := [.int x2]) (rest := [.int x3]) ⟨hx, hb, hml, hown, hg⟩ (c_Te_kindOf l D ty h px σ x2 hk0) ⟨callB_of 1 hg (gw_C m_434) rfl rfl rfl (hg _ m_3) (hg _ m_431) hd_Te_kindOf ⟨Nat.le_of_ble_eq_true rfl, Nat.le_of_ble_eq_true rfl⟩, hg _ m_432, hg _ m_433⟩ (zz_preV hN hK hP 6 rfl rfl) rfl rfl hl.1 rfl (lv_room (Nat.le_of_ble_eq_true rfl)) d_CL_isReplaceable_15 ⟨Nat.le_of_ble_eq_true rfl, Nat.le_of_ble_eq_true rfl⟩) ?_
    refine lv_icmp_ne (tgt := 62) hx hb d_CL_isReplaceable_18 (by decide) (fun hc => ?_) (fun hc => ?_)
    · have hv := hv.trans (if_neg hc)
      have hk := hk.2 hc
      exact B62 _  hv hk (lv_sub hl [] rfl)
    · have hv := hv.trans (if_pos hc)
      have hk := hk.1 hc
      refine lv_iload_n hx hb d_CL_isReplaceable_21 rfl (lv_at hl 3 rfl) ?_
      refine lv_bipush (v := 10) hx hb d_CL_isReplaceable_22 (by decide) ?_
      refine lv_icmp_eq (tgt := 62) hx hb d_CL_isReplaceable_24 (by decide) (fun hc => ?_) (fun hc => ?_)
      · have hv := hv.trans (if_pos hc)
        have hk := hk.1 hc
        exact B62 _  hv hk (lv_sub hl [] rfl)
      · have hv := hv.trans (if_neg hc)
        have hk := hk.2 hc
        refine lv_aload_n hx hb d_CL_isReplaceable_27 rfl (lv_at hl 0 rfl) ?_
        refine va_get (v := .ref (h 6)) (C := R_CL) (T := T_CL) (N := 11) hx hb hg in_CL hown hK hP 0 rfl rfl 1 (by decide) (hg _ m_285) (fun _ h9 => h9) rfl d_CL_isReplaceable_28 ?_
        refine lv_iload_n hx hb d_CL_isReplaceable_31 rfl (lv_at hl 1 rfl) ?_
        obtain ⟨hk0, hk⟩ := hk
        refine zz_callV (va_runV (As := [.int x1]) (rest := []) ⟨hx, hb, hml, hown, hg⟩ (c_Te_firstOf l D ty h px σ x1 hk0) ⟨callB_of 1 hg (gw_C m_447) rfl rfl rfl (hg _ m_3) (hg _ m_444) hd_Te_firstOf ⟨Nat.le_of_ble_eq_true rfl, Nat.le_of_ble_eq_true rfl⟩, hg _ m_445, hg _ m_446⟩ (zz_preV hN hK hP 6 rfl rfl) rfl rfl hl.1 rfl (lv_room (Nat.le_of_ble_eq_true rfl)) d_CL_isReplaceable_32 ⟨Nat.le_of_ble_eq_true rfl, Nat.le_of_ble_eq_true rfl⟩) ?_
        refine lv_iconst (v := -1) hx hb d_CL_isReplaceable_35 (by decide) ?_
        refine lv_icmp_eq (tgt := 62) hx hb d_CL_isReplaceable_36 (by decide) (fun hc => ?_) (fun hc => ?_)
        · have hv := hv.trans (if_pos hc)
          have hk := hk.1 hc
          exact B62 _  hv hk (lv_sub hl [] rfl)
        · have hv := hv.trans (if_neg hc)
          have hk := hk.2 hc
          refine lv_aload_n hx hb d_CL_isReplaceable_39 rfl (lv_at hl 0 rfl) ?_
          refine va_get (v := .ref (h 6)) (C := R_CL) (T := T_CL) (N := 11) hx hb hg in_CL hown hK hP 0 rfl rfl 1 (by decide) (hg _ m_285) (fun _ h9 => h9) rfl d_CL_isReplaceable_40 ?_
          refine lv_iload_n hx hb d_CL_isReplaceable_43 rfl (lv_at hl 1 rfl) ?_
          obtain ⟨hk0, hk⟩ := hk
          refine zz_callV (va_runV (As := [.int x1]) (rest := []) ⟨hx, hb, hml, hown, hg⟩ (c_Te_nameOf l D ty h px σ x1 hk0) ⟨callB_of 1 hg (gw_C m_455) rfl rfl rfl (hg _ m_3) (hg _ m_452) hd_Te_nameOf ⟨Nat.le_of_ble_eq_true rfl, Nat.le_of_ble_eq_true rfl⟩, hg _ m_453, hg _ m_454⟩ (zz_preV hN hK hP 6 rfl rfl) rfl rfl hl.1 rfl (lv_room (Nat.le_of_ble_eq_true rfl)) d_CL_isReplaceable_44 ⟨Nat.le_of_ble_eq_true rfl, Nat.le_of_ble_eq_true rfl⟩) ?_
          refine lv_aload_n hx hb d_CL_isReplaceable_47 rfl (lv_at hl 0 rfl) ?_
          refine va_get (v := .ref (h 6)) (C := R_CL) (T := T_CL) (N := 11) hx hb hg in_CL hown hK hP 0 rfl rfl 1 (by decide) (hg _ m_285) (fun _ h9 => h9) rfl d_CL_isReplaceable_48 ?_
          refine lv_iload_n hx hb d_CL_isReplaceable_51 rfl (lv_at hl 2 rfl) ?_
          obtain ⟨hk0, hk⟩ := hk
          refine zz_callV (va_runV (As := [.int x2]) (rest := [.int (f_Te_nameOf x1 σ)]) ⟨hx, hb, hml, hown, hg⟩ (c_Te_nameOf l D ty h px σ x2 hk0) ⟨callB_of 1 hg (gw_C m_455) rfl rfl rfl (hg _ m_3) (hg _ m_452) hd_Te_nameOf ⟨Nat.le_of_ble_eq_true rfl, Nat.le_of_ble_eq_true rfl⟩, hg _ m_453, hg _ m_454⟩ (zz_preV hN hK hP 6 rfl rfl) rfl rfl hl.1 rfl (lv_room (Nat.le_of_ble_eq_true rfl)) d_CL_isReplaceable_52 ⟨Nat.le_of_ble_eq_true rfl, Nat.le_of_ble_eq_true rfl⟩) ?_
          refine lv_icmp_ne (tgt := 62) hx hb d_CL_isReplaceable_55 (by decide) (fun hc => ?_) (fun hc => ?_)
          · have hv := hv.trans (if_neg hc)
            have hk := hk.2 hc
            exact B62 _  hv hk (lv_sub hl [] rfl)
          · have hv := hv.trans (if_pos hc)
            have hk := hk.1 hc
            refine lv_iconst (v := 1) hx hb d_CL_isReplaceable_58 (by decide) ?_
            refine lv_goto (tgt := 63) hx hb d_CL_isReplaceable_59 (by decide) ?_
            exact B63 _ 1 hv hk (lv_sub hl [] rfl)
  unfold f_CL_isReplaceable at hv
  unfold k_CL_isReplaceable at hk
  refine lv_aload_n hx hb d_CL_isReplaceable_0 rfl (lv_at hl 0 rfl) ?_
  refine va_get (v := .ref (h 6)) (C := R_CL) (T := T_CL) (N := 11) hx hb hg in_CL hown hK hP 0 rfl rfl 1 (by decide) (hg _ m_285) (fun _ h9 => h9) rfl d_CL_isReplaceable_1 ?_
  refine lv_iload_n hx hb d_CL_isReplaceable_4 rfl (lv_at hl 1 rfl) ?_
  obtain ⟨hk0, hk⟩ := hk
  refine zz_callV (va_runV (As := [.int a1]) (rest := []) ⟨hx, hb, hml, hown, hg⟩ (c_Te_kindOf l D ty h px σ a1 hk0) ⟨callB_of 1 hg (gw_C m_434) rfl rfl rfl (hg _ m_3) (hg _ m_431) hd_Te_kindOf ⟨Nat.le_of_ble_eq_true rfl, Nat.le_of_ble_eq_true rfl⟩, hg _ m_432, hg _ m_433⟩ (zz_preV hN hK hP 6 rfl rfl) rfl rfl hl.1 rfl (lv_room (Nat.le_of_ble_eq_true rfl)) d_CL_isReplaceable_5 ⟨Nat.le_of_ble_eq_true rfl, Nat.le_of_ble_eq_true rfl⟩) ?_
  refine lv_istore_n (lv' := [(3, .int (f_Te_kindOf a1 σ)), (0, .ref (h 0)), (1, .int a1), (2, .int a2)]) hx hb d_CL_isReplaceable_8 rfl hl (by decide) rfl (fun ls hl => ?_)
  exact B9 _ a1 a2 (f_Te_kindOf a1 σ) hv hk (lv_sub hl [1, 2, 3, 0] rfl)

-- ClauseLedger.joinDifference(II)Z
abbrev b_CL_joinDifference : ByteArray := prog_1_method_34_code
def y_CL_joinDifference : MethodName := ⟨"ClauseLedger", "joinDifference", "(II)Z"⟩
theorem hd_CL_joinDifference : y_CL_joinDifference.cls ≠ "java/lang/invoke/MethodHandle" ∧ y_CL_joinDifference.cls ≠ "java/lang/invoke/VarHandle" ∧ (parseMethodDescriptor y_CL_joinDifference.desc).map (fun d => d.parameters.length) = some 2 := by decide +kernel
theorem d_CL_joinDifference_0 : decode b_CL_joinDifference 0 = .ok (.iload_n 1, 1) := by decide +kernel
theorem d_CL_joinDifference_1 : decode b_CL_joinDifference 1 = .ok (.iload_n 2, 1) := by decide +kernel
theorem d_CL_joinDifference_2 : decode b_CL_joinDifference 2 = .ok (.if_icmp .ne 5, 3) := by decide +kernel
theorem d_CL_joinDifference_5 : decode b_CL_joinDifference 5 = .ok (.iconst 1, 1) := by decide +kernel
theorem d_CL_joinDifference_6 : decode b_CL_joinDifference 6 = .ok (.ireturn, 1) := by decide +kernel
theorem d_CL_joinDifference_7 : decode b_CL_joinDifference 7 = .ok (.aload_n 0, 1) := by decide +kernel
theorem d_CL_joinDifference_8 : decode b_CL_joinDifference 8 = .ok (.getfield 19, 3) := by decide +kernel
theorem d_CL_joinDifference_11 : decode b_CL_joinDifference 11 = .ok (.iload_n 1, 1) := by decide +kernel
theorem d_CL_joinDifference_12 : decode b_CL_joinDifference 12 = .ok (.invokevirtual 212, 3) := by decide +kernel
theorem d_CL_joinDifference_15 : decode b_CL_joinDifference 15 = .ok (.aload_n 0, 1) := by decide +kernel
theorem d_CL_joinDifference_16 : decode b_CL_joinDifference 16 = .ok (.getfield 19, 3) := by decide +kernel
theorem d_CL_joinDifference_19 : decode b_CL_joinDifference 19 = .ok (.iload_n 2, 1) := by decide +kernel
theorem d_CL_joinDifference_20 : decode b_CL_joinDifference 20 = .ok (.invokevirtual 212, 3) := by decide +kernel
theorem d_CL_joinDifference_23 : decode b_CL_joinDifference 23 = .ok (.if_icmp .eq 5, 3) := by decide +kernel
theorem d_CL_joinDifference_26 : decode b_CL_joinDifference 26 = .ok (.iconst 0, 1) := by decide +kernel
theorem d_CL_joinDifference_27 : decode b_CL_joinDifference 27 = .ok (.ireturn, 1) := by decide +kernel
theorem d_CL_joinDifference_28 : decode b_CL_joinDifference 28 = .ok (.aload_n 0, 1) := by decide +kernel
theorem d_CL_joinDifference_29 : decode b_CL_joinDifference 29 = .ok (.getfield 65, 3) := by decide +kernel
theorem d_CL_joinDifference_32 : decode b_CL_joinDifference 32 = .ok (.aload_n 0, 1) := by decide +kernel
theorem d_CL_joinDifference_33 : decode b_CL_joinDifference 33 = .ok (.getfield 19, 3) := by decide +kernel
theorem d_CL_joinDifference_36 : decode b_CL_joinDifference 36 = .ok (.aload_n 0, 1) := by decide +kernel
theorem d_CL_joinDifference_37 : decode b_CL_joinDifference 37 = .ok (.getfield 19, 3) := by decide +kernel
theorem d_CL_joinDifference_40 : decode b_CL_joinDifference 40 = .ok (.iload_n 1, 1) := by decide +kernel
theorem d_CL_joinDifference_41 : decode b_CL_joinDifference 41 = .ok (.iload_n 2, 1) := by decide +kernel
theorem d_CL_joinDifference_42 : decode b_CL_joinDifference 42 = .ok (.invokevirtual 169, 3) := by decide +kernel
theorem d_CL_joinDifference_45 : decode b_CL_joinDifference 45 = .ok (.invokevirtual 182, 3) := by decide +kernel
theorem d_CL_joinDifference_48 : decode b_CL_joinDifference 48 = .ok (.invokevirtual 141, 3) := by decide +kernel
theorem d_CL_joinDifference_51 : decode b_CL_joinDifference 51 = .ok (.iconst 1, 1) := by decide +kernel
theorem d_CL_joinDifference_52 : decode b_CL_joinDifference 52 = .ok (.ireturn, 1) := by decide +kernel
def f_CL_joinDifference_51 (σ : St) : Int32 × St := (1, σ)
def k_CL_joinDifference_51 (σ : St) : Prop := True
def f_CL_joinDifference_48 (s0 : Int32) (σ : St) : Int32 × St := f_CL_joinDifference_51 (f_Ro_join s0 σ)
def k_CL_joinDifference_48 (s0 : Int32) (σ : St) : Prop := (k_Ro_join s0 σ) ∧ (k_CL_joinDifference_51 (f_Ro_join s0 σ))
def f_CL_joinDifference_45 (s0 : Int32) (σ : St) : Int32 × St := f_CL_joinDifference_48 ((f_Te_opposite s0 σ).1) ((f_Te_opposite s0 σ).2)
def k_CL_joinDifference_45 (s0 : Int32) (σ : St) : Prop := (k_Te_opposite s0 σ) ∧ (k_CL_joinDifference_48 ((f_Te_opposite s0 σ).1) ((f_Te_opposite s0 σ).2))
def f_CL_joinDifference (a1 : Int32) (a2 : Int32) (σ : St) : Int32 × St := if a1 = a2 then (1, σ) else (if (f_Te_sortOf a1 σ) = (f_Te_sortOf a2 σ) then (f_CL_joinDifference_45 ((f_Te_equation a1 a2 σ).1) ((f_Te_equation a1 a2 σ).2)) else (0, σ))
def k_CL_joinDifference (a1 : Int32) (a2 : Int32) (σ : St) : Prop := (a1 = a2 → True) ∧ (¬ a1 = a2 → ((k_Te_sortOf a1 σ) ∧ ((k_Te_sortOf a2 σ) ∧ (((f_Te_sortOf a1 σ) = (f_Te_sortOf a2 σ) → ((k_Te_equation a1 a2 σ) ∧ (k_CL_joinDifference_45 ((f_Te_equation a1 a2 σ).1) ((f_Te_equation a1 a2 σ).2)))) ∧ (¬ (f_Te_sortOf a1 σ) = (f_Te_sortOf a2 σ) → True)))))
abbrev w_CL_joinDifference : List Cond := Cond.code y_CL_joinDifference b_CL_joinDifference 3 (some .boolean) :: gw
abbrev rm_CL_joinDifference : Room := { frames := 4, cells := 0, slots := 0, locals := 98 }
set_option maxHeartbeats 4000000 in
set_option maxRecDepth 100000 in
theorem c_CL_joinDifference (l : Launch) (D : va_G) (ty : Nat → ClassId) (h : Nat → Nat) (px : va_W) (σ : St) (sz : Nat) (a1 : Int32) (a2 : Int32) (hk : k_CL_joinDifference a1 a2 σ) : Met l y_CL_joinDifference w_CL_joinDifference rm_CL_joinDifference (va_Pc [.ref (h 0), .int a1, .int a2] (fun U => U.heap.size = sz ∧ va_P D classes (Wc ty h σ px) U.heap ∧ va_K D classes (Ta ty) U ∧ NW U ∧ va_D (fun _ => True) (Wc ty h σ px))) (va_Qi (fun r (u : St) => (r, u) = f_CL_joinDifference a1 a2 σ) (fun u t => va_P D classes (Wc ty h u px) t.heap) (va_A (Wc ty h σ px) sz)) 0 0 (va_A (Wc ty h σ px) sz) := by
  refine Met.ofW (cc := b_CL_joinDifference) (maxL := 3) (ret := (some .boolean)) (by decide) rfl ?_
  intro p e s m args below meth c s₁ B hml hv
  obtain ⟨ha, hsz, hP, hK, hN, hD0⟩ := hv
  have hx := B.exec
  have hb := B.bytes
  have hr := B.returns
  have hg : ∀ w ∈ gw, w.before args s = true := fun w h9 => atoms_spec (ws := w_CL_joinDifference) B.pre w (List.mem_cons_of_mem _ h9)
  have hown : s.vm.findClass "ClauseLedger" = some m.cls := findClass_of_methodNamed B.named
  have hlocks := B.notSynchronized
  subst hsz
  have hD := hD0.self (sz := s.heap.size)
  generalize hAe : va_A (Wc ty h σ px) s.heap.size = A at hD ⊢
  have hA : ∀ q : Nat, s.heap.size ≤ q → A q := fun q h9 => by rw [← hAe]; exact Or.inr h9
  have hS : va_S A s.heap s.heap [] := va_S.rf
  have he : entryFrame m args 3 = entryFrame m ([.ref (h 0), .int a1, .int a2] : List Value).toArray 3 := by rw [ha]
  rw [he, lg_entry_eq]
  have hl := lv_entry ([.ref (h 0), .int a1, .int a2]) (n := 3) (Nat.le_of_ble_eq_true rfl)
  generalize (lg_sl ([.ref (h 0), .int a1, .int a2]) ++ List.replicate (3 - (lg_sl ([.ref (h 0), .int a1, .int a2])).length) Slot.unset).toArray = ls at hl ⊢
  have hl : lv_has ls 3 [(0, .ref (h 0)), (1, .int a1), (2, .int a2)] := hl
  generalize hv : f_CL_joinDifference a1 a2 σ = v
  replace hv := hv.symm
  have B51 : ∀ (H : Heap) (locs : List Loc) (ls : Array Slot) (σ : St), v = f_CL_joinDifference_51 σ → k_CL_joinDifference_51 σ → lv_has ls 3 [] → va_P D classes (Wc ty h σ px) H → va_D A (Wc ty h σ px) → va_S A s.heap H locs → W p l e (headSpec w_CL_joinDifference rm_CL_joinDifference).room s m args below meth c H locs 0 0 (MQ below (va_Qi (fun r (u : St) => (r, u) = v) (fun u t => va_P D classes (Wc ty h u px) t.heap) A) args s 0 0 A) (F0 m 51 ls []) := by
    intro H locs ls σ hv hk hl hP hD hS
    unfold f_CL_joinDifference_51 at hv
    unfold k_CL_joinDifference_51 at hk
    refine lv_iconst (v := 1) hx hb d_CL_joinDifference_51 (by decide) ?_
    exact W.zret hx hb hr rfl (fun t ht hW => ⟨⟨_, _, rfl, hv.symm, by dsimp only; rw [ht]; exact hP⟩, hS.F ht⟩) hS.2.2 d_CL_joinDifference_52
  have B48 : ∀ (H : Heap) (locs : List Loc) (ls : Array Slot) (s0 : Int32) (σ : St), v = f_CL_joinDifference_48 s0 σ → k_CL_joinDifference_48 s0 σ → lv_has ls 3 [] → va_P D classes (Wc ty h σ px) H → va_D A (Wc ty h σ px) → va_S A s.heap H locs → W p l e (headSpec w_CL_joinDifference rm_CL_joinDifference).room s m args below meth c H locs 0 0 (MQ below (va_Qi (fun r (u : St) => (r, u) = v) (fun u t => va_P D classes (Wc ty h u px) t.heap) A) args s 0 0 A) (F0 m 48 ls [.int s0, .ref (h 25)]) := by
    intro H locs ls s0 σ hv hk hl hP hD hS
    unfold f_CL_joinDifference_48 at hv
    unfold k_CL_joinDifference_48 at hk
    obtain ⟨hk0, hk⟩ := hk
    refine va_callv (va_runV (As := [.int s0]) (rest := []) ⟨hx, hb, hml, hown, hg⟩ (c_Ro_join l D ty h px σ H.size s0 hk0) ⟨callB_of 1 hg (gw_C m_939) rfl rfl rfl (hg _ m_10) (hg _ m_936) hd_Ro_join ⟨Nat.le_of_ble_eq_true rfl, Nat.le_of_ble_eq_true rfl⟩, hg _ m_937, hg _ m_938⟩ (zz_preVW hN hK hP hD 25 rfl rfl) rfl rfl hl.1 rfl (lv_room (Nat.le_of_ble_eq_true rfl)) d_CL_joinDifference_48 ⟨Nat.le_of_ble_eq_true rfl, Nat.le_of_ble_eq_true rfl⟩) hS (fun q _ h => zz_free hD hS hA q h) (zz_free hD hS hA) (fun u48 t H locs ht hvm hp hP1 hz hk1 hS => ?_)
    rw [ht] at hP1
    rw [← hp] at hv hk
    have hD : va_D A (Wc ty h u48 px) := zz_D hD rfl
    have hP := hP1
    exact B51 _ _ _  u48 hv hk (lv_sub hl [] rfl) hP hD hS
  have B45 : ∀ (H : Heap) (locs : List Loc) (ls : Array Slot) (s0 : Int32) (σ : St), v = f_CL_joinDifference_45 s0 σ → k_CL_joinDifference_45 s0 σ → lv_has ls 3 [] → va_P D classes (Wc ty h σ px) H → va_D A (Wc ty h σ px) → va_S A s.heap H locs → W p l e (headSpec w_CL_joinDifference rm_CL_joinDifference).room s m args below meth c H locs 0 0 (MQ below (va_Qi (fun r (u : St) => (r, u) = v) (fun u t => va_P D classes (Wc ty h u px) t.heap) A) args s 0 0 A) (F0 m 45 ls [.int s0, .ref (h 6), .ref (h 25)]) := by
    intro H locs ls s0 σ hv hk hl hP hD hS
    unfold f_CL_joinDifference_45 at hv
    unfold k_CL_joinDifference_45 at hk
    obtain ⟨hk0, hk⟩ := hk
    refine va_calli (va_runV (As := [.int s0]) (rest := [.ref (h 25)]) ⟨hx, hb, hml, hown, hg⟩ (c_Te_opposite l D ty h px σ H.size s0 hk0) ⟨callB_of 1 hg (gw_C m_1014) rfl rfl rfl (hg _ m_3) (hg _ m_1011) hd_Te_opposite ⟨Nat.le_of_ble_eq_true rfl, Nat.le_of_ble_eq_true rfl⟩, hg _ m_1012, hg _ m_1013⟩ (zz_preVW hN hK hP hD 6 rfl rfl) rfl rfl hl.1 rfl (lv_room (Nat.le_of_ble_eq_true rfl)) d_CL_joinDifference_45 ⟨Nat.le_of_ble_eq_true rfl, Nat.le_of_ble_eq_true rfl⟩) hS (fun q _ h => zz_free hD hS hA q h) (zz_free hD hS hA) (fun r45 u45 t H locs ht hvm hp hP1 hz hk1 hS => ?_)
    rw [ht] at hP1
    rw [← hp] at hv hk
    have hD : va_D A (Wc ty h u45 px) := zz_D hD rfl
    have hP := hP1
    exact B48 _ _ _ r45 u45 hv hk (lv_sub hl [] rfl) hP hD hS
  unfold f_CL_joinDifference at hv
  unfold k_CL_joinDifference at hk
  refine lv_iload_n hx hb d_CL_joinDifference_0 rfl (lv_at hl 1 rfl) ?_
  refine lv_iload_n hx hb d_CL_joinDifference_1 rfl (lv_at hl 2 rfl) ?_
  refine lv_icmp_ne (tgt := 7) hx hb d_CL_joinDifference_2 (by decide) (fun hc => ?_) (fun hc => ?_)
  · have hv := hv.trans (if_neg hc)
    have hk := hk.2 hc
    refine lv_aload_n hx hb d_CL_joinDifference_7 rfl (lv_at hl 0 rfl) ?_
    refine va_get (v := .ref (h 6)) (C := R_CL) (T := T_CL) (N := 11) hx hb hg in_CL hown hK hP 0 rfl rfl 1 (by decide) (hg _ m_285) (fun _ h9 => h9) rfl d_CL_joinDifference_8 ?_
    refine lv_iload_n hx hb d_CL_joinDifference_11 rfl (lv_at hl 1 rfl) ?_
    obtain ⟨hk0, hk⟩ := hk
    refine zz_callV (va_runV (As := [.int a1]) (rest := []) ⟨hx, hb, hml, hown, hg⟩ (c_Te_sortOf l D ty h px σ a1 hk0) ⟨callB_of 1 hg (gw_C m_439) rfl rfl rfl (hg _ m_3) (hg _ m_436) hd_Te_sortOf ⟨Nat.le_of_ble_eq_true rfl, Nat.le_of_ble_eq_true rfl⟩, hg _ m_437, hg _ m_438⟩ (zz_preV hN hK hP 6 rfl rfl) rfl rfl hl.1 rfl (lv_room (Nat.le_of_ble_eq_true rfl)) d_CL_joinDifference_12 ⟨Nat.le_of_ble_eq_true rfl, Nat.le_of_ble_eq_true rfl⟩) ?_
    refine lv_aload_n hx hb d_CL_joinDifference_15 rfl (lv_at hl 0 rfl) ?_
    refine va_get (v := .ref (h 6)) (C := R_CL) (T := T_CL) (N := 11) hx hb hg in_CL hown hK hP 0 rfl rfl 1 (by decide) (hg _ m_285) (fun _ h9 => h9) rfl d_CL_joinDifference_16 ?_
    refine lv_iload_n hx hb d_CL_joinDifference_19 rfl (lv_at hl 2 rfl) ?_
    obtain ⟨hk0, hk⟩ := hk
    refine zz_callV (va_runV (As := [.int a2]) (rest := [.int (f_Te_sortOf a1 σ)]) ⟨hx, hb, hml, hown, hg⟩ (c_Te_sortOf l D ty h px σ a2 hk0) ⟨callB_of 1 hg (gw_C m_439) rfl rfl rfl (hg _ m_3) (hg _ m_436) hd_Te_sortOf ⟨Nat.le_of_ble_eq_true rfl, Nat.le_of_ble_eq_true rfl⟩, hg _ m_437, hg _ m_438⟩ (zz_preV hN hK hP 6 rfl rfl) rfl rfl hl.1 rfl (lv_room (Nat.le_of_ble_eq_true rfl)) d_CL_joinDifference_20 ⟨Nat.le_of_ble_eq_true rfl, Nat.le_of_ble_eq_true rfl⟩) ?_
    refine lv_icmp_eq (tgt := 28) hx hb d_CL_joinDifference_23 (by decide) (fun hc => ?_) (fun hc => ?_)
    · have hv := hv.trans (if_pos hc)
      have hk := hk.1 hc
      refine lv_aload_n hx hb d_CL_joinDifference_28 rfl (lv_at hl 0 rfl) ?_
      refine va_get (v := .ref (h 25)) (C := R_CL) (T := T_CL) (N := 11) hx hb hg in_CL hown hK hP 0 rfl rfl 7 (by decide) (hg _ m_291) (fun _ h9 => h9) rfl d_CL_joinDifference_29 ?_
      refine lv_aload_n hx hb d_CL_joinDifference_32 rfl (lv_at hl 0 rfl) ?_
      refine va_get (v := .ref (h 6)) (C := R_CL) (T := T_CL) (N := 11) hx hb hg in_CL hown hK hP 0 rfl rfl 1 (by decide) (hg _ m_285) (fun _ h9 => h9) rfl d_CL_joinDifference_33 ?_
      refine lv_aload_n hx hb d_CL_joinDifference_36 rfl (lv_at hl 0 rfl) ?_
      refine va_get (v := .ref (h 6)) (C := R_CL) (T := T_CL) (N := 11) hx hb hg in_CL hown hK hP 0 rfl rfl 1 (by decide) (hg _ m_285) (fun _ h9 => h9) rfl d_CL_joinDifference_37 ?_
      refine lv_iload_n hx hb d_CL_joinDifference_40 rfl (lv_at hl 1 rfl) ?_
      refine lv_iload_n hx hb d_CL_joinDifference_41 rfl (lv_at hl 2 rfl) ?_
      obtain ⟨hk0, hk⟩ := hk
      refine va_calli (va_runV (As := [.int a1, .int a2]) (rest := [.ref (h 6), .ref (h 25)]) ⟨hx, hb, hml, hown, hg⟩ (c_Te_equation l D ty h px σ s.heap.size a1 a2 hk0) ⟨callB_of 2 hg (gw_C m_1038) rfl rfl rfl (hg _ m_3) (hg _ m_1035) hd_Te_equation ⟨Nat.le_of_ble_eq_true rfl, Nat.le_of_ble_eq_true rfl⟩, hg _ m_1036, hg _ m_1037⟩ (zz_preVW hN hK hP hD 6 rfl rfl) rfl rfl hl.1 rfl (lv_room (Nat.le_of_ble_eq_true rfl)) d_CL_joinDifference_42 ⟨Nat.le_of_ble_eq_true rfl, Nat.le_of_ble_eq_true rfl⟩) hS (fun q _ h => zz_free hD hS hA q h) (zz_free hD hS hA) (fun r42 u42 t H locs ht hvm hp hP1 hz hk1 hS => ?_)
      rw [ht] at hP1
      rw [← hp] at hv hk
      have hD : va_D A (Wc ty h u42 px) := zz_D hD rfl
      have hP := hP1
      exact B45 _ _ _ r42 u42 hv hk (lv_sub hl [] rfl) hP hD hS
    · have hv := hv.trans (if_neg hc)
      have hk := hk.2 hc
      refine lv_iconst (v := 0) hx hb d_CL_joinDifference_26 (by decide) ?_
      exact W.zret hx hb hr rfl (fun t ht hW => ⟨⟨_, _, rfl, hv.symm, by dsimp only; rw [ht]; exact hP⟩, hS.F ht⟩) hS.2.2 d_CL_joinDifference_27
  · have hv := hv.trans (if_pos hc)
    have hk := hk.1 hc
    refine lv_iconst (v := 1) hx hb d_CL_joinDifference_5 (by decide) ?_
    exact W.zret hx hb hr rfl (fun t ht hW => ⟨⟨_, _, rfl, hv.symm, by dsimp only; rw [ht]; exact hP⟩, hS.F ht⟩) hS.2.2 d_CL_joinDifference_6

