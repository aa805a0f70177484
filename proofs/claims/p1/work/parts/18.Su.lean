abbrev Ws (ty : Nat → ClassId) (h : Nat → Nat) (σ : St) (px : va_W) : va_W :=
  (h 0, .inr (8, [.ref (h 1), .ref (h 2), .ref (h 3), .int (σ.1 0 3), .int (σ.1 0 4)])) ::
  (h 1, .inl (ty 0, (σ.1 99 0).toNatClampNeg, .inl (σ.1 1))) ::
  (h 2, .inl (ty 1, (σ.1 99 0).toNatClampNeg, .inr (.inl (σ.2 2)))) ::
  (h 3, .inl (ty 1, (σ.1 99 0).toNatClampNeg, .inr (.inl (σ.2 3)))) :: px
-- ClauseLedger.gcd(JJ)J
abbrev b_CL_gcds : ByteArray := prog_1_method_43_code
def y_CL_gcds : MethodName := ⟨"ClauseLedger", "gcd", "(JJ)J"⟩
theorem hd_CL_gcds : y_CL_gcds.cls ≠ "java/lang/invoke/MethodHandle" ∧ y_CL_gcds.cls ≠ "java/lang/invoke/VarHandle" ∧ (parseMethodDescriptor y_CL_gcds.desc).map (fun d => d.parameters.length) = some 2 := by decide +kernel
theorem d_CL_gcds_0 : decode b_CL_gcds 0 = .ok (.lload_n 0, 1) := by decide +kernel
theorem d_CL_gcds_1 : decode b_CL_gcds 1 = .ok (.lconst 0, 1) := by decide +kernel
theorem d_CL_gcds_2 : decode b_CL_gcds 2 = .ok (.lcmp, 1) := by decide +kernel
theorem d_CL_gcds_3 : decode b_CL_gcds 3 = .ok (.ifCond .ge 8, 3) := by decide +kernel
theorem d_CL_gcds_6 : decode b_CL_gcds 6 = .ok (.lload_n 0, 1) := by decide +kernel
theorem d_CL_gcds_7 : decode b_CL_gcds 7 = .ok (.lneg, 1) := by decide +kernel
theorem d_CL_gcds_8 : decode b_CL_gcds 8 = .ok (.goto 4, 3) := by decide +kernel
theorem d_CL_gcds_11 : decode b_CL_gcds 11 = .ok (.lload_n 0, 1) := by decide +kernel
theorem d_CL_gcds_12 : decode b_CL_gcds 12 = .ok (.lstore 4, 2) := by decide +kernel
theorem d_CL_gcds_14 : decode b_CL_gcds 14 = .ok (.lload_n 2, 1) := by decide +kernel
theorem d_CL_gcds_15 : decode b_CL_gcds 15 = .ok (.lconst 0, 1) := by decide +kernel
theorem d_CL_gcds_16 : decode b_CL_gcds 16 = .ok (.lcmp, 1) := by decide +kernel
theorem d_CL_gcds_17 : decode b_CL_gcds 17 = .ok (.ifCond .ge 8, 3) := by decide +kernel
theorem d_CL_gcds_20 : decode b_CL_gcds 20 = .ok (.lload_n 2, 1) := by decide +kernel
theorem d_CL_gcds_21 : decode b_CL_gcds 21 = .ok (.lneg, 1) := by decide +kernel
theorem d_CL_gcds_22 : decode b_CL_gcds 22 = .ok (.goto 4, 3) := by decide +kernel
theorem d_CL_gcds_25 : decode b_CL_gcds 25 = .ok (.lload_n 2, 1) := by decide +kernel
theorem d_CL_gcds_26 : decode b_CL_gcds 26 = .ok (.lstore 6, 2) := by decide +kernel
theorem d_CL_gcds_28 : decode b_CL_gcds 28 = .ok (.iconst 0, 1) := by decide +kernel
theorem d_CL_gcds_29 : decode b_CL_gcds 29 = .ok (.istore 8, 2) := by decide +kernel
theorem d_CL_gcds_31 : decode b_CL_gcds 31 = .ok (.iload 8, 2) := by decide +kernel
theorem d_CL_gcds_33 : decode b_CL_gcds 33 = .ok (.sipush 200, 3) := by decide +kernel
theorem d_CL_gcds_36 : decode b_CL_gcds 36 = .ok (.if_icmp .ge 31, 3) := by decide +kernel
theorem d_CL_gcds_39 : decode b_CL_gcds 39 = .ok (.lload 6, 2) := by decide +kernel
theorem d_CL_gcds_41 : decode b_CL_gcds 41 = .ok (.lconst 0, 1) := by decide +kernel
theorem d_CL_gcds_42 : decode b_CL_gcds 42 = .ok (.lcmp, 1) := by decide +kernel
theorem d_CL_gcds_43 : decode b_CL_gcds 43 = .ok (.ifCond .eq 24, 3) := by decide +kernel
theorem d_CL_gcds_46 : decode b_CL_gcds 46 = .ok (.lload 4, 2) := by decide +kernel
theorem d_CL_gcds_48 : decode b_CL_gcds 48 = .ok (.lload 6, 2) := by decide +kernel
theorem d_CL_gcds_50 : decode b_CL_gcds 50 = .ok (.lrem, 1) := by decide +kernel
theorem d_CL_gcds_51 : decode b_CL_gcds 51 = .ok (.lstore 9, 2) := by decide +kernel
theorem d_CL_gcds_53 : decode b_CL_gcds 53 = .ok (.lload 6, 2) := by decide +kernel
theorem d_CL_gcds_55 : decode b_CL_gcds 55 = .ok (.lstore 4, 2) := by decide +kernel
theorem d_CL_gcds_57 : decode b_CL_gcds 57 = .ok (.lload 9, 2) := by decide +kernel
theorem d_CL_gcds_59 : decode b_CL_gcds 59 = .ok (.lstore 6, 2) := by decide +kernel
theorem d_CL_gcds_61 : decode b_CL_gcds 61 = .ok (.iinc 8 1, 3) := by decide +kernel
theorem d_CL_gcds_64 : decode b_CL_gcds 64 = .ok (.goto (-33), 3) := by decide +kernel
theorem d_CL_gcds_67 : decode b_CL_gcds 67 = .ok (.lload 4, 2) := by decide +kernel
theorem d_CL_gcds_69 : decode b_CL_gcds 69 = .ok (.lreturn, 1) := by decide +kernel
def f_CL_gcds_67 (x4 : Int64) (σ : St) : Int64 := x4
def k_CL_gcds_67 (x4 : Int64) (σ : St) : Prop := True
def f_CL_gcds_31 : Nat → Int64 → Int64 → Int32 → St → Int64
  | 0, _, _, _, σ => 0
  | n + 1, x4, x6, x8, σ => if 200 ≤ x8 then (f_CL_gcds_67 x4 σ) else (if (lg_cmp x6 0) = 0 then (f_CL_gcds_67 x4 σ) else ((f_CL_gcds_31 n) x6 (x4 - x4 / x6 * x6) (x8 + 1) σ))
def k_CL_gcds_31 : Nat → Int64 → Int64 → Int32 → St → Prop
  | 0, _, _, _, _ => False
  | n + 1, x4, x6, x8, σ => (200 ≤ x8 → (k_CL_gcds_67 x4 σ)) ∧ (¬ 200 ≤ x8 → (((lg_cmp x6 0) = 0 → (k_CL_gcds_67 x4 σ)) ∧ (¬ (lg_cmp x6 0) = 0 → ((¬ (x6 : Int64) = 0) ∧ ((k_CL_gcds_31 n) x6 (x4 - x4 / x6 * x6) (x8 + 1) σ)))))
def f_CL_gcds_26 (x4 : Int64) (s0 : Int64) (σ : St) : Int64 := f_CL_gcds_31 1000 x4 s0 0 σ
def k_CL_gcds_26 (x4 : Int64) (s0 : Int64) (σ : St) : Prop := k_CL_gcds_31 1000 x4 s0 0 σ
def f_CL_gcds_12 (x2 : Int64) (s0 : Int64) (σ : St) : Int64 := if 0 ≤ (lg_cmp x2 0) then (f_CL_gcds_26 s0 x2 σ) else (f_CL_gcds_26 s0 (-x2) σ)
def k_CL_gcds_12 (x2 : Int64) (s0 : Int64) (σ : St) : Prop := (0 ≤ (lg_cmp x2 0) → (k_CL_gcds_26 s0 x2 σ)) ∧ (¬ 0 ≤ (lg_cmp x2 0) → (k_CL_gcds_26 s0 (-x2) σ))
def f_CL_gcds (a0 : Int64) (a2 : Int64) (σ : St) : Int64 := if 0 ≤ (lg_cmp a0 0) then (f_CL_gcds_12 a2 a0 σ) else (f_CL_gcds_12 a2 (-a0) σ)
def k_CL_gcds (a0 : Int64) (a2 : Int64) (σ : St) : Prop := (0 ≤ (lg_cmp a0 0) → (k_CL_gcds_12 a2 a0 σ)) ∧ (¬ 0 ≤ (lg_cmp a0 0) → (k_CL_gcds_12 a2 (-a0) σ))
abbrev w_CL_gcds : List Cond := Cond.code y_CL_gcds b_CL_gcds 11 (some .long) :: gw
abbrev rm_CL_gcds : Room := { frames := 0, cells := 0, slots := 0, locals := 0 }
set_option maxHeartbeats 4000000 in
set_option maxRecDepth 100000 in
theorem c_CL_gcds (l : Launch) (D : va_G) (ty : Nat → ClassId) (h : Nat → Nat) (px : va_W) (sa : Nat → Nat) (σ : St) (a0 : Int64) (a2 : Int64) (hk : k_CL_gcds a0 a2 σ) : Met l y_CL_gcds w_CL_gcds rm_CL_gcds (va_Pc [.long a0, .long a2] (fun U => va_P D classes (Ws ty h σ px) U.heap ∧ va_K D classes (Ta ty) U ∧ NW U ∧ MK sa (fun _ => False) U U.heap)) (k2_QcV (.long (f_CL_gcds a0 a2 σ))) 0 0 (fun _ => False) := by
  refine Met.ofW (cc := b_CL_gcds) (maxL := 11) (ret := (some .long)) (by decide) rfl ?_
  intro p e s m args below meth c s₁ B hml hv
  obtain ⟨ha, hP, hK, hN, hM⟩ := hv
  have hx := B.exec
  have hb := B.bytes
  have hr := B.returns
  have hg : ∀ w ∈ gw, w.before args s = true := fun w h9 => atoms_spec (ws := w_CL_gcds) B.pre w (List.mem_cons_of_mem _ h9)
  have hown : s.vm.findClass "ClauseLedger" = some m.cls := findClass_of_methodNamed B.named
  have hlocks := B.notSynchronized
  have he : entryFrame m args 11 = entryFrame m ([.long a0, .long a2] : List Value).toArray 11 := by rw [ha]
  rw [he, lg_entry_eq]
  have hl := lv_entry ([.long a0, .long a2]) (n := 11) (Nat.le_of_ble_eq_true rfl)
  generalize (lg_sl ([.long a0, .long a2]) ++ List.replicate (11 - (lg_sl ([.long a0, .long a2])).length) Slot.unset).toArray = ls at hl ⊢
  have hl : lv_has ls 11 [(0, .long a0), (2, .long a2)] := hl
  generalize hv : f_CL_gcds a0 a2 σ = v
  replace hv := hv.symm
  have B67 : ∀ (ls : Array Slot) (x4 : Int64), v = f_CL_gcds_67 x4 σ → k_CL_gcds_67 x4 σ → lv_has ls 11 [(4, .long x4)] → W p l e (headSpec w_CL_gcds rm_CL_gcds).room s m args below meth c s.heap [] 0 0 (MQ below (k2_QcV (.long v)) args s 0 0 (fun _ => False)) (F0 m 67 ls []) := by
    intro ls x4 hv hk hl
    unfold f_CL_gcds_67 at hv
    unfold k_CL_gcds_67 at hk
    refine lv_lload hx hb d_CL_gcds_67 (lv_at hl 0 rfl) ?_
    exact W.lret hx hb hr (fun t ht hW => ⟨by rw [hv], ht⟩) (fun q h => nomatch h) d_CL_gcds_69
  have B31 : ∀ (n31 : Nat) (ls : Array Slot) (x4 : Int64) (x6 : Int64) (x8 : Int32), v = f_CL_gcds_31 n31 x4 x6 x8 σ → k_CL_gcds_31 n31 x4 x6 x8 σ → lv_has ls 11 [(4, .long x4), (6, .long x6), (8, .int x8)] → W p l e (headSpec w_CL_gcds rm_CL_gcds).room s m args below meth c s.heap [] 0 0 (MQ below (k2_QcV (.long v)) args s 0 0 (fun _ => False)) (F0 m 31 ls []) := by
    intro n31
    induction n31 with
    | zero => intro ls x4 x6 x8 hv hk hl; exact hk.elim
    | succ n31 ih31 =>
      intro ls x4 x6 x8 hv hk hl
      rw [f_CL_gcds_31] at hv
      rw [k_CL_gcds_31] at hk
      refine lv_iload hx hb d_CL_gcds_31 (lv_at hl 2 rfl) ?_
      refine lv_sipush (v := 200) hx hb d_CL_gcds_33 (by decide) ?_
      refine lv_icmp_ge (tgt := 67) hx hb d_CL_gcds_36 (by decide) (fun hc => ?_) (fun hc => ?_)
      · have hv := hv.trans (if_pos hc)
        have hk := hk.1 hc
        exact B67 _ x4 hv hk (lv_sub hl [0] rfl)
      · have hv := hv.trans (if_neg hc)
        have hk := hk.2 hc
        refine lv_lload hx hb d_CL_gcds_39 (lv_at hl 1 rfl) ?_
        refine lv_lconst (v := 0) hx hb d_CL_gcds_41 (by decide) ?_
        refine W.lcmp hx hb d_CL_gcds_42 ?_
        refine lv_if_eq (tgt := 67) hx hb d_CL_gcds_43 (by decide) (fun hc => ?_) (fun hc => ?_)
        · have hv := hv.trans (if_pos hc)
          have hk := hk.1 hc
          exact B67 _ x4 hv hk (lv_sub hl [0] rfl)
        · have hv := hv.trans (if_neg hc)
          have hk := hk.2 hc
          refine lv_lload hx hb d_CL_gcds_46 (lv_at hl 0 rfl) ?_
          refine lv_lload hx hb d_CL_gcds_48 (lv_at hl 1 rfl) ?_
          obtain ⟨hk0, hk⟩ := hk
          refine lv_lrem hx hb d_CL_gcds_50 hk0 ?_
          refine lv_lstore (lv' := [(9, .long (x4 - x4 / x6 * x6)), (4, .long x4), (6, .long x6), (8, .int x8)]) hx hb d_CL_gcds_51 hl (by decide) rfl (fun ls hl => ?_)
          refine lv_lload hx hb d_CL_gcds_53 (lv_at hl 2 rfl) ?_
          refine lv_lstore (lv' := [(4, .long x6), (9, .long (x4 - x4 / x6 * x6)), (6, .long x6), (8, .int x8)]) hx hb d_CL_gcds_55 hl (by decide) rfl (fun ls hl => ?_)
          refine lv_lload hx hb d_CL_gcds_57 (lv_at hl 1 rfl) ?_
          refine lv_lstore (lv' := [(6, .long (x4 - x4 / x6 * x6)), (4, .long x6), (9, .long (x4 - x4 / x6 * x6)), (8, .int x8)]) hx hb d_CL_gcds_59 hl (by decide) rfl (fun ls hl => ?_)
          refine lv_iinc (k := 3) (v := x8 + 1) (lv' := [(8, .int (x8 + 1)), (6, .long (x4 - x4 / x6 * x6)), (4, .long x6), (9, .long (x4 - x4 / x6 * x6))]) hx hb d_CL_gcds_61 hl rfl (by first | rfl | simp [lit1, litm1]) (by decide) rfl (fun ls hl => ?_)
          refine lv_goto (tgt := 31) hx hb d_CL_gcds_64 (by decide) ?_
          exact ih31 _ x6 (x4 - x4 / x6 * x6) (x8 + 1) hv hk (lv_sub hl [2, 1, 0] rfl)
  have B26 : ∀ (ls : Array Slot) (x4 : Int64) (s0 : Int64), v = f_CL_gcds_26 x4 s0 σ → k_CL_gcds_26 x4 s0 σ → lv_has ls 11 [(4, .long x4)] → W p l e (headSpec w_CL_gcds rm_CL_gcds).room s m args below meth c s.heap [] 0 0 (MQ below (k2_QcV (.long v)) args s 0 0 (fun _ => False)) (F0 m 26 ls [.long s0]) := by
    intro ls x4 s0 hv hk hl
    unfold f_CL_gcds_26 at hv
    unfold k_CL_gcds_26 at hk
    refine lv_lstore (lv' := [(6, .long s0), (4, .long x4)]) hx hb d_CL_gcds_26 hl (by decide) rfl (fun ls hl => ?_)
    refine lv_iconst (v := 0) hx hb d_CL_gcds_28 (by decide) ?_
    refine lv_istore (lv' := [(8, .int 0), (6, .long s0), (4, .long x4)]) hx hb d_CL_gcds_29 hl (by decide) rfl (fun ls hl => ?_)
    exact B31 1000 _ x4 s0 0 hv hk (lv_sub hl [2, 1, 0] rfl)
  have B12 : ∀ (ls : Array Slot) (x2 : Int64) (s0 : Int64), v = f_CL_gcds_12 x2 s0 σ → k_CL_gcds_12 x2 s0 σ → lv_has ls 11 [(2, .long x2)] → W p l e (headSpec w_CL_gcds rm_CL_gcds).room s m args below meth c s.heap [] 0 0 (MQ below (k2_QcV (.long v)) args s 0 0 (fun _ => False)) (F0 m 12 ls [.long s0]) := by
    intro ls x2 s0 hv hk hl
    unfold f_CL_gcds_12 at hv
    unfold k_CL_gcds_12 at hk
    refine lv_lstore (lv' := [(4, .long s0), (2, .long x2)]) hx hb d_CL_gcds_12 hl (by decide) rfl (fun ls hl => ?_)
    refine lv_lload_n hx hb d_CL_gcds_14 rfl (lv_at hl 1 rfl) ?_
    refine lv_lconst (v := 0) hx hb d_CL_gcds_15 (by decide) ?_
    refine W.lcmp hx hb d_CL_gcds_16 ?_
    refine lv_if_ge (tgt := 25) hx hb d_CL_gcds_17 (by decide) (fun hc => ?_) (fun hc => ?_)
    · have hv := hv.trans (if_pos hc)
      have hk := hk.1 hc
      refine lv_lload_n hx hb d_CL_gcds_25 rfl (lv_at hl 1 rfl) ?_
      exact B26 _ s0 x2 hv hk (lv_sub hl [0] rfl)
    · have hv := hv.trans (if_neg hc)
      have hk := hk.2 hc
      refine lv_lload_n hx hb d_CL_gcds_20 rfl (lv_at hl 1 rfl) ?_
      refine lv_lneg hx hb d_CL_gcds_21 ?_
      refine lv_goto (tgt := 26) hx hb d_CL_gcds_22 (by decide) ?_
      exact B26 _ s0 (-x2) hv hk (lv_sub hl [0] rfl)
  unfold f_CL_gcds at hv
  unfold k_CL_gcds at hk
  refine lv_lload_n hx hb d_CL_gcds_0 rfl (lv_at hl 0 rfl) ?_
  refine lv_lconst (v := 0) hx hb d_CL_gcds_1 (by decide) ?_
  refine W.lcmp hx hb d_CL_gcds_2 ?_
  refine lv_if_ge (tgt := 11) hx hb d_CL_gcds_3 (by decide) (fun hc => ?_) (fun hc => ?_)
  · have hv := hv.trans (if_pos hc)
    have hk := hk.1 hc
    refine lv_lload_n hx hb d_CL_gcds_11 rfl (lv_at hl 0 rfl) ?_
    exact B12 _ a2 a0 hv hk (lv_sub hl [1] rfl)
  · have hv := hv.trans (if_neg hc)
    have hk := hk.2 hc
    refine lv_lload_n hx hb d_CL_gcds_6 rfl (lv_at hl 0 rfl) ?_
    refine lv_lneg hx hb d_CL_gcds_7 ?_
    refine lv_goto (tgt := 12) hx hb d_CL_gcds_8 (by decide) ?_
    exact B12 _ a2 (-a0) hv hk (lv_sub hl [1] rfl)

-- java/lang/Long.compare(JJ)I
abbrev b_JL_compares : ByteArray := prog_21_method_42_code
def y_JL_compares : MethodName := ⟨"java/lang/Long", "compare", "(JJ)I"⟩
theorem hd_JL_compares : y_JL_compares.cls ≠ "java/lang/invoke/MethodHandle" ∧ y_JL_compares.cls ≠ "java/lang/invoke/VarHandle" ∧ (parseMethodDescriptor y_JL_compares.desc).map (fun d => d.parameters.length) = some 2 := by decide +kernel
theorem d_JL_compares_0 : decode b_JL_compares 0 = .ok (.lload_n 0, 1) := by decide +kernel
theorem d_JL_compares_1 : decode b_JL_compares 1 = .ok (.lload_n 2, 1) := by decide +kernel
theorem d_JL_compares_2 : decode b_JL_compares 2 = .ok (.lcmp, 1) := by decide +kernel
theorem d_JL_compares_3 : decode b_JL_compares 3 = .ok (.ifCond .ge 7, 3) := by decide +kernel
theorem d_JL_compares_6 : decode b_JL_compares 6 = .ok (.iconst (-1), 1) := by decide +kernel
theorem d_JL_compares_7 : decode b_JL_compares 7 = .ok (.goto 14, 3) := by decide +kernel
theorem d_JL_compares_10 : decode b_JL_compares 10 = .ok (.lload_n 0, 1) := by decide +kernel
theorem d_JL_compares_11 : decode b_JL_compares 11 = .ok (.lload_n 2, 1) := by decide +kernel
theorem d_JL_compares_12 : decode b_JL_compares 12 = .ok (.lcmp, 1) := by decide +kernel
theorem d_JL_compares_13 : decode b_JL_compares 13 = .ok (.ifCond .ne 7, 3) := by decide +kernel
theorem d_JL_compares_16 : decode b_JL_compares 16 = .ok (.iconst 0, 1) := by decide +kernel
theorem d_JL_compares_17 : decode b_JL_compares 17 = .ok (.goto 4, 3) := by decide +kernel
theorem d_JL_compares_20 : decode b_JL_compares 20 = .ok (.iconst 1, 1) := by decide +kernel
theorem d_JL_compares_21 : decode b_JL_compares 21 = .ok (.ireturn, 1) := by decide +kernel
def f_JL_compares_21 (s0 : Int32) (σ : St) : Int32 := s0
def k_JL_compares_21 (s0 : Int32) (σ : St) : Prop := True
def f_JL_compares (a0 : Int64) (a2 : Int64) (σ : St) : Int32 := if 0 ≤ (lg_cmp a0 a2) then (if (lg_cmp a0 a2) = 0 then (f_JL_compares_21 0 σ) else (f_JL_compares_21 1 σ)) else (f_JL_compares_21 (-1) σ)
def k_JL_compares (a0 : Int64) (a2 : Int64) (σ : St) : Prop := (0 ≤ (lg_cmp a0 a2) → (((lg_cmp a0 a2) = 0 → (k_JL_compares_21 0 σ)) ∧ (¬ (lg_cmp a0 a2) = 0 → (k_JL_compares_21 1 σ)))) ∧ (¬ 0 ≤ (lg_cmp a0 a2) → (k_JL_compares_21 (-1) σ))
abbrev w_JL_compares : List Cond := Cond.code y_JL_compares b_JL_compares 4 (some .int) :: gw
abbrev rm_JL_compares : Room := { frames := 0, cells := 0, slots := 0, locals := 0 }
set_option maxHeartbeats 4000000 in
set_option maxRecDepth 100000 in
theorem c_JL_compares (l : Launch) (D : va_G) (ty : Nat → ClassId) (h : Nat → Nat) (px : va_W) (sa : Nat → Nat) (σ : St) (a0 : Int64) (a2 : Int64) (hk : k_JL_compares a0 a2 σ) : Met l y_JL_compares w_JL_compares rm_JL_compares (va_Pc [.long a0, .long a2] (fun U => va_P D classes (Ws ty h σ px) U.heap ∧ va_K D classes (Ta ty) U ∧ NW U ∧ MK sa (fun _ => False) U U.heap)) (k2_QcV (.int (f_JL_compares a0 a2 σ))) 0 0 (fun _ => False) := by
  refine Met.ofWF (cc := b_JL_compares) (maxL := 4) (ret := (some .int)) (by decide +kernel) rfl ?_
  intro p e s m args below meth c s₁ B hml hv
  obtain ⟨ha, hP, hK, hN, hM⟩ := hv
  have hx := B.exec
  have hb := B.bytes
  have hr := B.returns
  have hg : ∀ w ∈ gw, w.before args s = true := fun w h9 => atoms_spec (ws := w_JL_compares) B.pre w (List.mem_cons_of_mem _ h9)
  have hown : s.vm.findClass "java/lang/Long" = some m.cls := findClass_of_methodNamed B.named
  have hlocks := B.notSynchronized
  have he : entryFrame m args 4 = entryFrame m ([.long a0, .long a2] : List Value).toArray 4 := by rw [ha]
  rw [he, lg_entry_eq]
  have hl := lv_entry ([.long a0, .long a2]) (n := 4) (Nat.le_of_ble_eq_true rfl)
  generalize (lg_sl ([.long a0, .long a2]) ++ List.replicate (4 - (lg_sl ([.long a0, .long a2])).length) Slot.unset).toArray = ls at hl ⊢
  have hl : lv_has ls 4 [(0, .long a0), (2, .long a2)] := hl
  generalize hv : f_JL_compares a0 a2 σ = v
  replace hv := hv.symm
  have B21 : ∀ (ls : Array Slot) (s0 : Int32), v = f_JL_compares_21 s0 σ → k_JL_compares_21 s0 σ → lv_has ls 4 [] → W p l e (headSpec w_JL_compares rm_JL_compares).room s m args below meth c s.heap [] 0 0 (MQ below (k2_QcV (.int v)) args s 0 0 (fun _ => False)) (F0 m 21 ls [.int s0]) := by
    intro ls s0 hv hk hl
    unfold f_JL_compares_21 at hv
    unfold k_JL_compares_21 at hk
    exact W.iret hx hb hr (fun t ht hW => ⟨by rw [hv], ht⟩) (fun q h => nomatch h) d_JL_compares_21
  unfold f_JL_compares at hv
  unfold k_JL_compares at hk
  refine lv_lload_n hx hb d_JL_compares_0 rfl (lv_at hl 0 rfl) ?_
  refine lv_lload_n hx hb d_JL_compares_1 rfl (lv_at hl 1 rfl) ?_
  refine W.lcmp hx hb d_JL_compares_2 ?_
  refine lv_if_ge (tgt := 10) hx hb d_JL_compares_3 (by decide) (fun hc => ?_) (fun hc => ?_)
  · have hv := hv.trans (if_pos hc)
    have hk := hk.1 hc
    refine lv_lload_n hx hb d_JL_compares_10 rfl (lv_at hl 0 rfl) ?_
    refine lv_lload_n hx hb d_JL_compares_11 rfl (lv_at hl 1 rfl) ?_
    refine W.lcmp hx hb d_JL_compares_12 ?_
    refine lv_if_ne (tgt := 20) hx hb d_JL_compares_13 (by decide) (fun hc => ?_) (fun hc => ?_)
    · have hv := hv.trans (if_neg hc)
      have hk := hk.2 hc
      refine lv_iconst (v := 1) hx hb d_JL_compares_20 (by decide) ?_
      exact B21 _ 1 hv hk (lv_sub hl [] rfl)
    · have hv := hv.trans (if_pos hc)
      have hk := hk.1 hc
      refine lv_iconst (v := 0) hx hb d_JL_compares_16 (by decide) ?_
      refine lv_goto (tgt := 21) hx hb d_JL_compares_17 (by decide) ?_
      exact B21 _ 0 hv hk (lv_sub hl [] rfl)
  · have hv := hv.trans (if_neg hc)
    have hk := hk.2 hc
    refine lv_iconst (v := -1) hx hb d_JL_compares_6 (by decide) ?_
    refine lv_goto (tgt := 21) hx hb d_JL_compares_7 (by decide) ?_
    exact B21 _ (-1) hv hk (lv_sub hl [] rfl)

-- ClauseLedger$Sum.isBeyond(JJ)Z
abbrev b_Su_isBeyonds : ByteArray := prog_10_method_10_code
def y_Su_isBeyonds : MethodName := ⟨"ClauseLedger$Sum", "isBeyond", "(JJ)Z"⟩
theorem hd_Su_isBeyonds : y_Su_isBeyonds.cls ≠ "java/lang/invoke/MethodHandle" ∧ y_Su_isBeyonds.cls ≠ "java/lang/invoke/VarHandle" ∧ (parseMethodDescriptor y_Su_isBeyonds.desc).map (fun d => d.parameters.length) = some 2 := by decide +kernel
theorem d_Su_isBeyonds_0 : decode b_Su_isBeyonds 0 = .ok (.lload_n 0, 1) := by decide +kernel
theorem d_Su_isBeyonds_1 : decode b_Su_isBeyonds 1 = .ok (.ldc2_w 52, 3) := by decide +kernel
theorem d_Su_isBeyonds_4 : decode b_Su_isBeyonds 4 = .ok (.lcmp, 1) := by decide +kernel
theorem d_Su_isBeyonds_5 : decode b_Su_isBeyonds 5 = .ok (.ifCond .lt 19, 3) := by decide +kernel
theorem d_Su_isBeyonds_8 : decode b_Su_isBeyonds 8 = .ok (.lload_n 0, 1) := by decide +kernel
theorem d_Su_isBeyonds_9 : decode b_Su_isBeyonds 9 = .ok (.ldc2_w 54, 3) := by decide +kernel
theorem d_Su_isBeyonds_12 : decode b_Su_isBeyonds 12 = .ok (.lcmp, 1) := by decide +kernel
theorem d_Su_isBeyonds_13 : decode b_Su_isBeyonds 13 = .ok (.ifCond .gt 11, 3) := by decide +kernel
theorem d_Su_isBeyonds_16 : decode b_Su_isBeyonds 16 = .ok (.lload_n 2, 1) := by decide +kernel
theorem d_Su_isBeyonds_17 : decode b_Su_isBeyonds 17 = .ok (.ldc2_w 54, 3) := by decide +kernel
theorem d_Su_isBeyonds_20 : decode b_Su_isBeyonds 20 = .ok (.lcmp, 1) := by decide +kernel
theorem d_Su_isBeyonds_21 : decode b_Su_isBeyonds 21 = .ok (.ifCond .le 7, 3) := by decide +kernel
theorem d_Su_isBeyonds_24 : decode b_Su_isBeyonds 24 = .ok (.iconst 1, 1) := by decide +kernel
theorem d_Su_isBeyonds_25 : decode b_Su_isBeyonds 25 = .ok (.goto 4, 3) := by decide +kernel
theorem d_Su_isBeyonds_28 : decode b_Su_isBeyonds 28 = .ok (.iconst 0, 1) := by decide +kernel
theorem d_Su_isBeyonds_29 : decode b_Su_isBeyonds 29 = .ok (.ireturn, 1) := by decide +kernel
def f_Su_isBeyonds_29 (s0 : Int32) (σ : St) : Int32 := s0
def k_Su_isBeyonds_29 (s0 : Int32) (σ : St) : Prop := (narrow .boolean (.int s0) = .int s0) ∧ True
def f_Su_isBeyonds_24 (σ : St) : Int32 := f_Su_isBeyonds_29 1 σ
def k_Su_isBeyonds_24 (σ : St) : Prop := k_Su_isBeyonds_29 1 σ
def f_Su_isBeyonds (a0 : Int64) (a2 : Int64) (σ : St) : Int32 := if (lg_cmp a0 (-1000000000)) < 0 then (f_Su_isBeyonds_24 σ) else (if 0 < (lg_cmp a0 1000000000) then (f_Su_isBeyonds_24 σ) else (if (lg_cmp a2 1000000000) ≤ 0 then (f_Su_isBeyonds_29 0 σ) else (f_Su_isBeyonds_24 σ)))
def k_Su_isBeyonds (a0 : Int64) (a2 : Int64) (σ : St) : Prop := ((lg_cmp a0 (-1000000000)) < 0 → (k_Su_isBeyonds_24 σ)) ∧ (¬ (lg_cmp a0 (-1000000000)) < 0 → ((0 < (lg_cmp a0 1000000000) → (k_Su_isBeyonds_24 σ)) ∧ (¬ 0 < (lg_cmp a0 1000000000) → (((lg_cmp a2 1000000000) ≤ 0 → (k_Su_isBeyonds_29 0 σ)) ∧ (¬ (lg_cmp a2 1000000000) ≤ 0 → (k_Su_isBeyonds_24 σ))))))
abbrev w_Su_isBeyonds : List Cond := Cond.code y_Su_isBeyonds b_Su_isBeyonds 4 (some .boolean) :: gw
abbrev rm_Su_isBeyonds : Room := { frames := 0, cells := 0, slots := 0, locals := 0 }
set_option maxHeartbeats 4000000 in
set_option maxRecDepth 100000 in
theorem c_Su_isBeyonds (l : Launch) (D : va_G) (ty : Nat → ClassId) (h : Nat → Nat) (px : va_W) (sa : Nat → Nat) (σ : St) (a0 : Int64) (a2 : Int64) (hk : k_Su_isBeyonds a0 a2 σ) : Met l y_Su_isBeyonds w_Su_isBeyonds rm_Su_isBeyonds (va_Pc [.long a0, .long a2] (fun U => va_P D classes (Ws ty h σ px) U.heap ∧ va_K D classes (Ta ty) U ∧ NW U ∧ MK sa (fun _ => False) U U.heap)) (k2_QcV (.int (f_Su_isBeyonds a0 a2 σ))) 0 0 (fun _ => False) := by
  refine Met.ofW (cc := b_Su_isBeyonds) (maxL := 4) (ret := (some .boolean)) (by decide) rfl ?_
  intro p e s m args below meth c s₁ B hml hv
  obtain ⟨ha, hP, hK, hN, hM⟩ := hv
  have hx := B.exec
  have hb := B.bytes
  have hr := B.returns
  have hg : ∀ w ∈ gw, w.before args s = true := fun w h9 => atoms_spec (ws := w_Su_isBeyonds) B.pre w (List.mem_cons_of_mem _ h9)
  have hown : s.vm.findClass "ClauseLedger$Sum" = some m.cls := findClass_of_methodNamed B.named
  have hlocks := B.notSynchronized
  have he : entryFrame m args 4 = entryFrame m ([.long a0, .long a2] : List Value).toArray 4 := by rw [ha]
  rw [he, lg_entry_eq]
  have hl := lv_entry ([.long a0, .long a2]) (n := 4) (Nat.le_of_ble_eq_true rfl)
  generalize (lg_sl ([.long a0, .long a2]) ++ List.replicate (4 - (lg_sl ([.long a0, .long a2])).length) Slot.unset).toArray = ls at hl ⊢
  have hl : lv_has ls 4 [(0, .long a0), (2, .long a2)] := hl
  generalize hv : f_Su_isBeyonds a0 a2 σ = v
  replace hv := hv.symm
  have B29 : ∀ (ls : Array Slot) (s0 : Int32), v = f_Su_isBeyonds_29 s0 σ → k_Su_isBeyonds_29 s0 σ → lv_has ls 4 [] → W p l e (headSpec w_Su_isBeyonds rm_Su_isBeyonds).room s m args below meth c s.heap [] 0 0 (MQ below (k2_QcV (.int v)) args s 0 0 (fun _ => False)) (F0 m 29 ls [.int s0]) := by
    intro ls s0 hv hk hl
    unfold f_Su_isBeyonds_29 at hv
    unfold k_Su_isBeyonds_29 at hk
    obtain ⟨hk0, hk⟩ := hk
    exact W.zret hx hb hr hk0 (fun t ht hW => ⟨by rw [hv], ht⟩) (fun q h => nomatch h) d_Su_isBeyonds_29
  have B24 : ∀ (ls : Array Slot), v = f_Su_isBeyonds_24 σ → k_Su_isBeyonds_24 σ → lv_has ls 4 [] → W p l e (headSpec w_Su_isBeyonds rm_Su_isBeyonds).room s m args below meth c s.heap [] 0 0 (MQ below (k2_QcV (.int v)) args s 0 0 (fun _ => False)) (F0 m 24 ls []) := by
    intro ls hv hk hl
    unfold f_Su_isBeyonds_24 at hv
    unfold k_Su_isBeyonds_24 at hk
    refine lv_iconst (v := 1) hx hb d_Su_isBeyonds_24 (by decide) ?_
    refine lv_goto (tgt := 29) hx hb d_Su_isBeyonds_25 (by decide) ?_
    exact B29 _ 1 hv hk (lv_sub hl [] rfl)
  unfold f_Su_isBeyonds at hv
  unfold k_Su_isBeyonds at hk
  refine lv_lload_n hx hb d_Su_isBeyonds_0 rfl (lv_at hl 0 rfl) ?_
  refine lv_ldc2 (v := (-1000000000)) hx hb hown (hg _ m_1128) d_Su_isBeyonds_1 ?_
  refine W.lcmp hx hb d_Su_isBeyonds_4 ?_
  refine lv_if_lt (tgt := 24) hx hb d_Su_isBeyonds_5 (by decide) (fun hc => ?_) (fun hc => ?_)
  · have hv := hv.trans (if_pos hc)
    have hk := hk.1 hc
    exact B24 _  hv hk (lv_sub hl [] rfl)
  · have hv := hv.trans (if_neg hc)
    have hk := hk.2 hc
    refine lv_lload_n hx hb d_Su_isBeyonds_8 rfl (lv_at hl 0 rfl) ?_
    refine lv_ldc2 (v := 1000000000) hx hb hown (hg _ m_1129) d_Su_isBeyonds_9 ?_
    refine W.lcmp hx hb d_Su_isBeyonds_12 ?_
    refine lv_if_gt (tgt := 24) hx hb d_Su_isBeyonds_13 (by decide) (fun hc => ?_) (fun hc => ?_)
    · have hv := hv.trans (if_pos hc)
      have hk := hk.1 hc
      exact B24 _  hv hk (lv_sub hl [] rfl)
    · have hv := hv.trans (if_neg hc)
      have hk := hk.2 hc
      refine lv_lload_n hx hb d_Su_isBeyonds_16 rfl (lv_at hl 1 rfl) ?_
      refine lv_ldc2 (v := 1000000000) hx hb hown (hg _ m_1129) d_Su_isBeyonds_17 ?_
      refine W.lcmp hx hb d_Su_isBeyonds_20 ?_
      refine lv_if_le (tgt := 28) hx hb d_Su_isBeyonds_21 (by decide) (fun hc => ?_) (fun hc => ?_)
      · have hv := hv.trans (if_pos hc)
        have hk := hk.1 hc
        refine lv_iconst (v := 0) hx hb d_Su_isBeyonds_28 (by decide) ?_
        exact B29 _ 0 hv hk (lv_sub hl [] rfl)
      · have hv := hv.trans (if_neg hc)
        have hk := hk.2 hc
        exact B24 _  hv hk (lv_sub hl [] rfl)

-- ClauseLedger$Sum.size()I
abbrev b_Su_sizes : ByteArray := prog_10_method_2_code
def y_Su_sizes : MethodName := ⟨"ClauseLedger$Sum", "size", "()I"⟩
theorem hd_Su_sizes : y_Su_sizes.cls ≠ "java/lang/invoke/MethodHandle" ∧ y_Su_sizes.cls ≠ "java/lang/invoke/VarHandle" ∧ (parseMethodDescriptor y_Su_sizes.desc).map (fun d => d.parameters.length) = some 0 := by decide +kernel
theorem d_Su_sizes_0 : decode b_Su_sizes 0 = .ok (.aload_n 0, 1) := by decide +kernel
theorem d_Su_sizes_1 : decode b_Su_sizes 1 = .ok (.getfield 9, 3) := by decide +kernel
theorem d_Su_sizes_4 : decode b_Su_sizes 4 = .ok (.ireturn, 1) := by decide +kernel
def f_Su_sizes (σ : St) : Int32 := σ.1 0 3
def k_Su_sizes (σ : St) : Prop := True
abbrev w_Su_sizes : List Cond := Cond.code y_Su_sizes b_Su_sizes 1 (some .int) :: gw
abbrev rm_Su_sizes : Room := { frames := 0, cells := 0, slots := 0, locals := 0 }
set_option maxHeartbeats 4000000 in
set_option maxRecDepth 100000 in
theorem c_Su_sizes (l : Launch) (D : va_G) (ty : Nat → ClassId) (h : Nat → Nat) (px : va_W) (sa : Nat → Nat) (σ : St) (hk : k_Su_sizes σ) : Met l y_Su_sizes w_Su_sizes rm_Su_sizes (va_Pc [.ref (h 0)] (fun U => va_P D classes (Ws ty h σ px) U.heap ∧ va_K D classes (Ta ty) U ∧ NW U ∧ MK sa (fun _ => False) U U.heap)) (k2_QcV (.int (f_Su_sizes σ))) 0 0 (fun _ => False) := by
  refine Met.ofW (cc := b_Su_sizes) (maxL := 1) (ret := (some .int)) (by decide) rfl ?_
  intro p e s m args below meth c s₁ B hml hv
  obtain ⟨ha, hP, hK, hN, hM⟩ := hv
  have hx := B.exec
  have hb := B.bytes
  have hr := B.returns
  have hg : ∀ w ∈ gw, w.before args s = true := fun w h9 => atoms_spec (ws := w_Su_sizes) B.pre w (List.mem_cons_of_mem _ h9)
  have hown : s.vm.findClass "ClauseLedger$Sum" = some m.cls := findClass_of_methodNamed B.named
  have hlocks := B.notSynchronized
  have he : entryFrame m args 1 = entryFrame m ([.ref (h 0)] : List Value).toArray 1 := by rw [ha]
  rw [he, lg_entry_eq]
  have hl := lv_entry ([.ref (h 0)]) (n := 1) (Nat.le_of_ble_eq_true rfl)
  generalize (lg_sl ([.ref (h 0)]) ++ List.replicate (1 - (lg_sl ([.ref (h 0)])).length) Slot.unset).toArray = ls at hl ⊢
  have hl : lv_has ls 1 [(0, .ref (h 0))] := hl
  generalize hv : f_Su_sizes σ = v
  replace hv := hv.symm
  unfold f_Su_sizes at hv
  unfold k_Su_sizes at hk
  refine lv_aload_n hx hb d_Su_sizes_0 rfl (lv_at hl 0 rfl) ?_
  refine va_get (v := .int (σ.1 0 3)) (C := R_Su) (T := T_Su) (N := 5) hx hb hg in_Su hown hK hP 0 rfl rfl 3 (by decide) (hg _ m_194) (fun _ h9 => h9) rfl d_Su_sizes_1 ?_
  exact W.iret hx hb hr (fun t ht hW => ⟨by rw [hv], ht⟩) (fun q h => nomatch h) d_Su_sizes_4

-- ClauseLedger$Sum.isTooGreat()Z
abbrev b_Su_isTooGreats : ByteArray := prog_10_method_3_code
def y_Su_isTooGreats : MethodName := ⟨"ClauseLedger$Sum", "isTooGreat", "()Z"⟩
theorem hd_Su_isTooGreats : y_Su_isTooGreats.cls ≠ "java/lang/invoke/MethodHandle" ∧ y_Su_isTooGreats.cls ≠ "java/lang/invoke/VarHandle" ∧ (parseMethodDescriptor y_Su_isTooGreats.desc).map (fun d => d.parameters.length) = some 0 := by decide +kernel
theorem d_Su_isTooGreats_0 : decode b_Su_isTooGreats 0 = .ok (.aload_n 0, 1) := by decide +kernel
theorem d_Su_isTooGreats_1 : decode b_Su_isTooGreats 1 = .ok (.getfield 15, 3) := by decide +kernel
theorem d_Su_isTooGreats_4 : decode b_Su_isTooGreats 4 = .ok (.ireturn, 1) := by decide +kernel
def f_Su_isTooGreats (σ : St) : Int32 := σ.1 0 4
def k_Su_isTooGreats (σ : St) : Prop := (narrow .boolean (.int (σ.1 0 4)) = .int (σ.1 0 4)) ∧ True
abbrev w_Su_isTooGreats : List Cond := Cond.code y_Su_isTooGreats b_Su_isTooGreats 1 (some .boolean) :: gw
abbrev rm_Su_isTooGreats : Room := { frames := 0, cells := 0, slots := 0, locals := 0 }
set_option maxHeartbeats 4000000 in
set_option maxRecDepth 100000 in
theorem c_Su_isTooGreats (l : Launch) (D : va_G) (ty : Nat → ClassId) (h : Nat → Nat) (px : va_W) (sa : Nat → Nat) (σ : St) (hk : k_Su_isTooGreats σ) : Met l y_Su_isTooGreats w_Su_isTooGreats rm_Su_isTooGreats (va_Pc [.ref (h 0)] (fun U => va_P D classes (Ws ty h σ px) U.heap ∧ va_K D classes (Ta ty) U ∧ NW U ∧ MK sa (fun _ => False) U U.heap)) (k2_QcV (.int (f_Su_isTooGreats σ))) 0 0 (fun _ => False) := by
  refine Met.ofW (cc := b_Su_isTooGreats) (maxL := 1) (ret := (some .boolean)) (by decide) rfl ?_
  intro p e s m args below meth c s₁ B hml hv
  obtain ⟨ha, hP, hK, hN, hM⟩ := hv
  have hx := B.exec
  have hb := B.bytes
  have hr := B.returns
  have hg : ∀ w ∈ gw, w.before args s = true := fun w h9 => atoms_spec (ws := w_Su_isTooGreats) B.pre w (List.mem_cons_of_mem _ h9)
  have hown : s.vm.findClass "ClauseLedger$Sum" = some m.cls := findClass_of_methodNamed B.named
  have hlocks := B.notSynchronized
  have he : entryFrame m args 1 = entryFrame m ([.ref (h 0)] : List Value).toArray 1 := by rw [ha]
  rw [he, lg_entry_eq]
  have hl := lv_entry ([.ref (h 0)]) (n := 1) (Nat.le_of_ble_eq_true rfl)
  generalize (lg_sl ([.ref (h 0)]) ++ List.replicate (1 - (lg_sl ([.ref (h 0)])).length) Slot.unset).toArray = ls at hl ⊢
  have hl : lv_has ls 1 [(0, .ref (h 0))] := hl
  generalize hv : f_Su_isTooGreats σ = v
  replace hv := hv.symm
  unfold f_Su_isTooGreats at hv
  unfold k_Su_isTooGreats at hk
  refine lv_aload_n hx hb d_Su_isTooGreats_0 rfl (lv_at hl 0 rfl) ?_
  refine va_get (v := .int (σ.1 0 4)) (C := R_Su) (T := T_Su) (N := 5) hx hb hg in_Su hown hK hP 0 rfl rfl 4 (by decide) (hg _ m_195) (fun _ h9 => h9) rfl d_Su_isTooGreats_1 ?_
  obtain ⟨hk0, hk⟩ := hk
  exact W.zret hx hb hr hk0 (fun t ht hW => ⟨by rw [hv], ht⟩) (fun q h => nomatch h) d_Su_isTooGreats_4

-- ClauseLedger$Sum.wipe()V
abbrev b_Su_wipes : ByteArray := prog_10_method_4_code
def y_Su_wipes : MethodName := ⟨"ClauseLedger$Sum", "wipe", "()V"⟩
theorem hd_Su_wipes : y_Su_wipes.cls ≠ "java/lang/invoke/MethodHandle" ∧ y_Su_wipes.cls ≠ "java/lang/invoke/VarHandle" ∧ (parseMethodDescriptor y_Su_wipes.desc).map (fun d => d.parameters.length) = some 0 := by decide +kernel
theorem d_Su_wipes_0 : decode b_Su_wipes 0 = .ok (.aload_n 0, 1) := by decide +kernel
theorem d_Su_wipes_1 : decode b_Su_wipes 1 = .ok (.iconst 0, 1) := by decide +kernel
theorem d_Su_wipes_2 : decode b_Su_wipes 2 = .ok (.putfield 9, 3) := by decide +kernel
theorem d_Su_wipes_5 : decode b_Su_wipes 5 = .ok (.aload_n 0, 1) := by decide +kernel
theorem d_Su_wipes_6 : decode b_Su_wipes 6 = .ok (.iconst 0, 1) := by decide +kernel
theorem d_Su_wipes_7 : decode b_Su_wipes 7 = .ok (.putfield 15, 3) := by decide +kernel
theorem d_Su_wipes_10 : decode b_Su_wipes 10 = .ok (.return_, 1) := by decide +kernel
def f_Su_wipes_10 (σ : St) : St := σ
def k_Su_wipes_10 (σ : St) : Prop := True
def f_Su_wipes_5 (σ : St) : St := f_Su_wipes_10 (sF σ 0 4 0)
def k_Su_wipes_5 (σ : St) : Prop := k_Su_wipes_10 (sF σ 0 4 0)
def f_Su_wipes (σ : St) : St := f_Su_wipes_5 (sF σ 0 3 0)
def k_Su_wipes (σ : St) : Prop := k_Su_wipes_5 (sF σ 0 3 0)
abbrev w_Su_wipes : List Cond := Cond.code y_Su_wipes b_Su_wipes 1 none :: gw
abbrev rm_Su_wipes : Room := { frames := 0, cells := 0, slots := 0, locals := 0 }
set_option maxHeartbeats 4000000 in
set_option maxRecDepth 100000 in
theorem c_Su_wipes (l : Launch) (D : va_G) (ty : Nat → ClassId) (h : Nat → Nat) (px : va_W) (sa : Nat → Nat) (σ : St) (sz : Nat) (hk : k_Su_wipes σ) : Met l y_Su_wipes w_Su_wipes rm_Su_wipes (va_Pc [.ref (h 0)] (fun U => U.heap.size = sz ∧ va_P D classes (Ws ty h σ px) U.heap ∧ va_K D classes (Ta ty) U ∧ NW U ∧ MK sa (va_A (Ws ty h σ px) sz) U U.heap ∧ va_D (fun _ => True) (Ws ty h σ px))) (va_Qv (fun u : St => u = f_Su_wipes σ) (fun u t => va_P D classes (Ws ty h u px) t.heap) (va_A (Ws ty h σ px) sz)) 0 0 (va_A (Ws ty h σ px) sz) := by
  refine Met.ofW (cc := b_Su_wipes) (maxL := 1) (ret := none) (by decide) rfl ?_
  intro p e s m args below meth c s₁ B hml hv
  obtain ⟨ha, hsz, hP, hK, hN, hM, hD0⟩ := hv
  have hx := B.exec
  have hb := B.bytes
  have hr := B.returns
  have hg : ∀ w ∈ gw, w.before args s = true := fun w h9 => atoms_spec (ws := w_Su_wipes) B.pre w (List.mem_cons_of_mem _ h9)
  have hown : s.vm.findClass "ClauseLedger$Sum" = some m.cls := findClass_of_methodNamed B.named
  have hlocks := B.notSynchronized
  subst hsz
  have hD := hD0.self (sz := s.heap.size)
  generalize hAe : va_A (Ws ty h σ px) s.heap.size = A at hD hM ⊢
  have hA : ∀ q : Nat, s.heap.size ≤ q → A q := fun q h9 => by rw [← hAe]; exact Or.inr h9
  have hS : va_S A s.heap s.heap [] := va_S.rf
  have he : entryFrame m args 1 = entryFrame m ([.ref (h 0)] : List Value).toArray 1 := by rw [ha]
  rw [he, lg_entry_eq]
  have hl := lv_entry ([.ref (h 0)]) (n := 1) (Nat.le_of_ble_eq_true rfl)
  generalize (lg_sl ([.ref (h 0)]) ++ List.replicate (1 - (lg_sl ([.ref (h 0)])).length) Slot.unset).toArray = ls at hl ⊢
  have hl : lv_has ls 1 [(0, .ref (h 0))] := hl
  generalize hv : f_Su_wipes σ = v
  replace hv := hv.symm
  have B10 : ∀ (H : Heap) (locs : List Loc) (ls : Array Slot) (σ : St), v = f_Su_wipes_10 σ → k_Su_wipes_10 σ → lv_has ls 1 [] → va_P D classes (Ws ty h σ px) H → va_D A (Ws ty h σ px) → va_S A s.heap H locs → W p l e (headSpec w_Su_wipes rm_Su_wipes).room s m args below meth c H locs 0 0 (MQ below (va_Qv (fun u : St => u = v) (fun u t => va_P D classes (Ws ty h u px) t.heap) A) args s 0 0 A) (F0 m 10 ls []) := by
    intro H locs ls σ hv hk hl hP hD hS
    unfold f_Su_wipes_10 at hv
    unfold k_Su_wipes_10 at hk
    exact W.vret hx hb hr (fun t ht hW => ⟨⟨_, rfl, hv.symm, by dsimp only; rw [ht]; exact hP⟩, hS.F ht⟩) hS.2.2 d_Su_wipes_10
  have B5 : ∀ (H : Heap) (locs : List Loc) (ls : Array Slot) (σ : St), v = f_Su_wipes_5 σ → k_Su_wipes_5 σ → lv_has ls 1 [(0, .ref (h 0))] → va_P D classes (Ws ty h σ px) H → va_D A (Ws ty h σ px) → va_S A s.heap H locs → W p l e (headSpec w_Su_wipes rm_Su_wipes).room s m args below meth c H locs 0 0 (MQ below (va_Qv (fun u : St => u = v) (fun u t => va_P D classes (Ws ty h u px) t.heap) A) args s 0 0 A) (F0 m 5 ls []) := by
    intro H locs ls σ hv hk hl hP hD hS
    unfold f_Su_wipes_5 at hv
    unfold k_Su_wipes_5 at hk
    refine lv_aload_n hx hb d_Su_wipes_5 rfl (lv_at hl 0 rfl) ?_
    refine lv_iconst (v := 0) hx hb d_Su_wipes_6 (by decide) ?_
    refine va_put (v := .int 0) (ty := .boolean) (C := R_Su) (T := T_Su) (N := 5) hx hb hg in_Su ty_Su ok_Su nm_Su hown hK hP hD hS 0 rfl rfl 4 (by decide) (hg _ m_195) (fun _ h9 => h9) rfl (by decide +kernel) rfl rfl (Nat.le_of_ble_eq_true rfl) d_Su_wipes_7 (fun H locs hP hD hS => ?_)
    have hP : va_P D classes (Ws ty h (sF σ 0 4 0) px) H := hP
    have hD : va_D A (Ws ty h (sF σ 0 4 0) px) := hD
    exact B10 _ _ _  (sF σ 0 4 0) hv hk (lv_sub hl [] rfl) hP hD hS
  unfold f_Su_wipes at hv
  unfold k_Su_wipes at hk
  refine lv_aload_n hx hb d_Su_wipes_0 rfl (lv_at hl 0 rfl) ?_
  refine lv_iconst (v := 0) hx hb d_Su_wipes_1 (by decide) ?_
  refine va_put (v := .int 0) (ty := .int) (C := R_Su) (T := T_Su) (N := 5) hx hb hg in_Su ty_Su ok_Su nm_Su hown hK hP hD hS 0 rfl rfl 3 (by decide) (hg _ m_194) (fun _ h9 => h9) rfl (by decide +kernel) rfl rfl (Nat.le_of_ble_eq_true rfl) d_Su_wipes_2 (fun H locs hP hD hS => ?_)
  have hP : va_P D classes (Ws ty h (sF σ 0 3 0) px) H := hP
  have hD : va_D A (Ws ty h (sF σ 0 3 0) px) := hD
  exact B5 _ _ _  (sF σ 0 3 0) hv hk (lv_sub hl [0] rfl) hP hD hS

-- ClauseLedger$Sum.hasAtom()Z
abbrev b_Su_hasAtoms : ByteArray := prog_10_method_7_code
def y_Su_hasAtoms : MethodName := ⟨"ClauseLedger$Sum", "hasAtom", "()Z"⟩
theorem hd_Su_hasAtoms : y_Su_hasAtoms.cls ≠ "java/lang/invoke/MethodHandle" ∧ y_Su_hasAtoms.cls ≠ "java/lang/invoke/VarHandle" ∧ (parseMethodDescriptor y_Su_hasAtoms.desc).map (fun d => d.parameters.length) = some 0 := by decide +kernel
theorem d_Su_hasAtoms_0 : decode b_Su_hasAtoms 0 = .ok (.iconst 0, 1) := by decide +kernel
theorem d_Su_hasAtoms_1 : decode b_Su_hasAtoms 1 = .ok (.istore_n 1, 1) := by decide +kernel
theorem d_Su_hasAtoms_2 : decode b_Su_hasAtoms 2 = .ok (.iload_n 1, 1) := by decide +kernel
theorem d_Su_hasAtoms_3 : decode b_Su_hasAtoms 3 = .ok (.aload_n 0, 1) := by decide +kernel
theorem d_Su_hasAtoms_4 : decode b_Su_hasAtoms 4 = .ok (.getfield 9, 3) := by decide +kernel
theorem d_Su_hasAtoms_7 : decode b_Su_hasAtoms 7 = .ok (.if_icmp .ge 32, 3) := by decide +kernel
theorem d_Su_hasAtoms_10 : decode b_Su_hasAtoms 10 = .ok (.aload_n 0, 1) := by decide +kernel
theorem d_Su_hasAtoms_11 : decode b_Su_hasAtoms 11 = .ok (.getfield 19, 3) := by decide +kernel
theorem d_Su_hasAtoms_14 : decode b_Su_hasAtoms 14 = .ok (.iload_n 1, 1) := by decide +kernel
theorem d_Su_hasAtoms_15 : decode b_Su_hasAtoms 15 = .ok (.iaload, 1) := by decide +kernel
theorem d_Su_hasAtoms_16 : decode b_Su_hasAtoms 16 = .ok (.iconst (-1), 1) := by decide +kernel
theorem d_Su_hasAtoms_17 : decode b_Su_hasAtoms 17 = .ok (.if_icmp .eq 16, 3) := by decide +kernel
theorem d_Su_hasAtoms_20 : decode b_Su_hasAtoms 20 = .ok (.aload_n 0, 1) := by decide +kernel
theorem d_Su_hasAtoms_21 : decode b_Su_hasAtoms 21 = .ok (.getfield 23, 3) := by decide +kernel
theorem d_Su_hasAtoms_24 : decode b_Su_hasAtoms 24 = .ok (.iload_n 1, 1) := by decide +kernel
theorem d_Su_hasAtoms_25 : decode b_Su_hasAtoms 25 = .ok (.laload, 1) := by decide +kernel
theorem d_Su_hasAtoms_26 : decode b_Su_hasAtoms 26 = .ok (.lconst 0, 1) := by decide +kernel
theorem d_Su_hasAtoms_27 : decode b_Su_hasAtoms 27 = .ok (.lcmp, 1) := by decide +kernel
theorem d_Su_hasAtoms_28 : decode b_Su_hasAtoms 28 = .ok (.ifCond .eq 5, 3) := by decide +kernel
theorem d_Su_hasAtoms_31 : decode b_Su_hasAtoms 31 = .ok (.iconst 1, 1) := by decide +kernel
theorem d_Su_hasAtoms_32 : decode b_Su_hasAtoms 32 = .ok (.ireturn, 1) := by decide +kernel
theorem d_Su_hasAtoms_33 : decode b_Su_hasAtoms 33 = .ok (.iinc 1 1, 3) := by decide +kernel
theorem d_Su_hasAtoms_36 : decode b_Su_hasAtoms 36 = .ok (.goto (-34), 3) := by decide +kernel
theorem d_Su_hasAtoms_39 : decode b_Su_hasAtoms 39 = .ok (.iconst 0, 1) := by decide +kernel
theorem d_Su_hasAtoms_40 : decode b_Su_hasAtoms 40 = .ok (.ireturn, 1) := by decide +kernel
def f_Su_hasAtoms_33 (F2 : (Int32 → St → Int32)) (x1 : Int32) (σ : St) : Int32 := F2 (x1 + 1) σ
def k_Su_hasAtoms_33 (K2 : (Int32 → St → Prop)) (x1 : Int32) (σ : St) : Prop := K2 (x1 + 1) σ
def f_Su_hasAtoms_2 : Nat → Int32 → St → Int32
  | 0, _, σ => 0
  | n + 1, x1, σ => if (σ.1 0 3) ≤ x1 then 0 else (if (σ.1 1 x1.toNatClampNeg) = (-1) then (f_Su_hasAtoms_33 (f_Su_hasAtoms_2 n) x1 σ) else (if (lg_cmp (σ.2 2 x1.toNatClampNeg) 0) = 0 then (f_Su_hasAtoms_33 (f_Su_hasAtoms_2 n) x1 σ) else 1))
def k_Su_hasAtoms_2 : Nat → Int32 → St → Prop
  | 0, _, _ => False
  | n + 1, x1, σ => ((σ.1 0 3) ≤ x1 → True) ∧ (¬ (σ.1 0 3) ≤ x1 → (vp_in x1 ((σ.1 99 0).toNatClampNeg) ∧ (((σ.1 1 x1.toNatClampNeg) = (-1) → (k_Su_hasAtoms_33 (k_Su_hasAtoms_2 n) x1 σ)) ∧ (¬ (σ.1 1 x1.toNatClampNeg) = (-1) → (vp_in x1 ((σ.1 99 0).toNatClampNeg) ∧ (((lg_cmp (σ.2 2 x1.toNatClampNeg) 0) = 0 → (k_Su_hasAtoms_33 (k_Su_hasAtoms_2 n) x1 σ)) ∧ (¬ (lg_cmp (σ.2 2 x1.toNatClampNeg) 0) = 0 → True)))))))
def f_Su_hasAtoms (σ : St) : Int32 := f_Su_hasAtoms_2 1000 0 σ
def k_Su_hasAtoms (σ : St) : Prop := k_Su_hasAtoms_2 1000 0 σ
abbrev w_Su_hasAtoms : List Cond := Cond.code y_Su_hasAtoms b_Su_hasAtoms 2 (some .boolean) :: gw
abbrev rm_Su_hasAtoms : Room := { frames := 0, cells := 0, slots := 0, locals := 0 }
set_option maxHeartbeats 4000000 in
set_option maxRecDepth 100000 in
theorem c_Su_hasAtoms (l : Launch) (D : va_G) (ty : Nat → ClassId) (h : Nat → Nat) (px : va_W) (sa : Nat → Nat) (σ : St) (hk : k_Su_hasAtoms σ) : Met l y_Su_hasAtoms w_Su_hasAtoms rm_Su_hasAtoms (va_Pc [.ref (h 0)] (fun U => va_P D classes (Ws ty h σ px) U.heap ∧ va_K D classes (Ta ty) U ∧ NW U ∧ MK sa (fun _ => False) U U.heap)) (k2_QcV (.int (f_Su_hasAtoms σ))) 0 0 (fun _ => False) := by
  refine Met.ofW (cc := b_Su_hasAtoms) (maxL := 2) (ret := (some .boolean)) (by decide) rfl ?_
  intro p e s m args below meth c s₁ B hml hv
  obtain ⟨ha, hP, hK, hN, hM⟩ := hv
  have hx := B.exec
  have hb := B.bytes
  have hr := B.returns
  have hg : ∀ w ∈ gw, w.before args s = true := fun w h9 => atoms_spec (ws := w_Su_hasAtoms) B.pre w (List.mem_cons_of_mem _ h9)
  have hown : s.vm.findClass "ClauseLedger$Sum" = some m.cls := findClass_of_methodNamed B.named
  have hlocks := B.notSynchronized
  have he : entryFrame m args 2 = entryFrame m ([.ref (h 0)] : List Value).toArray 2 := by rw [ha]
  rw [he, lg_entry_eq]
  have hl := lv_entry ([.ref (h 0)]) (n := 2) (Nat.le_of_ble_eq_true rfl)
  generalize (lg_sl ([.ref (h 0)]) ++ List.replicate (2 - (lg_sl ([.ref (h 0)])).length) Slot.unset).toArray = ls at hl ⊢
  have hl : lv_has ls 2 [(0, .ref (h 0))] := hl
  generalize hv : f_Su_hasAtoms σ = v
  replace hv := hv.symm
  have B2 : ∀ (n2 : Nat) (ls : Array Slot) (x1 : Int32), v = f_Su_hasAtoms_2 n2 x1 σ → k_Su_hasAtoms_2 n2 x1 σ → lv_has ls 2 [(0, .ref (h 0)), (1, .int x1)] → W p l e (headSpec w_Su_hasAtoms rm_Su_hasAtoms).room s m args below meth c s.heap [] 0 0 (MQ below (k2_QcV (.int v)) args s 0 0 (fun _ => False)) (F0 m 2 ls []) := by
    intro n2
    induction n2 with
    | zero => intro ls x1 hv hk hl; exact hk.elim
    | succ n2 ih2 =>
      have B33 : ∀ (ls : Array Slot) (x1 : Int32), v = f_Su_hasAtoms_33 (f_Su_hasAtoms_2 n2) x1 σ → k_Su_hasAtoms_33 (k_Su_hasAtoms_2 n2) x1 σ → lv_has ls 2 [(0, .ref (h 0)), (1, .int x1)] → W p l e (headSpec w_Su_hasAtoms rm_Su_hasAtoms).room s m args below meth c s.heap [] 0 0 (MQ below (k2_QcV (.int v)) args s 0 0 (fun _ => False)) (F0 m 33 ls []) := by
        intro ls x1 hv hk hl
        unfold f_Su_hasAtoms_33 at hv
        unfold k_Su_hasAtoms_33 at hk
        refine lv_iinc (k := 1) (v := x1 + 1) (lv' := [(1, .int (x1 + 1)), (0, .ref (h 0))]) hx hb d_Su_hasAtoms_33 hl rfl (by first | rfl | simp [lit1, litm1]) (by decide) rfl (fun ls hl => ?_)
        refine lv_goto (tgt := 2) hx hb d_Su_hasAtoms_36 (by decide) ?_
        exact ih2 _ (x1 + 1) hv hk (lv_sub hl [1, 0] rfl)
      intro ls x1 hv hk hl
      rw [f_Su_hasAtoms_2] at hv
      rw [k_Su_hasAtoms_2] at hk
      refine lv_iload_n hx hb d_Su_hasAtoms_2 rfl (lv_at hl 1 rfl) ?_
      refine lv_aload_n hx hb d_Su_hasAtoms_3 rfl (lv_at hl 0 rfl) ?_
      refine va_get (v := .int (σ.1 0 3)) (C := R_Su) (T := T_Su) (N := 5) hx hb hg in_Su hown hK hP 0 rfl rfl 3 (by decide) (hg _ m_194) (fun _ h9 => h9) rfl d_Su_hasAtoms_4 ?_
      refine lv_icmp_ge (tgt := 39) hx hb d_Su_hasAtoms_7 (by decide) (fun hc => ?_) (fun hc => ?_)
      · have hv := hv.trans (if_pos hc)
        have hk := hk.1 hc
        refine lv_iconst (v := 0) hx hb d_Su_hasAtoms_39 (by decide) ?_
        exact W.zret hx hb hr rfl (fun t ht hW => ⟨by rw [hv], ht⟩) (fun q h => nomatch h) d_Su_hasAtoms_40
      · have hv := hv.trans (if_neg hc)
        have hk := hk.2 hc
        refine lv_aload_n hx hb d_Su_hasAtoms_10 rfl (lv_at hl 0 rfl) ?_
        refine va_get (v := .ref (h 1)) (C := R_Su) (T := T_Su) (N := 5) hx hb hg in_Su hown hK hP 0 rfl rfl 0 (by decide) (hg _ m_191) (fun _ h9 => h9) rfl d_Su_hasAtoms_11 ?_
        refine lv_iload_n hx hb d_Su_hasAtoms_14 rfl (lv_at hl 1 rfl) ?_
        obtain ⟨hk0, hk⟩ := hk
        refine va_iald hx hb hK hP 1 0 rfl rfl hk0 d_Su_hasAtoms_15 ?_
        refine lv_iconst (v := -1) hx hb d_Su_hasAtoms_16 (by decide) ?_
        refine lv_icmp_eq (tgt := 33) hx hb d_Su_hasAtoms_17 (by decide) (fun hc => ?_) (fun hc => ?_)
        · have hv := hv.trans (if_pos hc)
          have hk := hk.1 hc
          exact B33 _ x1 hv hk (lv_sub hl [0, 1] rfl)
        · have hv := hv.trans (if_neg hc)
          have hk := hk.2 hc
          refine lv_aload_n hx hb d_Su_hasAtoms_20 rfl (lv_at hl 0 rfl) ?_
          refine va_get (v := .ref (h 2)) (C := R_Su) (T := T_Su) (N := 5) hx hb hg in_Su hown hK hP 0 rfl rfl 1 (by decide) (hg _ m_192) (fun _ h9 => h9) rfl d_Su_hasAtoms_21 ?_
          refine lv_iload_n hx hb d_Su_hasAtoms_24 rfl (lv_at hl 1 rfl) ?_
          obtain ⟨hk0, hk⟩ := hk
          refine va_lald hx hb hK hP 2 1 rfl rfl hk0 d_Su_hasAtoms_25 ?_
          refine lv_lconst (v := 0) hx hb d_Su_hasAtoms_26 (by decide) ?_
          refine W.lcmp hx hb d_Su_hasAtoms_27 ?_
          refine lv_if_eq (tgt := 33) hx hb d_Su_hasAtoms_28 (by decide) (fun hc => ?_) (fun hc => ?_)
          · have hv := hv.trans (if_pos hc)
            have hk := hk.1 hc
            exact B33 _ x1 hv hk (lv_sub hl [0, 1] rfl)
          · have hv := hv.trans (if_neg hc)
            have hk := hk.2 hc
            refine lv_iconst (v := 1) hx hb d_Su_hasAtoms_31 (by decide) ?_
            exact W.zret hx hb hr rfl (fun t ht hW => ⟨by rw [hv], ht⟩) (fun q h => nomatch h) d_Su_hasAtoms_32
  unfold f_Su_hasAtoms at hv
  unfold k_Su_hasAtoms at hk
  refine lv_iconst (v := 0) hx hb d_Su_hasAtoms_0 (by decide) ?_
  refine lv_istore_n (lv' := [(1, .int 0), (0, .ref (h 0))]) hx hb d_Su_hasAtoms_1 rfl hl (by decide) rfl (fun ls hl => ?_)
  exact B2 1000 _ 0 hv hk (lv_sub hl [1, 0] rfl)

-- ClauseLedger$Sum.signOfConstant()I
abbrev b_Su_signOfConstants : ByteArray := prog_10_method_8_code
def y_Su_signOfConstants : MethodName := ⟨"ClauseLedger$Sum", "signOfConstant", "()I"⟩
theorem hd_Su_signOfConstants : y_Su_signOfConstants.cls ≠ "java/lang/invoke/MethodHandle" ∧ y_Su_signOfConstants.cls ≠ "java/lang/invoke/VarHandle" ∧ (parseMethodDescriptor y_Su_signOfConstants.desc).map (fun d => d.parameters.length) = some 0 := by decide +kernel
theorem d_Su_signOfConstants_0 : decode b_Su_signOfConstants 0 = .ok (.iconst 0, 1) := by decide +kernel
theorem d_Su_signOfConstants_1 : decode b_Su_signOfConstants 1 = .ok (.istore_n 1, 1) := by decide +kernel
theorem d_Su_signOfConstants_2 : decode b_Su_signOfConstants 2 = .ok (.iload_n 1, 1) := by decide +kernel
theorem d_Su_signOfConstants_3 : decode b_Su_signOfConstants 3 = .ok (.aload_n 0, 1) := by decide +kernel
theorem d_Su_signOfConstants_4 : decode b_Su_signOfConstants 4 = .ok (.getfield 9, 3) := by decide +kernel
theorem d_Su_signOfConstants_7 : decode b_Su_signOfConstants 7 = .ok (.if_icmp .ge 30, 3) := by decide +kernel
theorem d_Su_signOfConstants_10 : decode b_Su_signOfConstants 10 = .ok (.aload_n 0, 1) := by decide +kernel
theorem d_Su_signOfConstants_11 : decode b_Su_signOfConstants 11 = .ok (.getfield 19, 3) := by decide +kernel
theorem d_Su_signOfConstants_14 : decode b_Su_signOfConstants 14 = .ok (.iload_n 1, 1) := by decide +kernel
theorem d_Su_signOfConstants_15 : decode b_Su_signOfConstants 15 = .ok (.iaload, 1) := by decide +kernel
theorem d_Su_signOfConstants_16 : decode b_Su_signOfConstants 16 = .ok (.iconst (-1), 1) := by decide +kernel
theorem d_Su_signOfConstants_17 : decode b_Su_signOfConstants 17 = .ok (.if_icmp .ne 14, 3) := by decide +kernel
theorem d_Su_signOfConstants_20 : decode b_Su_signOfConstants 20 = .ok (.aload_n 0, 1) := by decide +kernel
theorem d_Su_signOfConstants_21 : decode b_Su_signOfConstants 21 = .ok (.getfield 23, 3) := by decide +kernel
theorem d_Su_signOfConstants_24 : decode b_Su_signOfConstants 24 = .ok (.iload_n 1, 1) := by decide +kernel
theorem d_Su_signOfConstants_25 : decode b_Su_signOfConstants 25 = .ok (.laload, 1) := by decide +kernel
theorem d_Su_signOfConstants_26 : decode b_Su_signOfConstants 26 = .ok (.lconst 0, 1) := by decide +kernel
theorem d_Su_signOfConstants_27 : decode b_Su_signOfConstants 27 = .ok (.invokestatic 46, 3) := by decide +kernel
theorem d_Su_signOfConstants_30 : decode b_Su_signOfConstants 30 = .ok (.ireturn, 1) := by decide +kernel
theorem d_Su_signOfConstants_31 : decode b_Su_signOfConstants 31 = .ok (.iinc 1 1, 3) := by decide +kernel
theorem d_Su_signOfConstants_34 : decode b_Su_signOfConstants 34 = .ok (.goto (-32), 3) := by decide +kernel
theorem d_Su_signOfConstants_37 : decode b_Su_signOfConstants 37 = .ok (.iconst 0, 1) := by decide +kernel
theorem d_Su_signOfConstants_38 : decode b_Su_signOfConstants 38 = .ok (.ireturn, 1) := by decide +kernel
def f_Su_signOfConstants_2 : Nat → Int32 → St → Int32
  | 0, _, σ => 0
  | n + 1, x1, σ => if (σ.1 0 3) ≤ x1 then 0 else (if (σ.1 1 x1.toNatClampNeg) = (-1) then (f_JL_compares (σ.2 2 x1.toNatClampNeg) 0 σ) else ((f_Su_signOfConstants_2 n) (x1 + 1) σ))
def k_Su_signOfConstants_2 : Nat → Int32 → St → Prop
  | 0, _, _ => False
  | n + 1, x1, σ => ((σ.1 0 3) ≤ x1 → True) ∧ (¬ (σ.1 0 3) ≤ x1 → (vp_in x1 ((σ.1 99 0).toNatClampNeg) ∧ (((σ.1 1 x1.toNatClampNeg) = (-1) → (vp_in x1 ((σ.1 99 0).toNatClampNeg) ∧ ((k_JL_compares (σ.2 2 x1.toNatClampNeg) 0 σ) ∧ True))) ∧ (¬ (σ.1 1 x1.toNatClampNeg) = (-1) → ((k_Su_signOfConstants_2 n) (x1 + 1) σ)))))
def f_Su_signOfConstants (σ : St) : Int32 := f_Su_signOfConstants_2 1000 0 σ
def k_Su_signOfConstants (σ : St) : Prop := k_Su_signOfConstants_2 1000 0 σ
abbrev w_Su_signOfConstants : List Cond := Cond.code y_Su_signOfConstants b_Su_signOfConstants 2 (some .int) :: gw
abbrev rm_Su_signOfConstants : Room := { frames := 1, cells := 0, slots := 0, locals := 23 }
set_option maxHeartbeats 4000000 in
set_option maxRecDepth 100000 in
theorem c_Su_signOfConstants (l : Launch) (D : va_G) (ty : Nat → ClassId) (h : Nat → Nat) (px : va_W) (sa : Nat → Nat) (σ : St) (hk : k_Su_signOfConstants σ) : Met l y_Su_signOfConstants w_Su_signOfConstants rm_Su_signOfConstants (va_Pc [.ref (h 0)] (fun U => va_P D classes (Ws ty h σ px) U.heap ∧ va_K D classes (Ta ty) U ∧ NW U ∧ MK sa (fun _ => False) U U.heap)) (k2_QcV (.int (f_Su_signOfConstants σ))) 0 0 (fun _ => False) := by
  refine Met.ofW (cc := b_Su_signOfConstants) (maxL := 2) (ret := (some .int)) (by decide) rfl ?_
  intro p e s m args below meth c s₁ B hml hv
  obtain ⟨ha, hP, hK, hN, hM⟩ := hv
  have hx := B.exec
  have hb := B.bytes
  have hr := B.returns
  have hg : ∀ w ∈ gw, w.before args s = true := fun w h9 => atoms_spec (ws := w_Su_signOfConstants) B.pre w (List.mem_cons_of_mem _ h9)
  have hown : s.vm.findClass "ClauseLedger$Sum" = some m.cls := findClass_of_methodNamed B.named
  have hlocks := B.notSynchronized
  have he : entryFrame m args 2 = entryFrame m ([.ref (h 0)] : List Value).toArray 2 := by rw [ha]
  rw [he, lg_entry_eq]
  have hl := lv_entry ([.ref (h 0)]) (n := 2) (Nat.le_of_ble_eq_true rfl)
  generalize (lg_sl ([.ref (h 0)]) ++ List.replicate (2 - (lg_sl ([.ref (h 0)])).length) Slot.unset).toArray = ls at hl ⊢
  have hl : lv_has ls 2 [(0, .ref (h 0))] := hl
  generalize hv : f_Su_signOfConstants σ = v
  replace hv := hv.symm
  have B2 : ∀ (n2 : Nat) (ls : Array Slot) (x1 : Int32), v = f_Su_signOfConstants_2 n2 x1 σ → k_Su_signOfConstants_2 n2 x1 σ → lv_has ls 2 [(0, .ref (h 0)), (1, .int x1)] → W p l e (headSpec w_Su_signOfConstants rm_Su_signOfConstants).room s m args below meth c s.heap [] 0 0 (MQ below (k2_QcV (.int v)) args s 0 0 (fun _ => False)) (F0 m 2 ls []) := by
    intro n2
    induction n2 with
    | zero => intro ls x1 hv hk hl; exact hk.elim
    | succ n2 ih2 =>
      intro ls x1 hv hk hl
      rw [f_Su_signOfConstants_2] at hv
      rw [k_Su_signOfConstants_2] at hk
      refine lv_iload_n hx hb d_Su_signOfConstants_2 rfl (lv_at hl 1 rfl) ?_
      refine lv_aload_n hx hb d_Su_signOfConstants_3 rfl (lv_at hl 0 rfl) ?_
      refine va_get (v := .int (σ.1 0 3)) (C := R_Su) (T := T_Su) (N := 5) hx hb hg in_Su hown hK hP 0 rfl rfl 3 (by decide) (hg _ m_194) (fun _ h9 => h9) rfl d_Su_signOfConstants_4 ?_
      refine lv_icmp_ge (tgt := 37) hx hb d_Su_signOfConstants_7 (by decide) (fun hc => ?_) (fun hc => ?_)
      · have hv := hv.trans (if_pos hc)
        have hk := hk.1 hc
        refine lv_iconst (v := 0) hx hb d_Su_signOfConstants_37 (by decide) ?_
        exact W.iret hx hb hr (fun t ht hW => ⟨by rw [hv], ht⟩) (fun q h => nomatch h) d_Su_signOfConstants_38
      · have hv := hv.trans (if_neg hc)
        have hk := hk.2 hc
        refine lv_aload_n hx hb d_Su_signOfConstants_10 rfl (lv_at hl 0 rfl) ?_
        refine va_get (v := .ref (h 1)) (C := R_Su) (T := T_Su) (N := 5) hx hb hg in_Su hown hK hP 0 rfl rfl 0 (by decide) (hg _ m_191) (fun _ h9 => h9) rfl d_Su_signOfConstants_11 ?_
        refine lv_iload_n hx hb d_Su_signOfConstants_14 rfl (lv_at hl 1 rfl) ?_
        obtain ⟨hk0, hk⟩ := hk
        refine va_iald hx hb hK hP 1 0 rfl rfl hk0 d_Su_signOfConstants_15 ?_
        refine lv_iconst (v := -1) hx hb d_Su_signOfConstants_16 (by decide) ?_
        refine lv_icmp_ne (tgt := 31) hx hb d_Su_signOfConstants_17 (by decide) (fun hc => ?_) (fun hc => ?_)
        · have hv := hv.trans (if_neg hc)
          have hk := hk.2 hc
          refine lv_iinc (k := 1) (v := x1 + 1) (lv' := [(1, .int (x1 + 1)), (0, .ref (h 0))]) hx hb d_Su_signOfConstants_31 hl rfl (by first | rfl | simp [lit1, litm1]) (by decide) rfl (fun ls hl => ?_)
          refine lv_goto (tgt := 2) hx hb d_Su_signOfConstants_34 (by decide) ?_
          exact ih2 _ (x1 + 1) hv hk (lv_sub hl [1, 0] rfl)
        · have hv := hv.trans (if_pos hc)
          have hk := hk.1 hc
          refine lv_aload_n hx hb d_Su_signOfConstants_20 rfl (lv_at hl 0 rfl) ?_
          refine va_get (v := .ref (h 2)) (C := R_Su) (T := T_Su) (N := 5) hx hb hg in_Su hown hK hP 0 rfl rfl 1 (by decide) (hg _ m_192) (fun _ h9 => h9) rfl d_Su_signOfConstants_21 ?_
          refine lv_iload_n hx hb d_Su_signOfConstants_24 rfl (lv_at hl 1 rfl) ?_
          obtain ⟨hk0, hk⟩ := hk
          refine va_lald hx hb hK hP 2 1 rfl rfl hk0 d_Su_signOfConstants_25 ?_
          refine lv_lconst (v := 0) hx hb d_Su_signOfConstants_26 (by decide) ?_
          obtain ⟨hk0, hk⟩ := hk
          refine zz_callV (va_runS (As := [.long (σ.2 2 x1.toNatClampNeg), .long 0]) (rest := []) ⟨hx, hb, hml, hown, hg⟩ (c_JL_compares l D ty h px sa σ (σ.2 2 x1.toNatClampNeg) 0 hk0) ⟨callB_of 2 hg (gw_C m_1167) rfl rfl rfl (hg _ m_27) (hg _ m_1165) hd_JL_compares ⟨Nat.le_of_ble_eq_true rfl, Nat.le_of_ble_eq_true rfl⟩, hg _ m_1166⟩ (zz_preS hM hN hK hP) rfl rfl hl.1 rfl (lv_room (Nat.le_of_ble_eq_true rfl)) d_Su_signOfConstants_27 ⟨Nat.le_of_ble_eq_true rfl, Nat.le_of_ble_eq_true rfl⟩) ?_
          exact W.iret hx hb hr (fun t ht hW => ⟨by rw [hv], ht⟩) (fun q h => nomatch h) d_Su_signOfConstants_30
  unfold f_Su_signOfConstants at hv
  unfold k_Su_signOfConstants at hk
  refine lv_iconst (v := 0) hx hb d_Su_signOfConstants_0 (by decide) ?_
  refine lv_istore_n (lv' := [(1, .int 0), (0, .ref (h 0))]) hx hb d_Su_signOfConstants_1 rfl hl (by decide) rfl (fun ls hl => ?_)
  exact B2 1000 _ 0 hv hk (lv_sub hl [1, 0] rfl)

-- ClauseLedger$Sum.placeOf(I)I
abbrev b_Su_placeOfs : ByteArray := prog_10_method_9_code
def y_Su_placeOfs : MethodName := ⟨"ClauseLedger$Sum", "placeOf", "(I)I"⟩
theorem hd_Su_placeOfs : y_Su_placeOfs.cls ≠ "java/lang/invoke/MethodHandle" ∧ y_Su_placeOfs.cls ≠ "java/lang/invoke/VarHandle" ∧ (parseMethodDescriptor y_Su_placeOfs.desc).map (fun d => d.parameters.length) = some 1 := by decide +kernel
theorem d_Su_placeOfs_0 : decode b_Su_placeOfs 0 = .ok (.iconst 0, 1) := by decide +kernel
theorem d_Su_placeOfs_1 : decode b_Su_placeOfs 1 = .ok (.istore_n 2, 1) := by decide +kernel
theorem d_Su_placeOfs_2 : decode b_Su_placeOfs 2 = .ok (.iload_n 2, 1) := by decide +kernel
theorem d_Su_placeOfs_3 : decode b_Su_placeOfs 3 = .ok (.aload_n 0, 1) := by decide +kernel
theorem d_Su_placeOfs_4 : decode b_Su_placeOfs 4 = .ok (.getfield 9, 3) := by decide +kernel
theorem d_Su_placeOfs_7 : decode b_Su_placeOfs 7 = .ok (.if_icmp .ge 21, 3) := by decide +kernel
theorem d_Su_placeOfs_10 : decode b_Su_placeOfs 10 = .ok (.aload_n 0, 1) := by decide +kernel
theorem d_Su_placeOfs_11 : decode b_Su_placeOfs 11 = .ok (.getfield 19, 3) := by decide +kernel
theorem d_Su_placeOfs_14 : decode b_Su_placeOfs 14 = .ok (.iload_n 2, 1) := by decide +kernel
theorem d_Su_placeOfs_15 : decode b_Su_placeOfs 15 = .ok (.iaload, 1) := by decide +kernel
theorem d_Su_placeOfs_16 : decode b_Su_placeOfs 16 = .ok (.iload_n 1, 1) := by decide +kernel
theorem d_Su_placeOfs_17 : decode b_Su_placeOfs 17 = .ok (.if_icmp .ne 5, 3) := by decide +kernel
theorem d_Su_placeOfs_20 : decode b_Su_placeOfs 20 = .ok (.iload_n 2, 1) := by decide +kernel
theorem d_Su_placeOfs_21 : decode b_Su_placeOfs 21 = .ok (.ireturn, 1) := by decide +kernel
theorem d_Su_placeOfs_22 : decode b_Su_placeOfs 22 = .ok (.iinc 2 1, 3) := by decide +kernel
theorem d_Su_placeOfs_25 : decode b_Su_placeOfs 25 = .ok (.goto (-23), 3) := by decide +kernel
theorem d_Su_placeOfs_28 : decode b_Su_placeOfs 28 = .ok (.aload_n 0, 1) := by decide +kernel
theorem d_Su_placeOfs_29 : decode b_Su_placeOfs 29 = .ok (.getfield 9, 3) := by decide +kernel
theorem d_Su_placeOfs_32 : decode b_Su_placeOfs 32 = .ok (.aload_n 0, 1) := by decide +kernel
theorem d_Su_placeOfs_33 : decode b_Su_placeOfs 33 = .ok (.getfield 19, 3) := by decide +kernel
theorem d_Su_placeOfs_36 : decode b_Su_placeOfs 36 = .ok (.arraylength, 1) := by decide +kernel
theorem d_Su_placeOfs_37 : decode b_Su_placeOfs 37 = .ok (.if_icmp .lt 5, 3) := by decide +kernel
theorem d_Su_placeOfs_40 : decode b_Su_placeOfs 40 = .ok (.iconst (-1), 1) := by decide +kernel
theorem d_Su_placeOfs_41 : decode b_Su_placeOfs 41 = .ok (.ireturn, 1) := by decide +kernel
theorem d_Su_placeOfs_42 : decode b_Su_placeOfs 42 = .ok (.aload_n 0, 1) := by decide +kernel
theorem d_Su_placeOfs_43 : decode b_Su_placeOfs 43 = .ok (.getfield 19, 3) := by decide +kernel
theorem d_Su_placeOfs_46 : decode b_Su_placeOfs 46 = .ok (.aload_n 0, 1) := by decide +kernel
theorem d_Su_placeOfs_47 : decode b_Su_placeOfs 47 = .ok (.getfield 9, 3) := by decide +kernel
theorem d_Su_placeOfs_50 : decode b_Su_placeOfs 50 = .ok (.iload_n 1, 1) := by decide +kernel
theorem d_Su_placeOfs_51 : decode b_Su_placeOfs 51 = .ok (.iastore, 1) := by decide +kernel
theorem d_Su_placeOfs_52 : decode b_Su_placeOfs 52 = .ok (.aload_n 0, 1) := by decide +kernel
theorem d_Su_placeOfs_53 : decode b_Su_placeOfs 53 = .ok (.getfield 23, 3) := by decide +kernel
theorem d_Su_placeOfs_56 : decode b_Su_placeOfs 56 = .ok (.aload_n 0, 1) := by decide +kernel
theorem d_Su_placeOfs_57 : decode b_Su_placeOfs 57 = .ok (.getfield 9, 3) := by decide +kernel
theorem d_Su_placeOfs_60 : decode b_Su_placeOfs 60 = .ok (.lconst 0, 1) := by decide +kernel
theorem d_Su_placeOfs_61 : decode b_Su_placeOfs 61 = .ok (.lastore, 1) := by decide +kernel
theorem d_Su_placeOfs_62 : decode b_Su_placeOfs 62 = .ok (.aload_n 0, 1) := by decide +kernel
theorem d_Su_placeOfs_63 : decode b_Su_placeOfs 63 = .ok (.getfield 27, 3) := by decide +kernel
theorem d_Su_placeOfs_66 : decode b_Su_placeOfs 66 = .ok (.aload_n 0, 1) := by decide +kernel
theorem d_Su_placeOfs_67 : decode b_Su_placeOfs 67 = .ok (.getfield 9, 3) := by decide +kernel
theorem d_Su_placeOfs_70 : decode b_Su_placeOfs 70 = .ok (.lconst 1, 1) := by decide +kernel
theorem d_Su_placeOfs_71 : decode b_Su_placeOfs 71 = .ok (.lastore, 1) := by decide +kernel
theorem d_Su_placeOfs_72 : decode b_Su_placeOfs 72 = .ok (.aload_n 0, 1) := by decide +kernel
theorem d_Su_placeOfs_73 : decode b_Su_placeOfs 73 = .ok (.dup, 1) := by decide +kernel
theorem d_Su_placeOfs_74 : decode b_Su_placeOfs 74 = .ok (.getfield 9, 3) := by decide +kernel
theorem d_Su_placeOfs_77 : decode b_Su_placeOfs 77 = .ok (.iconst 1, 1) := by decide +kernel
theorem d_Su_placeOfs_78 : decode b_Su_placeOfs 78 = .ok (.iadd, 1) := by decide +kernel
theorem d_Su_placeOfs_79 : decode b_Su_placeOfs 79 = .ok (.putfield 9, 3) := by decide +kernel
theorem d_Su_placeOfs_82 : decode b_Su_placeOfs 82 = .ok (.aload_n 0, 1) := by decide +kernel
theorem d_Su_placeOfs_83 : decode b_Su_placeOfs 83 = .ok (.getfield 9, 3) := by decide +kernel
theorem d_Su_placeOfs_86 : decode b_Su_placeOfs 86 = .ok (.iconst 1, 1) := by decide +kernel
theorem d_Su_placeOfs_87 : decode b_Su_placeOfs 87 = .ok (.isub, 1) := by decide +kernel
theorem d_Su_placeOfs_88 : decode b_Su_placeOfs 88 = .ok (.ireturn, 1) := by decide +kernel
def f_Su_placeOfs_82 (σ : St) : Int32 × St := ((σ.1 0 3) - 1, σ)
def k_Su_placeOfs_82 (σ : St) : Prop := True
def f_Su_placeOfs_72 (σ : St) : Int32 × St := f_Su_placeOfs_82 (sF σ 0 3 ((σ.1 0 3) + 1))
def k_Su_placeOfs_72 (σ : St) : Prop := k_Su_placeOfs_82 (sF σ 0 3 ((σ.1 0 3) + 1))
def f_Su_placeOfs_62 (σ : St) : Int32 × St := f_Su_placeOfs_72 (sL σ 3 (σ.1 0 3) 1)
def k_Su_placeOfs_62 (σ : St) : Prop := vp_in (σ.1 0 3) ((σ.1 99 0).toNatClampNeg) ∧ (k_Su_placeOfs_72 (sL σ 3 (σ.1 0 3) 1))
def f_Su_placeOfs_52 (σ : St) : Int32 × St := f_Su_placeOfs_62 (sL σ 2 (σ.1 0 3) 0)
def k_Su_placeOfs_52 (σ : St) : Prop := vp_in (σ.1 0 3) ((σ.1 99 0).toNatClampNeg) ∧ (k_Su_placeOfs_62 (sL σ 2 (σ.1 0 3) 0))
def f_Su_placeOfs_2 : Nat → Int32 → Int32 → St → Int32 × St
  | 0, _, _, σ => (0, σ)
  | n + 1, x1, x2, σ => if (σ.1 0 3) ≤ x2 then (if (σ.1 0 3) < (nI ((σ.1 99 0).toNatClampNeg)) then (f_Su_placeOfs_52 (sA σ 1 (σ.1 0 3) x1)) else ((-1), σ)) else (if (σ.1 1 x2.toNatClampNeg) = x1 then (x2, σ) else ((f_Su_placeOfs_2 n) x1 (x2 + 1) σ))
def k_Su_placeOfs_2 : Nat → Int32 → Int32 → St → Prop
  | 0, _, _, _ => False
  | n + 1, x1, x2, σ => ((σ.1 0 3) ≤ x2 → (((σ.1 0 3) < (nI ((σ.1 99 0).toNatClampNeg)) → (vp_in (σ.1 0 3) ((σ.1 99 0).toNatClampNeg) ∧ (k_Su_placeOfs_52 (sA σ 1 (σ.1 0 3) x1)))) ∧ (¬ (σ.1 0 3) < (nI ((σ.1 99 0).toNatClampNeg)) → True))) ∧ (¬ (σ.1 0 3) ≤ x2 → (vp_in x2 ((σ.1 99 0).toNatClampNeg) ∧ (((σ.1 1 x2.toNatClampNeg) = x1 → True) ∧ (¬ (σ.1 1 x2.toNatClampNeg) = x1 → ((k_Su_placeOfs_2 n) x1 (x2 + 1) σ)))))
def f_Su_placeOfs (a1 : Int32) (σ : St) : Int32 × St := f_Su_placeOfs_2 1000 a1 0 σ
def k_Su_placeOfs (a1 : Int32) (σ : St) : Prop := k_Su_placeOfs_2 1000 a1 0 σ
abbrev w_Su_placeOfs : List Cond := Cond.code y_Su_placeOfs b_Su_placeOfs 3 (some .int) :: gw
abbrev rm_Su_placeOfs : Room := { frames := 0, cells := 0, slots := 0, locals := 0 }
set_option maxHeartbeats 4000000 in
set_option maxRecDepth 100000 in
theorem c_Su_placeOfs (l : Launch) (D : va_G) (ty : Nat → ClassId) (h : Nat → Nat) (px : va_W) (sa : Nat → Nat) (σ : St) (sz : Nat) (a1 : Int32) (hk : k_Su_placeOfs a1 σ) : Met l y_Su_placeOfs w_Su_placeOfs rm_Su_placeOfs (va_Pc [.ref (h 0), .int a1] (fun U => U.heap.size = sz ∧ va_P D classes (Ws ty h σ px) U.heap ∧ va_K D classes (Ta ty) U ∧ NW U ∧ MK sa (va_A (Ws ty h σ px) sz) U U.heap ∧ va_D (fun _ => True) (Ws ty h σ px))) (va_Qi (fun r (u : St) => (r, u) = f_Su_placeOfs a1 σ) (fun u t => va_P D classes (Ws ty h u px) t.heap) (va_A (Ws ty h σ px) sz)) 0 0 (va_A (Ws ty h σ px) sz) := by
  refine Met.ofW (cc := b_Su_placeOfs) (maxL := 3) (ret := (some .int)) (by decide) rfl ?_
  intro p e s m args below meth c s₁ B hml hv
  obtain ⟨ha, hsz, hP, hK, hN, hM, hD0⟩ := hv
  have hx := B.exec
  have hb := B.bytes
  have hr := B.returns
  have hg : ∀ w ∈ gw, w.before args s = true := fun w h9 => atoms_spec (ws := w_Su_placeOfs) B.pre w (List.mem_cons_of_mem _ h9)
  have hown : s.vm.findClass "ClauseLedger$Sum" = some m.cls := findClass_of_methodNamed B.named
  have hlocks := B.notSynchronized
  subst hsz
  have hD := hD0.self (sz := s.heap.size)
  generalize hAe : va_A (Ws ty h σ px) s.heap.size = A at hD hM ⊢
  have hA : ∀ q : Nat, s.heap.size ≤ q → A q := fun q h9 => by rw [← hAe]; exact Or.inr h9
  have hS : va_S A s.heap s.heap [] := va_S.rf
  have he : entryFrame m args 3 = entryFrame m ([.ref (h 0), .int a1] : List Value).toArray 3 := by rw [ha]
  rw [he, lg_entry_eq]
  have hl := lv_entry ([.ref (h 0), .int a1]) (n := 3) (Nat.le_of_ble_eq_true rfl)
  generalize (lg_sl ([.ref (h 0), .int a1]) ++ List.replicate (3 - (lg_sl ([.ref (h 0), .int a1])).length) Slot.unset).toArray = ls at hl ⊢
  have hl : lv_has ls 3 [(0, .ref (h 0)), (1, .int a1)] := hl
  generalize hv : f_Su_placeOfs a1 σ = v
  replace hv := hv.symm
  have B82 : ∀ (H : Heap) (locs : List Loc) (ls : Array Slot) (σ : St), v = f_Su_placeOfs_82 σ → k_Su_placeOfs_82 σ → lv_has ls 3 [(0, .ref (h 0))] → va_P D classes (Ws ty h σ px) H → va_D A (Ws ty h σ px) → va_S A s.heap H locs → W p l e (headSpec w_Su_placeOfs rm_Su_placeOfs).room s m args below meth c H locs 0 0 (MQ below (va_Qi (fun r (u : St) => (r, u) = v) (fun u t => va_P D classes (Ws ty h u px) t.heap) A) args s 0 0 A) (F0 m 82 ls []) := by
    intro H locs ls σ hv hk hl hP hD hS
    unfold f_Su_placeOfs_82 at hv
    unfold k_Su_placeOfs_82 at hk
    refine lv_aload_n hx hb d_Su_placeOfs_82 rfl (lv_at hl 0 rfl) ?_
    refine va_get (v := .int (σ.1 0 3)) (C := R_Su) (T := T_Su) (N := 5) hx hb hg in_Su hown hK hP 0 rfl rfl 3 (by decide) (hg _ m_194) (fun _ h9 => h9) rfl d_Su_placeOfs_83 ?_
    refine lv_iconst (v := 1) hx hb d_Su_placeOfs_86 (by decide) ?_
    refine lv_isub hx hb d_Su_placeOfs_87 ?_
    exact W.iret hx hb hr (fun t ht hW => ⟨⟨_, _, rfl, hv.symm, by dsimp only; rw [ht]; exact hP⟩, hS.F ht⟩) hS.2.2 d_Su_placeOfs_88
  have B72 : ∀ (H : Heap) (locs : List Loc) (ls : Array Slot) (σ : St), v = f_Su_placeOfs_72 σ → k_Su_placeOfs_72 σ → lv_has ls 3 [(0, .ref (h 0))] → va_P D classes (Ws ty h σ px) H → va_D A (Ws ty h σ px) → va_S A s.heap H locs → W p l e (headSpec w_Su_placeOfs rm_Su_placeOfs).room s m args below meth c H locs 0 0 (MQ below (va_Qi (fun r (u : St) => (r, u) = v) (fun u t => va_P D classes (Ws ty h u px) t.heap) A) args s 0 0 A) (F0 m 72 ls []) := by
    intro H locs ls σ hv hk hl hP hD hS
    unfold f_Su_placeOfs_72 at hv
    unfold k_Su_placeOfs_72 at hk
    refine lv_aload_n hx hb d_Su_placeOfs_72 rfl (lv_at hl 0 rfl) ?_
    refine lv_dup hx hb d_Su_placeOfs_73 rfl ?_
    refine va_get (v := .int (σ.1 0 3)) (C := R_Su) (T := T_Su) (N := 5) hx hb hg in_Su hown hK hP 0 rfl rfl 3 (by decide) (hg _ m_194) (fun _ h9 => h9) rfl d_Su_placeOfs_74 ?_
    refine lv_iconst (v := 1) hx hb d_Su_placeOfs_77 (by decide) ?_
    refine lv_iadd hx hb d_Su_placeOfs_78 ?_
    refine va_put (v := .int ((σ.1 0 3) + 1)) (ty := .int) (C := R_Su) (T := T_Su) (N := 5) hx hb hg in_Su ty_Su ok_Su nm_Su hown hK hP hD hS 0 rfl rfl 3 (by decide) (hg _ m_194) (fun _ h9 => h9) rfl (by decide +kernel) rfl rfl (Nat.le_of_ble_eq_true rfl) d_Su_placeOfs_79 (fun H locs hP hD hS => ?_)
    have hP : va_P D classes (Ws ty h (sF σ 0 3 ((σ.1 0 3) + 1)) px) H := hP
    have hD : va_D A (Ws ty h (sF σ 0 3 ((σ.1 0 3) + 1)) px) := hD
    exact B82 _ _ _  (sF σ 0 3 ((σ.1 0 3) + 1)) hv hk (lv_sub hl [0] rfl) hP hD hS
  have B62 : ∀ (H : Heap) (locs : List Loc) (ls : Array Slot) (σ : St), v = f_Su_placeOfs_62 σ → k_Su_placeOfs_62 σ → lv_has ls 3 [(0, .ref (h 0))] → va_P D classes (Ws ty h σ px) H → va_D A (Ws ty h σ px) → va_S A s.heap H locs → W p l e (headSpec w_Su_placeOfs rm_Su_placeOfs).room s m args below meth c H locs 0 0 (MQ below (va_Qi (fun r (u : St) => (r, u) = v) (fun u t => va_P D classes (Ws ty h u px) t.heap) A) args s 0 0 A) (F0 m 62 ls []) := by
    intro H locs ls σ hv hk hl hP hD hS
    unfold f_Su_placeOfs_62 at hv
    unfold k_Su_placeOfs_62 at hk
    refine lv_aload_n hx hb d_Su_placeOfs_62 rfl (lv_at hl 0 rfl) ?_
    refine va_get (v := .ref (h 3)) (C := R_Su) (T := T_Su) (N := 5) hx hb hg in_Su hown hK hP 0 rfl rfl 2 (by decide) (hg _ m_193) (fun _ h9 => h9) rfl d_Su_placeOfs_63 ?_
    refine lv_aload_n hx hb d_Su_placeOfs_66 rfl (lv_at hl 0 rfl) ?_
    refine va_get (v := .int (σ.1 0 3)) (C := R_Su) (T := T_Su) (N := 5) hx hb hg in_Su hown hK hP 0 rfl rfl 3 (by decide) (hg _ m_194) (fun _ h9 => h9) rfl d_Su_placeOfs_67 ?_
    refine lv_lconst (v := 1) hx hb d_Su_placeOfs_70 (by decide) ?_
    obtain ⟨hk0, hk⟩ := hk
    refine va_last hx hb hK hP hD hS 3 1 rfl rfl hk0 d_Su_placeOfs_71 (fun H locs hP hD hS => ?_)
    have hP : va_P D classes (Ws ty h (sL σ 3 (σ.1 0 3) 1) px) H := hP
    have hD : va_D A (Ws ty h (sL σ 3 (σ.1 0 3) 1) px) := hD
    exact B72 _ _ _  (sL σ 3 (σ.1 0 3) 1) hv hk (lv_sub hl [0] rfl) hP hD hS
  have B52 : ∀ (H : Heap) (locs : List Loc) (ls : Array Slot) (σ : St), v = f_Su_placeOfs_52 σ → k_Su_placeOfs_52 σ → lv_has ls 3 [(0, .ref (h 0))] → va_P D classes (Ws ty h σ px) H → va_D A (Ws ty h σ px) → va_S A s.heap H locs → W p l e (headSpec w_Su_placeOfs rm_Su_placeOfs).room s m args below meth c H locs 0 0 (MQ below (va_Qi (fun r (u : St) => (r, u) = v) (fun u t => va_P D classes (Ws ty h u px) t.heap) A) args s 0 0 A) (F0 m 52 ls []) := by
    intro H locs ls σ hv hk hl hP hD hS
    unfold f_Su_placeOfs_52 at hv
    unfold k_Su_placeOfs_52 at hk
    refine lv_aload_n hx hb d_Su_placeOfs_52 rfl (lv_at hl 0 rfl) ?_
    refine va_get (v := .ref (h 2)) (C := R_Su) (T := T_Su) (N := 5) hx hb hg in_Su hown hK hP 0 rfl rfl 1 (by decide) (hg _ m_192) (fun _ h9 => h9) rfl d_Su_placeOfs_53 ?_
    refine lv_aload_n hx hb d_Su_placeOfs_56 rfl (lv_at hl 0 rfl) ?_
    refine va_get (v := .int (σ.1 0 3)) (C := R_Su) (T := T_Su) (N := 5) hx hb hg in_Su hown hK hP 0 rfl rfl 3 (by decide) (hg _ m_194) (fun _ h9 => h9) rfl d_Su_placeOfs_57 ?_
    refine lv_lconst (v := 0) hx hb d_Su_placeOfs_60 (by decide) ?_
    obtain ⟨hk0, hk⟩ := hk
    refine va_last hx hb hK hP hD hS 2 1 rfl rfl hk0 d_Su_placeOfs_61 (fun H locs hP hD hS => ?_)
    have hP : va_P D classes (Ws ty h (sL σ 2 (σ.1 0 3) 0) px) H := hP
    have hD : va_D A (Ws ty h (sL σ 2 (σ.1 0 3) 0) px) := hD
    exact B62 _ _ _  (sL σ 2 (σ.1 0 3) 0) hv hk (lv_sub hl [0] rfl) hP hD hS
  have B2 : ∀ (n2 : Nat) (H : Heap) (locs : List Loc) (ls : Array Slot) (x1 : Int32) (x2 : Int32) (σ : St), v = f_Su_placeOfs_2 n2 x1 x2 σ → k_Su_placeOfs_2 n2 x1 x2 σ → lv_has ls 3 [(0, .ref (h 0)), (1, .int x1), (2, .int x2)] → va_P D classes (Ws ty h σ px) H → va_D A (Ws ty h σ px) → va_S A s.heap H locs → W p l e (headSpec w_Su_placeOfs rm_Su_placeOfs).room s m args below meth c H locs 0 0 (MQ below (va_Qi (fun r (u : St) => (r, u) = v) (fun u t => va_P D classes (Ws ty h u px) t.heap) A) args s 0 0 A) (F0 m 2 ls []) := by
    intro n2
    induction n2 with
    | zero => intro H locs ls x1 x2 σ hv hk hl hP hD hS; exact hk.elim
    | succ n2 ih2 =>
      intro H locs ls x1 x2 σ hv hk hl hP hD hS
      rw [f_Su_placeOfs_2] at hv
      rw [k_Su_placeOfs_2] at hk
      refine lv_iload_n hx hb d_Su_placeOfs_2 rfl (lv_at hl 2 rfl) ?_
      refine lv_aload_n hx hb d_Su_placeOfs_3 rfl (lv_at hl 0 rfl) ?_
      refine va_get (v := .int (σ.1 0 3)) (C := R_Su) (T := T_Su) (N := 5) hx hb hg in_Su hown hK hP 0 rfl rfl 3 (by decide) (hg _ m_194) (fun _ h9 => h9) rfl d_Su_placeOfs_4 ?_
      refine lv_icmp_ge (tgt := 28) hx hb d_Su_placeOfs_7 (by decide) (fun hc => ?_) (fun hc => ?_)
      · have hv := hv.trans (if_pos hc)
        have hk := hk.1 hc
        refine lv_aload_n hx hb d_Su_placeOfs_28 rfl (lv_at hl 0 rfl) ?_
        refine va_get (v := .int (σ.1 0 3)) (C := R_Su) (T := T_Su) (N := 5) hx hb hg in_Su hown hK hP 0 rfl rfl 3 (by decide) (hg _ m_194) (fun _ h9 => h9) rfl d_Su_placeOfs_29 ?_
        refine lv_aload_n hx hb d_Su_placeOfs_32 rfl (lv_at hl 0 rfl) ?_
        refine va_get (v := .ref (h 1)) (C := R_Su) (T := T_Su) (N := 5) hx hb hg in_Su hown hK hP 0 rfl rfl 0 (by decide) (hg _ m_191) (fun _ h9 => h9) rfl d_Su_placeOfs_33 ?_
        refine va_alen (v := nI ((σ.1 99 0).toNatClampNeg)) hx hb hK hP 1 0 rfl rfl rfl d_Su_placeOfs_36 ?_
        refine lv_icmp_lt (tgt := 42) hx hb d_Su_placeOfs_37 (by decide) (fun hc => ?_) (fun hc => ?_)
        · have hv := hv.trans (if_pos hc)
          have hk := hk.1 hc
          refine lv_aload_n hx hb d_Su_placeOfs_42 rfl (lv_at hl 0 rfl) ?_
          refine va_get (v := .ref (h 1)) (C := R_Su) (T := T_Su) (N := 5) hx hb hg in_Su hown hK hP 0 rfl rfl 0 (by decide) (hg _ m_191) (fun _ h9 => h9) rfl d_Su_placeOfs_43 ?_
          refine lv_aload_n hx hb d_Su_placeOfs_46 rfl (lv_at hl 0 rfl) ?_
          refine va_get (v := .int (σ.1 0 3)) (C := R_Su) (T := T_Su) (N := 5) hx hb hg in_Su hown hK hP 0 rfl rfl 3 (by decide) (hg _ m_194) (fun _ h9 => h9) rfl d_Su_placeOfs_47 ?_
          refine lv_iload_n hx hb d_Su_placeOfs_50 rfl (lv_at hl 1 rfl) ?_
          obtain ⟨hk0, hk⟩ := hk
          refine va_iast hx hb hK hP hD hS 1 0 rfl rfl hk0 d_Su_placeOfs_51 (fun H locs hP hD hS => ?_)
          have hP : va_P D classes (Ws ty h (sA σ 1 (σ.1 0 3) x1) px) H := hP
          have hD : va_D A (Ws ty h (sA σ 1 (σ.1 0 3) x1) px) := hD
          exact B52 _ _ _  (sA σ 1 (σ.1 0 3) x1) hv hk (lv_sub hl [0] rfl) hP hD hS
        · have hv := hv.trans (if_neg hc)
          have hk := hk.2 hc
          refine lv_iconst (v := -1) hx hb d_Su_placeOfs_40 (by decide) ?_
          exact W.iret hx hb hr (fun t ht hW => ⟨⟨_, _, rfl, hv.symm, by dsimp only; rw [ht]; exact hP⟩, hS.F ht⟩) hS.2.2 d_Su_placeOfs_41
      · have hv := hv.trans (if_neg hc)
        have hk := hk.2 hc
        refine lv_aload_n hx hb d_Su_placeOfs_10 rfl (lv_at hl 0 rfl) ?_
        refine va_get (v := .ref (h 1)) (C := R_Su) (T := T_Su) (N := 5) hx hb hg in_Su hown hK hP 0 rfl rfl 0 (by decide) (hg _ m_191) (fun _ h9 => h9) rfl d_Su_placeOfs_11 ?_
        refine lv_iload_n hx hb d_Su_placeOfs_14 rfl (lv_at hl 2 rfl) ?_
        obtain ⟨hk0, hk⟩ := hk
        refine va_iald hx hb hK hP 1 0 rfl rfl hk0 d_Su_placeOfs_15 ?_
        refine lv_iload_n hx hb d_Su_placeOfs_16 rfl (lv_at hl 1 rfl) ?_
        refine lv_icmp_ne (tgt := 22) hx hb d_Su_placeOfs_17 (by decide) (fun hc => ?_) (fun hc => ?_)
        · have hv := hv.trans (if_neg hc)
          have hk := hk.2 hc
          refine lv_iinc (k := 2) (v := x2 + 1) (lv' := [(2, .int (x2 + 1)), (0, .ref (h 0)), (1, .int x1)]) hx hb d_Su_placeOfs_22 hl rfl (by first | rfl | simp [lit1, litm1]) (by decide) rfl (fun ls hl => ?_)
          refine lv_goto (tgt := 2) hx hb d_Su_placeOfs_25 (by decide) ?_
          exact ih2 _ _ _ x1 (x2 + 1) σ hv hk (lv_sub hl [1, 2, 0] rfl) hP hD hS
        · have hv := hv.trans (if_pos hc)
          have hk := hk.1 hc
          refine lv_iload_n hx hb d_Su_placeOfs_20 rfl (lv_at hl 2 rfl) ?_
          exact W.iret hx hb hr (fun t ht hW => ⟨⟨_, _, rfl, hv.symm, by dsimp only; rw [ht]; exact hP⟩, hS.F ht⟩) hS.2.2 d_Su_placeOfs_21
  unfold f_Su_placeOfs at hv
  unfold k_Su_placeOfs at hk
  refine lv_iconst (v := 0) hx hb d_Su_placeOfs_0 (by decide) ?_
  refine lv_istore_n (lv' := [(2, .int 0), (0, .ref (h 0)), (1, .int a1)]) hx hb d_Su_placeOfs_1 rfl hl (by decide) rfl (fun ls hl => ?_)
  exact B2 1000 _ _ _ a1 0 σ hv hk (lv_sub hl [1, 2, 0] rfl) hP hD hS

-- ClauseLedger$Sum.addEntry(IJJ)V
abbrev b_Su_addEntrys : ByteArray := prog_10_method_6_code
def y_Su_addEntrys : MethodName := ⟨"ClauseLedger$Sum", "addEntry", "(IJJ)V"⟩
theorem hd_Su_addEntrys : y_Su_addEntrys.cls ≠ "java/lang/invoke/MethodHandle" ∧ y_Su_addEntrys.cls ≠ "java/lang/invoke/VarHandle" ∧ (parseMethodDescriptor y_Su_addEntrys.desc).map (fun d => d.parameters.length) = some 3 := by decide +kernel
theorem d_Su_addEntrys_0 : decode b_Su_addEntrys 0 = .ok (.lload_n 2, 1) := by decide +kernel
theorem d_Su_addEntrys_1 : decode b_Su_addEntrys 1 = .ok (.lload 4, 2) := by decide +kernel
theorem d_Su_addEntrys_3 : decode b_Su_addEntrys 3 = .ok (.invokestatic 34, 3) := by decide +kernel
theorem d_Su_addEntrys_6 : decode b_Su_addEntrys 6 = .ok (.lstore 6, 2) := by decide +kernel
theorem d_Su_addEntrys_8 : decode b_Su_addEntrys 8 = .ok (.lload 6, 2) := by decide +kernel
theorem d_Su_addEntrys_10 : decode b_Su_addEntrys 10 = .ok (.lconst 0, 1) := by decide +kernel
theorem d_Su_addEntrys_11 : decode b_Su_addEntrys 11 = .ok (.lcmp, 1) := by decide +kernel
theorem d_Su_addEntrys_12 : decode b_Su_addEntrys 12 = .ok (.ifCond .eq 18, 3) := by decide +kernel
theorem d_Su_addEntrys_15 : decode b_Su_addEntrys 15 = .ok (.lload_n 2, 1) := by decide +kernel
theorem d_Su_addEntrys_16 : decode b_Su_addEntrys 16 = .ok (.lload 6, 2) := by decide +kernel
theorem d_Su_addEntrys_18 : decode b_Su_addEntrys 18 = .ok (.ldiv, 1) := by decide +kernel
theorem d_Su_addEntrys_19 : decode b_Su_addEntrys 19 = .ok (.lload 4, 2) := by decide +kernel
theorem d_Su_addEntrys_21 : decode b_Su_addEntrys 21 = .ok (.lload 6, 2) := by decide +kernel
theorem d_Su_addEntrys_23 : decode b_Su_addEntrys 23 = .ok (.ldiv, 1) := by decide +kernel
theorem d_Su_addEntrys_24 : decode b_Su_addEntrys 24 = .ok (.invokestatic 38, 3) := by decide +kernel
theorem d_Su_addEntrys_27 : decode b_Su_addEntrys 27 = .ok (.ifCond .eq 9, 3) := by decide +kernel
theorem d_Su_addEntrys_30 : decode b_Su_addEntrys 30 = .ok (.aload_n 0, 1) := by decide +kernel
theorem d_Su_addEntrys_31 : decode b_Su_addEntrys 31 = .ok (.iconst 1, 1) := by decide +kernel
theorem d_Su_addEntrys_32 : decode b_Su_addEntrys 32 = .ok (.putfield 15, 3) := by decide +kernel
theorem d_Su_addEntrys_35 : decode b_Su_addEntrys 35 = .ok (.return_, 1) := by decide +kernel
theorem d_Su_addEntrys_36 : decode b_Su_addEntrys 36 = .ok (.aload_n 0, 1) := by decide +kernel
theorem d_Su_addEntrys_37 : decode b_Su_addEntrys 37 = .ok (.iload_n 1, 1) := by decide +kernel
theorem d_Su_addEntrys_38 : decode b_Su_addEntrys 38 = .ok (.invokevirtual 42, 3) := by decide +kernel
theorem d_Su_addEntrys_41 : decode b_Su_addEntrys 41 = .ok (.istore 8, 2) := by decide +kernel
theorem d_Su_addEntrys_43 : decode b_Su_addEntrys 43 = .ok (.iload 8, 2) := by decide +kernel
theorem d_Su_addEntrys_45 : decode b_Su_addEntrys 45 = .ok (.iconst (-1), 1) := by decide +kernel
theorem d_Su_addEntrys_46 : decode b_Su_addEntrys 46 = .ok (.if_icmp .ne 9, 3) := by decide +kernel
theorem d_Su_addEntrys_49 : decode b_Su_addEntrys 49 = .ok (.aload_n 0, 1) := by decide +kernel
theorem d_Su_addEntrys_50 : decode b_Su_addEntrys 50 = .ok (.iconst 1, 1) := by decide +kernel
theorem d_Su_addEntrys_51 : decode b_Su_addEntrys 51 = .ok (.putfield 15, 3) := by decide +kernel
theorem d_Su_addEntrys_54 : decode b_Su_addEntrys 54 = .ok (.return_, 1) := by decide +kernel
theorem d_Su_addEntrys_55 : decode b_Su_addEntrys 55 = .ok (.aload_n 0, 1) := by decide +kernel
theorem d_Su_addEntrys_56 : decode b_Su_addEntrys 56 = .ok (.getfield 23, 3) := by decide +kernel
theorem d_Su_addEntrys_59 : decode b_Su_addEntrys 59 = .ok (.iload 8, 2) := by decide +kernel
theorem d_Su_addEntrys_61 : decode b_Su_addEntrys 61 = .ok (.laload, 1) := by decide +kernel
theorem d_Su_addEntrys_62 : decode b_Su_addEntrys 62 = .ok (.lload 4, 2) := by decide +kernel
theorem d_Su_addEntrys_64 : decode b_Su_addEntrys 64 = .ok (.lload 6, 2) := by decide +kernel
theorem d_Su_addEntrys_66 : decode b_Su_addEntrys 66 = .ok (.ldiv, 1) := by decide +kernel
theorem d_Su_addEntrys_67 : decode b_Su_addEntrys 67 = .ok (.lmul, 1) := by decide +kernel
theorem d_Su_addEntrys_68 : decode b_Su_addEntrys 68 = .ok (.lload_n 2, 1) := by decide +kernel
theorem d_Su_addEntrys_69 : decode b_Su_addEntrys 69 = .ok (.lload 6, 2) := by decide +kernel
theorem d_Su_addEntrys_71 : decode b_Su_addEntrys 71 = .ok (.ldiv, 1) := by decide +kernel
theorem d_Su_addEntrys_72 : decode b_Su_addEntrys 72 = .ok (.aload_n 0, 1) := by decide +kernel
theorem d_Su_addEntrys_73 : decode b_Su_addEntrys 73 = .ok (.getfield 27, 3) := by decide +kernel
theorem d_Su_addEntrys_76 : decode b_Su_addEntrys 76 = .ok (.iload 8, 2) := by decide +kernel
theorem d_Su_addEntrys_78 : decode b_Su_addEntrys 78 = .ok (.laload, 1) := by decide +kernel
theorem d_Su_addEntrys_79 : decode b_Su_addEntrys 79 = .ok (.lmul, 1) := by decide +kernel
theorem d_Su_addEntrys_80 : decode b_Su_addEntrys 80 = .ok (.ladd, 1) := by decide +kernel
theorem d_Su_addEntrys_81 : decode b_Su_addEntrys 81 = .ok (.lstore 9, 2) := by decide +kernel
theorem d_Su_addEntrys_83 : decode b_Su_addEntrys 83 = .ok (.aload_n 0, 1) := by decide +kernel
theorem d_Su_addEntrys_84 : decode b_Su_addEntrys 84 = .ok (.getfield 27, 3) := by decide +kernel
theorem d_Su_addEntrys_87 : decode b_Su_addEntrys 87 = .ok (.iload 8, 2) := by decide +kernel
theorem d_Su_addEntrys_89 : decode b_Su_addEntrys 89 = .ok (.laload, 1) := by decide +kernel
theorem d_Su_addEntrys_90 : decode b_Su_addEntrys 90 = .ok (.lload 4, 2) := by decide +kernel
theorem d_Su_addEntrys_92 : decode b_Su_addEntrys 92 = .ok (.lload 6, 2) := by decide +kernel
theorem d_Su_addEntrys_94 : decode b_Su_addEntrys 94 = .ok (.ldiv, 1) := by decide +kernel
theorem d_Su_addEntrys_95 : decode b_Su_addEntrys 95 = .ok (.lmul, 1) := by decide +kernel
theorem d_Su_addEntrys_96 : decode b_Su_addEntrys 96 = .ok (.lstore 11, 2) := by decide +kernel
theorem d_Su_addEntrys_98 : decode b_Su_addEntrys 98 = .ok (.lload 9, 2) := by decide +kernel
theorem d_Su_addEntrys_100 : decode b_Su_addEntrys 100 = .ok (.lload 11, 2) := by decide +kernel
theorem d_Su_addEntrys_102 : decode b_Su_addEntrys 102 = .ok (.invokestatic 34, 3) := by decide +kernel
theorem d_Su_addEntrys_105 : decode b_Su_addEntrys 105 = .ok (.lstore 13, 2) := by decide +kernel
theorem d_Su_addEntrys_107 : decode b_Su_addEntrys 107 = .ok (.lload 13, 2) := by decide +kernel
theorem d_Su_addEntrys_109 : decode b_Su_addEntrys 109 = .ok (.lconst 0, 1) := by decide +kernel
theorem d_Su_addEntrys_110 : decode b_Su_addEntrys 110 = .ok (.lcmp, 1) := by decide +kernel
theorem d_Su_addEntrys_111 : decode b_Su_addEntrys 111 = .ok (.ifCond .eq 19, 3) := by decide +kernel
theorem d_Su_addEntrys_114 : decode b_Su_addEntrys 114 = .ok (.lload 9, 2) := by decide +kernel
theorem d_Su_addEntrys_116 : decode b_Su_addEntrys 116 = .ok (.lload 13, 2) := by decide +kernel
theorem d_Su_addEntrys_118 : decode b_Su_addEntrys 118 = .ok (.ldiv, 1) := by decide +kernel
theorem d_Su_addEntrys_119 : decode b_Su_addEntrys 119 = .ok (.lload 11, 2) := by decide +kernel
theorem d_Su_addEntrys_121 : decode b_Su_addEntrys 121 = .ok (.lload 13, 2) := by decide +kernel
theorem d_Su_addEntrys_123 : decode b_Su_addEntrys 123 = .ok (.ldiv, 1) := by decide +kernel
theorem d_Su_addEntrys_124 : decode b_Su_addEntrys 124 = .ok (.invokestatic 38, 3) := by decide +kernel
theorem d_Su_addEntrys_127 : decode b_Su_addEntrys 127 = .ok (.ifCond .eq 9, 3) := by decide +kernel
theorem d_Su_addEntrys_130 : decode b_Su_addEntrys 130 = .ok (.aload_n 0, 1) := by decide +kernel
theorem d_Su_addEntrys_131 : decode b_Su_addEntrys 131 = .ok (.iconst 1, 1) := by decide +kernel
theorem d_Su_addEntrys_132 : decode b_Su_addEntrys 132 = .ok (.putfield 15, 3) := by decide +kernel
theorem d_Su_addEntrys_135 : decode b_Su_addEntrys 135 = .ok (.return_, 1) := by decide +kernel
theorem d_Su_addEntrys_136 : decode b_Su_addEntrys 136 = .ok (.aload_n 0, 1) := by decide +kernel
theorem d_Su_addEntrys_137 : decode b_Su_addEntrys 137 = .ok (.getfield 23, 3) := by decide +kernel
theorem d_Su_addEntrys_140 : decode b_Su_addEntrys 140 = .ok (.iload 8, 2) := by decide +kernel
theorem d_Su_addEntrys_142 : decode b_Su_addEntrys 142 = .ok (.lload 9, 2) := by decide +kernel
theorem d_Su_addEntrys_144 : decode b_Su_addEntrys 144 = .ok (.lload 13, 2) := by decide +kernel
theorem d_Su_addEntrys_146 : decode b_Su_addEntrys 146 = .ok (.ldiv, 1) := by decide +kernel
theorem d_Su_addEntrys_147 : decode b_Su_addEntrys 147 = .ok (.lastore, 1) := by decide +kernel
theorem d_Su_addEntrys_148 : decode b_Su_addEntrys 148 = .ok (.aload_n 0, 1) := by decide +kernel
theorem d_Su_addEntrys_149 : decode b_Su_addEntrys 149 = .ok (.getfield 27, 3) := by decide +kernel
theorem d_Su_addEntrys_152 : decode b_Su_addEntrys 152 = .ok (.iload 8, 2) := by decide +kernel
theorem d_Su_addEntrys_154 : decode b_Su_addEntrys 154 = .ok (.lload 11, 2) := by decide +kernel
theorem d_Su_addEntrys_156 : decode b_Su_addEntrys 156 = .ok (.lload 13, 2) := by decide +kernel
theorem d_Su_addEntrys_158 : decode b_Su_addEntrys 158 = .ok (.ldiv, 1) := by decide +kernel
theorem d_Su_addEntrys_159 : decode b_Su_addEntrys 159 = .ok (.lastore, 1) := by decide +kernel
theorem d_Su_addEntrys_160 : decode b_Su_addEntrys 160 = .ok (.return_, 1) := by decide +kernel
def f_Su_addEntrys_35 (σ : St) : St := σ
def k_Su_addEntrys_35 (σ : St) : Prop := True
def f_Su_addEntrys_30 (σ : St) : St := f_Su_addEntrys_35 (sF σ 0 4 1)
def k_Su_addEntrys_30 (σ : St) : Prop := k_Su_addEntrys_35 (sF σ 0 4 1)
def f_Su_addEntrys_54 (σ : St) : St := σ
def k_Su_addEntrys_54 (σ : St) : Prop := True
def f_Su_addEntrys_135 (σ : St) : St := σ
def k_Su_addEntrys_135 (σ : St) : Prop := True
def f_Su_addEntrys_130 (σ : St) : St := f_Su_addEntrys_135 (sF σ 0 4 1)
def k_Su_addEntrys_130 (σ : St) : Prop := k_Su_addEntrys_135 (sF σ 0 4 1)
def f_Su_addEntrys_160 (σ : St) : St := σ
def k_Su_addEntrys_160 (σ : St) : Prop := True
def f_Su_addEntrys_148 (x8 : Int32) (x11 : Int64) (x13 : Int64) (σ : St) : St := f_Su_addEntrys_160 (sL σ 3 x8 (x11 / x13))
def k_Su_addEntrys_148 (x8 : Int32) (x11 : Int64) (x13 : Int64) (σ : St) : Prop := (¬ (x13 : Int64) = 0) ∧ (vp_in x8 ((σ.1 99 0).toNatClampNeg) ∧ (k_Su_addEntrys_160 (sL σ 3 x8 (x11 / x13))))
def f_Su_addEntrys_107 (x8 : Int32) (x9 : Int64) (x11 : Int64) (x13 : Int64) (σ : St) : St := if (lg_cmp x13 0) = 0 then (f_Su_addEntrys_130 σ) else (if (f_Su_isBeyonds (x9 / x13) (x11 / x13) σ) = 0 then (f_Su_addEntrys_148 x8 x11 x13 (sL σ 2 x8 (x9 / x13))) else (f_Su_addEntrys_130 σ))
def k_Su_addEntrys_107 (x8 : Int32) (x9 : Int64) (x11 : Int64) (x13 : Int64) (σ : St) : Prop := ((lg_cmp x13 0) = 0 → (k_Su_addEntrys_130 σ)) ∧ (¬ (lg_cmp x13 0) = 0 → ((¬ (x13 : Int64) = 0) ∧ ((¬ (x13 : Int64) = 0) ∧ ((k_Su_isBeyonds (x9 / x13) (x11 / x13) σ) ∧ (((f_Su_isBeyonds (x9 / x13) (x11 / x13) σ) = 0 → ((¬ (x13 : Int64) = 0) ∧ (vp_in x8 ((σ.1 99 0).toNatClampNeg) ∧ (k_Su_addEntrys_148 x8 x11 x13 (sL σ 2 x8 (x9 / x13)))))) ∧ (¬ (f_Su_isBeyonds (x9 / x13) (x11 / x13) σ) = 0 → (k_Su_addEntrys_130 σ)))))))
def f_Su_addEntrys_98 (x8 : Int32) (x9 : Int64) (x11 : Int64) (σ : St) : St := f_Su_addEntrys_107 x8 x9 x11 (f_CL_gcds x9 x11 σ) σ
def k_Su_addEntrys_98 (x8 : Int32) (x9 : Int64) (x11 : Int64) (σ : St) : Prop := (k_CL_gcds x9 x11 σ) ∧ (k_Su_addEntrys_107 x8 x9 x11 (f_CL_gcds x9 x11 σ) σ)
def f_Su_addEntrys_83 (x4 : Int64) (x6 : Int64) (x8 : Int32) (x9 : Int64) (σ : St) : St := f_Su_addEntrys_98 x8 x9 ((σ.2 3 x8.toNatClampNeg) * (x4 / x6)) σ
def k_Su_addEntrys_83 (x4 : Int64) (x6 : Int64) (x8 : Int32) (x9 : Int64) (σ : St) : Prop := vp_in x8 ((σ.1 99 0).toNatClampNeg) ∧ ((¬ (x6 : Int64) = 0) ∧ (k_Su_addEntrys_98 x8 x9 ((σ.2 3 x8.toNatClampNeg) * (x4 / x6)) σ))
def f_Su_addEntrys_43 (x2 : Int64) (x4 : Int64) (x6 : Int64) (x8 : Int32) (σ : St) : St := if x8 = (-1) then (f_Su_addEntrys_54 (sF σ 0 4 1)) else (f_Su_addEntrys_83 x4 x6 x8 (((σ.2 2 x8.toNatClampNeg) * (x4 / x6)) + ((x2 / x6) * (σ.2 3 x8.toNatClampNeg))) σ)
def k_Su_addEntrys_43 (x2 : Int64) (x4 : Int64) (x6 : Int64) (x8 : Int32) (σ : St) : Prop := (x8 = (-1) → (k_Su_addEntrys_54 (sF σ 0 4 1))) ∧ (¬ x8 = (-1) → (vp_in x8 ((σ.1 99 0).toNatClampNeg) ∧ ((¬ (x6 : Int64) = 0) ∧ ((¬ (x6 : Int64) = 0) ∧ (vp_in x8 ((σ.1 99 0).toNatClampNeg) ∧ (k_Su_addEntrys_83 x4 x6 x8 (((σ.2 2 x8.toNatClampNeg) * (x4 / x6)) + ((x2 / x6) * (σ.2 3 x8.toNatClampNeg))) σ))))))
def f_Su_addEntrys_41 (x2 : Int64) (x4 : Int64) (x6 : Int64) (s0 : Int32) (σ : St) : St := f_Su_addEntrys_43 x2 x4 x6 s0 σ
def k_Su_addEntrys_41 (x2 : Int64) (x4 : Int64) (x6 : Int64) (s0 : Int32) (σ : St) : Prop := k_Su_addEntrys_43 x2 x4 x6 s0 σ
def f_Su_addEntrys_8 (x1 : Int32) (x2 : Int64) (x4 : Int64) (x6 : Int64) (σ : St) : St := if (lg_cmp x6 0) = 0 then (f_Su_addEntrys_30 σ) else (if (f_Su_isBeyonds (x2 / x6) (x4 / x6) σ) = 0 then (f_Su_addEntrys_41 x2 x4 x6 ((f_Su_placeOfs x1 σ).1) ((f_Su_placeOfs x1 σ).2)) else (f_Su_addEntrys_30 σ))
def k_Su_addEntrys_8 (x1 : Int32) (x2 : Int64) (x4 : Int64) (x6 : Int64) (σ : St) : Prop := ((lg_cmp x6 0) = 0 → (k_Su_addEntrys_30 σ)) ∧ (¬ (lg_cmp x6 0) = 0 → ((¬ (x6 : Int64) = 0) ∧ ((¬ (x6 : Int64) = 0) ∧ ((k_Su_isBeyonds (x2 / x6) (x4 / x6) σ) ∧ (((f_Su_isBeyonds (x2 / x6) (x4 / x6) σ) = 0 → ((k_Su_placeOfs x1 σ) ∧ (k_Su_addEntrys_41 x2 x4 x6 ((f_Su_placeOfs x1 σ).1) ((f_Su_placeOfs x1 σ).2)))) ∧ (¬ (f_Su_isBeyonds (x2 / x6) (x4 / x6) σ) = 0 → (k_Su_addEntrys_30 σ)))))))
def f_Su_addEntrys (a1 : Int32) (a2 : Int64) (a4 : Int64) (σ : St) : St := f_Su_addEntrys_8 a1 a2 a4 (f_CL_gcds a2 a4 σ) σ
def k_Su_addEntrys (a1 : Int32) (a2 : Int64) (a4 : Int64) (σ : St) : Prop := (k_CL_gcds a2 a4 σ) ∧ (k_Su_addEntrys_8 a1 a2 a4 (f_CL_gcds a2 a4 σ) σ)
abbrev w_Su_addEntrys : List Cond := Cond.code y_Su_addEntrys b_Su_addEntrys 15 none :: gw
abbrev rm_Su_addEntrys : Room := { frames := 1, cells := 0, slots := 0, locals := 30 }
set_option maxHeartbeats 4000000 in
set_option maxRecDepth 100000 in
theorem c_Su_addEntrys (l : Launch) (D : va_G) (ty : Nat → ClassId) (h : Nat → Nat) (px : va_W) (sa : Nat → Nat) (σ : St) (sz : Nat) (a1 : Int32) (a2 : Int64) (a4 : Int64) (hk : k_Su_addEntrys a1 a2 a4 σ) : Met l y_Su_addEntrys w_Su_addEntrys rm_Su_addEntrys (va_Pc [.ref (h 0), .int a1, .long a2, .long a4] (fun U => U.heap.size = sz ∧ va_P D classes (Ws ty h σ px) U.heap ∧ va_K D classes (Ta ty) U ∧ NW U ∧ MK sa (va_A (Ws ty h σ px) sz) U U.heap ∧ va_D (fun _ => True) (Ws ty h σ px))) (va_Qv (fun u : St => u = f_Su_addEntrys a1 a2 a4 σ) (fun u t => va_P D classes (Ws ty h u px) t.heap) (va_A (Ws ty h σ px) sz)) 0 0 (va_A (Ws ty h σ px) sz) := by
  refine Met.ofW (cc := b_Su_addEntrys) (maxL := 15) (ret := none) (by decide) rfl ?_
  intro p e s m args below meth c s₁ B hml hv
  obtain ⟨ha, hsz, hP, hK, hN, hM, hD0⟩ := hv
  have hx := B.exec
  have hb := B.bytes
  have hr := B.returns
  have hg : ∀ w ∈ gw, w.before args s = true := fun w h9 => atoms_spec (ws := w_Su_addEntrys) B.pre w (List.mem_cons_of_mem _ h9)
  have hown : s.vm.findClass "ClauseLedger$Sum" = some m.cls := findClass_of_methodNamed B.named
  have hlocks := B.notSynchronized
  subst hsz
  have hD := hD0.self (sz := s.heap.size)
  generalize hAe : va_A (Ws ty h σ px) s.heap.size = A at hD hM ⊢
  have hA : ∀ q : Nat, s.heap.size ≤ q → A q := fun q h9 => by rw [← hAe]; exact Or.inr h9
  have hS : va_S A s.heap s.heap [] := va_S.rf
  have he : entryFrame m args 15 = entryFrame m ([.ref (h 0), .int a1, .long a2, .long a4] : List Value).toArray 15 := by rw [ha]
  rw [he, lg_entry_eq]
  have hl := lv_entry ([.ref (h 0), .int a1, .long a2, .long a4]) (n := 15) (Nat.le_of_ble_eq_true rfl)
  generalize (lg_sl ([.ref (h 0), .int a1, .long a2, .long a4]) ++ List.replicate (15 - (lg_sl ([.ref (h 0), .int a1, .long a2, .long a4])).length) Slot.unset).toArray = ls at hl ⊢
  have hl : lv_has ls 15 [(0, .ref (h 0)), (1, .int a1), (2, .long a2), (4, .long a4)] := hl
  generalize hv : f_Su_addEntrys a1 a2 a4 σ = v
  replace hv := hv.symm
  have B35 : ∀ (H : Heap) (locs : List Loc) (ls : Array Slot) (σ : St), v = f_Su_addEntrys_35 σ → k_Su_addEntrys_35 σ → lv_has ls 15 [] → va_P D classes (Ws ty h σ px) H → va_D A (Ws ty h σ px) → va_S A s.heap H locs → W p l e (headSpec w_Su_addEntrys rm_Su_addEntrys).room s m args below meth c H locs 0 0 (MQ below (va_Qv (fun u : St => u = v) (fun u t => va_P D classes (Ws ty h u px) t.heap) A) args s 0 0 A) (F0 m 35 ls []) := by
    intro H locs ls σ hv hk hl hP hD hS
    unfold f_Su_addEntrys_35 at hv
    unfold k_Su_addEntrys_35 at hk
    exact W.vret hx hb hr (fun t ht hW => ⟨⟨_, rfl, hv.symm, by dsimp only; rw [ht]; exact hP⟩, hS.F ht⟩) hS.2.2 d_Su_addEntrys_35
  have B30 : ∀ (H : Heap) (locs : List Loc) (ls : Array Slot) (σ : St), v = f_Su_addEntrys_30 σ → k_Su_addEntrys_30 σ → lv_has ls 15 [(0, .ref (h 0))] → va_P D classes (Ws ty h σ px) H → va_D A (Ws ty h σ px) → va_S A s.heap H locs → W p l e (headSpec w_Su_addEntrys rm_Su_addEntrys).room s m args below meth c H locs 0 0 (MQ below (va_Qv (fun u : St => u = v) (fun u t => va_P D classes (Ws ty h u px) t.heap) A) args s 0 0 A) (F0 m 30 ls []) := by
    intro H locs ls σ hv hk hl hP hD hS
    unfold f_Su_addEntrys_30 at hv
    unfold k_Su_addEntrys_30 at hk
    refine lv_aload_n hx hb d_Su_addEntrys_30 rfl (lv_at hl 0 rfl) ?_
    refine lv_iconst (v := 1) hx hb d_Su_addEntrys_31 (by decide) ?_
    refine va_put (v := .int 1) (ty := .boolean) (C := R_Su) (T := T_Su) (N := 5) hx hb hg in_Su ty_Su ok_Su nm_Su hown hK hP hD hS 0 rfl rfl 4 (by decide) (hg _ m_195) (fun _ h9 => h9) rfl (by decide +kernel) rfl rfl (Nat.le_of_ble_eq_true rfl) d_Su_addEntrys_32 (fun H locs hP hD hS => ?_)
    have hP : va_P D classes (Ws ty h (sF σ 0 4 1) px) H := hP
    have hD : va_D A (Ws ty h (sF σ 0 4 1) px) := hD
    exact B35 _ _ _  (sF σ 0 4 1) hv hk (lv_sub hl [] rfl) hP hD hS
  have B54 : ∀ (H : Heap) (locs : List Loc) (ls : Array Slot) (σ : St), v = f_Su_addEntrys_54 σ → k_Su_addEntrys_54 σ → lv_has ls 15 [] → va_P D classes (Ws ty h σ px) H → va_D A (Ws ty h σ px) → va_S A s.heap H locs → W p l e (headSpec w_Su_addEntrys rm_Su_addEntrys).room s m args below meth c H locs 0 0 (MQ below (va_Qv (fun u : St => u = v) (fun u t => va_P D classes (Ws ty h u px) t.heap) A) args s 0 0 A) (F0 m 54 ls []) := by
    intro H locs ls σ hv hk hl hP hD hS
    unfold f_Su_addEntrys_54 at hv
    unfold k_Su_addEntrys_54 at hk
    exact W.vret hx hb hr (fun t ht hW => ⟨⟨_, rfl, hv.symm, by dsimp only; rw [ht]; exact hP⟩, hS.F ht⟩) hS.2.2 d_Su_addEntrys_54
  have B135 : ∀ (H : Heap) (locs : List Loc) (ls : Array Slot) (σ : St), v = f_Su_addEntrys_135 σ → k_Su_addEntrys_135 σ → lv_has ls 15 [] → va_P D classes (Ws ty h σ px) H → va_D A (Ws ty h σ px) → va_S A s.heap H locs → W p l e (headSpec w_Su_addEntrys rm_Su_addEntrys).room s m args below meth c H locs 0 0 (MQ below (va_Qv (fun u : St => u = v) (fun u t => va_P D classes (Ws ty h u px) t.heap) A) args s 0 0 A) (F0 m 135 ls []) := by
    intro H locs ls σ hv hk hl hP hD hS
    unfold f_Su_addEntrys_135 at hv
    unfold k_Su_addEntrys_135 at hk
    exact W.vret hx hb hr (fun t ht hW => ⟨⟨_, rfl, hv.symm, by dsimp only; rw [ht]; exact hP⟩, hS.F ht⟩) hS.2.2 d_Su_addEntrys_135
  have B130 : ∀ (H : Heap) (locs : List Loc) (ls : Array Slot) (σ : St), v = f_Su_addEntrys_130 σ → k_Su_addEntrys_130 σ → lv_has ls 15 [(0, .ref (h 0))] → va_P D classes (Ws ty h σ px) H → va_D A (Ws ty h σ px) → va_S A s.heap H locs → W p l e (headSpec w_Su_addEntrys rm_Su_addEntrys).room s m args below meth c H locs 0 0 (MQ below (va_Qv (fun u : St => u = v) (fun u t => va_P D classes (Ws ty h u px) t.heap) A) args s 0 0 A) (F0 m 130 ls []) := by
    intro H locs ls σ hv hk hl hP hD hS
    unfold f_Su_addEntrys_130 at hv
    unfold k_Su_addEntrys_130 at hk
    refine lv_aload_n hx hb d_Su_addEntrys_130 rfl (lv_at hl 0 rfl) ?_
    refine lv_iconst (v := 1) hx hb d_Su_addEntrys_131 (by decide) ?_
    refine va_put (v := .int 1) (ty := .boolean) (C := R_Su) (T := T_Su) (N := 5) hx hb hg in_Su ty_Su ok_Su nm_Su hown hK hP hD hS 0 rfl rfl 4 (by decide) (hg _ m_195) (fun _ h9 => h9) rfl (by decide +kernel) rfl rfl (Nat.le_of_ble_eq_true rfl) d_Su_addEntrys_132 (fun H locs hP hD hS => ?_)
    have hP : va_P D classes (Ws ty h (sF σ 0 4 1) px) H := hP
    have hD : va_D A (Ws ty h (sF σ 0 4 1) px) := hD
    exact B135 _ _ _  (sF σ 0 4 1) hv hk (lv_sub hl [] rfl) hP hD hS
  have B160 : ∀ (H : Heap) (locs : List Loc) (ls : Array Slot) (σ : St), v = f_Su_addEntrys_160 σ → k_Su_addEntrys_160 σ → lv_has ls 15 [] → va_P D classes (Ws ty h σ px) H → va_D A (Ws ty h σ px) → va_S A s.heap H locs → W p l e (headSpec w_Su_addEntrys rm_Su_addEntrys).room s m args below meth c H locs 0 0 (MQ below (va_Qv (fun u : St => u = v) (fun u t => va_P D classes (Ws ty h u px) t.heap) A) args s 0 0 A) (F0 m 160 ls []) := by
    intro H locs ls σ hv hk hl hP hD hS
    unfold f_Su_addEntrys_160 at hv
    unfold k_Su_addEntrys_160 at hk
    exact W.vret hx hb hr (fun t ht hW => ⟨⟨_, rfl, hv.symm, by dsimp only; rw [ht]; exact hP⟩, hS.F ht⟩) hS.2.2 d_Su_addEntrys_160
  have B148 : ∀ (H : Heap) (locs : List Loc) (ls : Array Slot) (x8 : Int32) (x11 : Int64) (x13 : Int64) (σ : St), v = f_Su_addEntrys_148 x8 x11 x13 σ → k_Su_addEntrys_148 x8 x11 x13 σ → lv_has ls 15 [(0, .ref (h 0)), (8, .int x8), (11, .long x11), (13, .long x13)] → va_P D classes (Ws ty h σ px) H → va_D A (Ws ty h σ px) → va_S A s.heap H locs → W p l e (headSpec w_Su_addEntrys rm_Su_addEntrys).room s m args below meth c H locs 0 0 (MQ below (va_Qv (fun u : St => u = v) (fun u t => va_P D classes (Ws ty h u px) t.heap) A) args s 0 0 A) (F0 m 148 ls []) := by
    intro H locs ls x8 x11 x13 σ hv hk hl hP hD hS
    unfold f_Su_addEntrys_148 at hv
    unfold k_Su_addEntrys_148 at hk
    refine lv_aload_n hx hb d_Su_addEntrys_148 rfl (lv_at hl 0 rfl) ?_
    refine va_get (v := .ref (h 3)) (C := R_Su) (T := T_Su) (N := 5) hx hb hg in_Su hown hK hP 0 rfl rfl 2 (by decide) (hg _ m_193) (fun _ h9 => h9) rfl d_Su_addEntrys_149 ?_
    refine lv_iload hx hb d_Su_addEntrys_152 (lv_at hl 1 rfl) ?_
    refine lv_lload hx hb d_Su_addEntrys_154 (lv_at hl 2 rfl) ?_
    refine lv_lload hx hb d_Su_addEntrys_156 (lv_at hl 3 rfl) ?_
    obtain ⟨hk0, hk⟩ := hk
    refine lv_ldiv hx hb d_Su_addEntrys_158 hk0 ?_
    obtain ⟨hk0, hk⟩ := hk
    refine va_last hx hb hK hP hD hS 3 1 rfl rfl hk0 d_Su_addEntrys_159 (fun H locs hP hD hS => ?_)
    have hP : va_P D classes (Ws ty h (sL σ 3 x8 (x11 / x13)) px) H := hP
    have hD : va_D A (Ws ty h (sL σ 3 x8 (x11 / x13)) px) := hD
    exact B160 _ _ _  (sL σ 3 x8 (x11 / x13)) hv hk (lv_sub hl [] rfl) hP hD hS
  have B107 : ∀ (H : Heap) (locs : List Loc) (ls : Array Slot) (x8 : Int32) (x9 : Int64) (x11 : Int64) (x13 : Int64) (σ : St), v = f_Su_addEntrys_107 x8 x9 x11 x13 σ → k_Su_addEntrys_107 x8 x9 x11 x13 σ → lv_has ls 15 [(0, .ref (h 0)), (8, .int x8), (9, .long x9), (11, .long x11), (13, .long x13)] → va_P D classes (Ws ty h σ px) H → va_D A (Ws ty h σ px) → va_S A s.heap H locs → W p l e (headSpec w_Su_addEntrys rm_Su_addEntrys).room s m args below meth c H locs 0 0 (MQ below (va_Qv (fun u : St => u = v) (fun u t => va_P D classes (Ws ty h u px) t.heap) A) args s 0 0 A) (F0 m 107 ls []) := by
    intro H locs ls x8 x9 x11 x13 σ hv hk hl hP hD hS
    unfold f_Su_addEntrys_107 at hv
    unfold k_Su_addEntrys_107 at hk
    refine lv_lload hx hb d_Su_addEntrys_107 (lv_at hl 4 rfl) ?_
    refine lv_lconst (v := 0) hx hb d_Su_addEntrys_109 (by decide) ?_
    refine W.lcmp hx hb d_Su_addEntrys_110 ?_
    refine lv_if_eq (tgt := 130) hx hb d_Su_addEntrys_111 (by decide) (fun hc => ?_) (fun hc => ?_)
    · have hv := hv.trans (if_pos hc)
      have hk := hk.1 hc
      exact B130 _ _ _  σ hv hk (lv_sub hl [0] rfl) hP hD hS
    · have hv := hv.trans (if_neg hc)
      have hk := hk.2 hc
      refine lv_lload hx hb d_Su_addEntrys_114 (lv_at hl 2 rfl) ?_
      refine lv_lload hx hb d_Su_addEntrys_116 (lv_at hl 4 rfl) ?_
      obtain ⟨hk0, hk⟩ := hk
      refine lv_ldiv hx hb d_Su_addEntrys_118 hk0 ?_
      refine lv_lload hx hb d_Su_addEntrys_119 (lv_at hl 3 rfl) ?_
      refine lv_lload hx hb d_Su_addEntrys_121 (lv_at hl 4 rfl) ?_
      obtain ⟨hk0, hk⟩ := hk
      refine lv_ldiv hx hb d_Su_addEntrys_123 hk0 ?_
      obtain ⟨hk0, hk⟩ := hk
      refine zz_callV (va_runS (As := [.long (x9 / x13), .long (x11 / x13)]) (rest := []) ⟨hx, hb, hml, hown, hg⟩ (c_Su_isBeyonds l D ty h px sa σ (x9 / x13) (x11 / x13) hk0) ⟨callB_of 2 hg (gw_C m_1127) rfl rfl rfl (hg _ m_9) (hg _ m_1125) hd_Su_isBeyonds ⟨Nat.le_of_ble_eq_true rfl, Nat.le_of_ble_eq_true rfl⟩, hg _ m_1126⟩ (zz_preS (hM.at hS) hN hK hP) rfl rfl hl.1 rfl (lv_room (Nat.le_of_ble_eq_true rfl)) d_Su_addEntrys_124 ⟨Nat.le_of_ble_eq_true rfl, Nat.le_of_ble_eq_true rfl⟩) ?_
      refine lv_if_eq (tgt := 136) hx hb d_Su_addEntrys_127 (by decide) (fun hc => ?_) (fun hc => ?_)
      · have hv := hv.trans (if_pos hc)
        have hk := hk.1 hc
        refine lv_aload_n hx hb d_Su_addEntrys_136 rfl (lv_at hl 0 rfl) ?_
        refine va_get (v := .ref (h 2)) (C := R_Su) (T := T_Su) (N := 5) hx hb hg in_Su hown hK hP 0 rfl rfl 1 (by decide) (hg _ m_192) (fun _ h9 => h9) rfl d_Su_addEntrys_137 ?_
        refine lv_iload hx hb d_Su_addEntrys_140 (lv_at hl 1 rfl) ?_
        refine lv_lload hx hb d_Su_addEntrys_142 (lv_at hl 2 rfl) ?_
        refine lv_lload hx hb d_Su_addEntrys_144 (lv_at hl 4 rfl) ?_
        obtain ⟨hk0, hk⟩ := hk
        refine lv_ldiv hx hb d_Su_addEntrys_146 hk0 ?_
        obtain ⟨hk0, hk⟩ := hk
        refine va_last hx hb hK hP hD hS 2 1 rfl rfl hk0 d_Su_addEntrys_147 (fun H locs hP hD hS => ?_)
        have hP : va_P D classes (Ws ty h (sL σ 2 x8 (x9 / x13)) px) H := hP
        have hD : va_D A (Ws ty h (sL σ 2 x8 (x9 / x13)) px) := hD
        exact B148 _ _ _ x8 x11 x13 (sL σ 2 x8 (x9 / x13)) hv hk (lv_sub hl [0, 1, 3, 4] rfl) hP hD hS
      · have hv := hv.trans (if_neg hc)
        have hk := hk.2 hc
        exact B130 _ _ _  σ hv hk (lv_sub hl [0] rfl) hP hD hS
  have B98 : ∀ (H : Heap) (locs : List Loc) (ls : Array Slot) (x8 : Int32) (x9 : Int64) (x11 : Int64) (σ : St), v = f_Su_addEntrys_98 x8 x9 x11 σ → k_Su_addEntrys_98 x8 x9 x11 σ → lv_has ls 15 [(0, .ref (h 0)), (8, .int x8), (9, .long x9), (11, .long x11)] → va_P D classes (Ws ty h σ px) H → va_D A (Ws ty h σ px) → va_S A s.heap H locs → W p l e (headSpec w_Su_addEntrys rm_Su_addEntrys).room s m args below meth c H locs 0 0 (MQ below (va_Qv (fun u : St => u = v) (fun u t => va_P D classes (Ws ty h u px) t.heap) A) args s 0 0 A) (F0 m 98 ls []) := by
    intro H locs ls x8 x9 x11 σ hv hk hl hP hD hS
    unfold f_Su_addEntrys_98 at hv
    unfold k_Su_addEntrys_98 at hk
    refine lv_lload hx hb d_Su_addEntrys_98 (lv_at hl 2 rfl) ?_
    refine lv_lload hx hb d_Su_addEntrys_100 (lv_at hl 3 rfl) ?_
    obtain ⟨hk0, hk⟩ := hk
    refine zz_callV (va_runSN (As := [.long x9, .long x11]) (rest := []) ⟨hx, hb, hml, hown, hg⟩ (c_CL_gcds l D ty h px sa σ x9 x11 hk0) ⟨va_cnB 2 hg (gw_C m_755) rfl rfl rfl (hN _ nw_1124) (hg _ m_1) hd_CL_gcds ⟨Nat.le_of_ble_eq_true rfl, Nat.le_of_ble_eq_true rfl⟩, hg _ m_754, trivial⟩ (zz_preS (hM.at hS) hN hK hP) rfl rfl hl.1 rfl (lv_room (Nat.le_of_ble_eq_true rfl)) d_Su_addEntrys_102 ⟨Nat.le_of_ble_eq_true rfl, Nat.le_of_ble_eq_true rfl⟩) ?_
    refine lv_lstore (lv' := [(13, .long (f_CL_gcds x9 x11 σ)), (0, .ref (h 0)), (8, .int x8), (9, .long x9), (11, .long x11)]) hx hb d_Su_addEntrys_105 hl (by decide) rfl (fun ls hl => ?_)
    exact B107 _ _ _ x8 x9 x11 (f_CL_gcds x9 x11 σ) σ hv hk (lv_sub hl [1, 2, 3, 4, 0] rfl) hP hD hS
  have B83 : ∀ (H : Heap) (locs : List Loc) (ls : Array Slot) (x4 : Int64) (x6 : Int64) (x8 : Int32) (x9 : Int64) (σ : St), v = f_Su_addEntrys_83 x4 x6 x8 x9 σ → k_Su_addEntrys_83 x4 x6 x8 x9 σ → lv_has ls 15 [(0, .ref (h 0)), (4, .long x4), (6, .long x6), (8, .int x8), (9, .long x9)] → va_P D classes (Ws ty h σ px) H → va_D A (Ws ty h σ px) → va_S A s.heap H locs → W p l e (headSpec w_Su_addEntrys rm_Su_addEntrys).room s m args below meth c H locs 0 0 (MQ below (va_Qv (fun u : St => u = v) (fun u t => va_P D classes (Ws ty h u px) t.heap) A) args s 0 0 A) (F0 m 83 ls []) := by
    intro H locs ls x4 x6 x8 x9 σ hv hk hl hP hD hS
    unfold f_Su_addEntrys_83 at hv
    unfold k_Su_addEntrys_83 at hk
    refine lv_aload_n hx hb d_Su_addEntrys_83 rfl (lv_at hl 0 rfl) ?_
    refine va_get (v := .ref (h 3)) (C := R_Su) (T := T_Su) (N := 5) hx hb hg in_Su hown hK hP 0 rfl rfl 2 (by decide) (hg _ m_193) (fun _ h9 => h9) rfl d_Su_addEntrys_84 ?_
    refine lv_iload hx hb d_Su_addEntrys_87 (lv_at hl 3 rfl) ?_
    obtain ⟨hk0, hk⟩ := hk
    refine va_lald hx hb hK hP 3 1 rfl rfl hk0 d_Su_addEntrys_89 ?_
    refine lv_lload hx hb d_Su_addEntrys_90 (lv_at hl 1 rfl) ?_
    refine lv_lload hx hb d_Su_addEntrys_92 (lv_at hl 2 rfl) ?_
    obtain ⟨hk0, hk⟩ := hk
    refine lv_ldiv hx hb d_Su_addEntrys_94 hk0 ?_
    refine lv_lmul hx hb d_Su_addEntrys_95 ?_
    refine lv_lstore (lv' := [(11, .long ((σ.2 3 x8.toNatClampNeg) * (x4 / x6))), (0, .ref (h 0)), (4, .long x4), (6, .long x6), (8, .int x8), (9, .long x9)]) hx hb d_Su_addEntrys_96 hl (by decide) rfl (fun ls hl => ?_)
    exact B98 _ _ _ x8 x9 ((σ.2 3 x8.toNatClampNeg) * (x4 / x6)) σ hv hk (lv_sub hl [1, 4, 5, 0] rfl) hP hD hS
  have B43 : ∀ (H : Heap) (locs : List Loc) (ls : Array Slot) (x2 : Int64) (x4 : Int64) (x6 : Int64) (x8 : Int32) (σ : St), v = f_Su_addEntrys_43 x2 x4 x6 x8 σ → k_Su_addEntrys_43 x2 x4 x6 x8 σ → lv_has ls 15 [(0, .ref (h 0)), (2, .long x2), (4, .long x4), (6, .long x6), (8, .int x8)] → va_P D classes (Ws ty h σ px) H → va_D A (Ws ty h σ px) → va_S A s.heap H locs → W p l e (headSpec w_Su_addEntrys rm_Su_addEntrys).room s m args below meth c H locs 0 0 (MQ below (va_Qv (fun u : St => u = v) (fun u t => va_P D classes (Ws ty h u px) t.heap) A) args s 0 0 A) (F0 m 43 ls []) := by
    intro H locs ls x2 x4 x6 x8 σ hv hk hl hP hD hS
    unfold f_Su_addEntrys_43 at hv
    unfold k_Su_addEntrys_43 at hk
    refine lv_iload hx hb d_Su_addEntrys_43 (lv_at hl 4 rfl) ?_
    refine lv_iconst (v := -1) hx hb d_Su_addEntrys_45 (by decide) ?_
    refine lv_icmp_ne (tgt := 55) hx hb d_Su_addEntrys_46 (by decide) (fun hc => ?_) (fun hc => ?_)
    · have hv := hv.trans (if_neg hc)
      have hk := hk.2 hc
      refine lv_aload_n hx hb d_Su_addEntrys_55 rfl (lv_at hl 0 rfl) ?_
      refine va_get (v := .ref (h 2)) (C := R_Su) (T := T_Su) (N := 5) hx hb hg in_Su hown hK hP 0 rfl rfl 1 (by decide) (hg _ m_192) (fun _ h9 => h9) rfl d_Su_addEntrys_56 ?_
      refine lv_iload hx hb d_Su_addEntrys_59 (lv_at hl 4 rfl) ?_
      obtain ⟨hk0, hk⟩ := hk
      refine va_lald hx hb hK hP 2 1 rfl rfl hk0 d_Su_addEntrys_61 ?_
      refine lv_lload hx hb d_Su_addEntrys_62 (lv_at hl 2 rfl) ?_
      refine lv_lload hx hb d_Su_addEntrys_64 (lv_at hl 3 rfl) ?_
      obtain ⟨hk0, hk⟩ := hk
      refine lv_ldiv hx hb d_Su_addEntrys_66 hk0 ?_
      refine lv_lmul hx hb d_Su_addEntrys_67 ?_
      refine lv_lload_n hx hb d_Su_addEntrys_68 rfl (lv_at hl 1 rfl) ?_
      refine lv_lload hx hb d_Su_addEntrys_69 (lv_at hl 3 rfl) ?_
      obtain ⟨hk0, hk⟩ := hk
      refine lv_ldiv hx hb d_Su_addEntrys_71 hk0 ?_
      refine lv_aload_n hx hb d_Su_addEntrys_72 rfl (lv_at hl 0 rfl) ?_
      refine va_get (v := .ref (h 3)) (C := R_Su) (T := T_Su) (N := 5) hx hb hg in_Su hown hK hP 0 rfl rfl 2 (by decide) (hg _ m_193) (fun _ h9 => h9) rfl d_Su_addEntrys_73 ?_
      refine lv_iload hx hb d_Su_addEntrys_76 (lv_at hl 4 rfl) ?_
      obtain ⟨hk0, hk⟩ := hk
      refine va_lald hx hb hK hP 3 1 rfl rfl hk0 d_Su_addEntrys_78 ?_
      refine lv_lmul hx hb d_Su_addEntrys_79 ?_
      refine lv_ladd hx hb d_Su_addEntrys_80 ?_
      refine lv_lstore (lv' := [(9, .long (((σ.2 2 x8.toNatClampNeg) * (x4 / x6)) + ((x2 / x6) * (σ.2 3 x8.toNatClampNeg)))), (0, .ref (h 0)), (2, .long x2), (4, .long x4), (6, .long x6), (8, .int x8)]) hx hb d_Su_addEntrys_81 hl (by decide) rfl (fun ls hl => ?_)
      exact B83 _ _ _ x4 x6 x8 (((σ.2 2 x8.toNatClampNeg) * (x4 / x6)) + ((x2 / x6) * (σ.2 3 x8.toNatClampNeg))) σ hv hk (lv_sub hl [1, 3, 4, 5, 0] rfl) hP hD hS
    · have hv := hv.trans (if_pos hc)
      have hk := hk.1 hc
      refine lv_aload_n hx hb d_Su_addEntrys_49 rfl (lv_at hl 0 rfl) ?_
      refine lv_iconst (v := 1) hx hb d_Su_addEntrys_50 (by decide) ?_
      refine va_put (v := .int 1) (ty := .boolean) (C := R_Su) (T := T_Su) (N := 5) hx hb hg in_Su ty_Su ok_Su nm_Su hown hK hP hD hS 0 rfl rfl 4 (by decide) (hg _ m_195) (fun _ h9 => h9) rfl (by decide +kernel) rfl rfl (Nat.le_of_ble_eq_true rfl) d_Su_addEntrys_51 (fun H locs hP hD hS => ?_)
      have hP : va_P D classes (Ws ty h (sF σ 0 4 1) px) H := hP
      have hD : va_D A (Ws ty h (sF σ 0 4 1) px) := hD
      exact B54 _ _ _  (sF σ 0 4 1) hv hk (lv_sub hl [] rfl) hP hD hS
  have B41 : ∀ (H : Heap) (locs : List Loc) (ls : Array Slot) (x2 : Int64) (x4 : Int64) (x6 : Int64) (s0 : Int32) (σ : St), v = f_Su_addEntrys_41 x2 x4 x6 s0 σ → k_Su_addEntrys_41 x2 x4 x6 s0 σ → lv_has ls 15 [(0, .ref (h 0)), (2, .long x2), (4, .long x4), (6, .long x6)] → va_P D classes (Ws ty h σ px) H → va_D A (Ws ty h σ px) → va_S A s.heap H locs → W p l e (headSpec w_Su_addEntrys rm_Su_addEntrys).room s m args below meth c H locs 0 0 (MQ below (va_Qv (fun u : St => u = v) (fun u t => va_P D classes (Ws ty h u px) t.heap) A) args s 0 0 A) (F0 m 41 ls [.int s0]) := by
    intro H locs ls x2 x4 x6 s0 σ hv hk hl hP hD hS
    unfold f_Su_addEntrys_41 at hv
    unfold k_Su_addEntrys_41 at hk
    refine lv_istore (lv' := [(8, .int s0), (0, .ref (h 0)), (2, .long x2), (4, .long x4), (6, .long x6)]) hx hb d_Su_addEntrys_41 hl (by decide) rfl (fun ls hl => ?_)
    exact B43 _ _ _ x2 x4 x6 s0 σ hv hk (lv_sub hl [1, 2, 3, 4, 0] rfl) hP hD hS
  have B8 : ∀ (H : Heap) (locs : List Loc) (ls : Array Slot) (x1 : Int32) (x2 : Int64) (x4 : Int64) (x6 : Int64) (σ : St), v = f_Su_addEntrys_8 x1 x2 x4 x6 σ → k_Su_addEntrys_8 x1 x2 x4 x6 σ → lv_has ls 15 [(0, .ref (h 0)), (1, .int x1), (2, .long x2), (4, .long x4), (6, .long x6)] → va_P D classes (Ws ty h σ px) H → va_D A (Ws ty h σ px) → va_S A s.heap H locs → W p l e (headSpec w_Su_addEntrys rm_Su_addEntrys).room s m args below meth c H locs 0 0 (MQ below (va_Qv (fun u : St => u = v) (fun u t => va_P D classes (Ws ty h u px) t.heap) A) args s 0 0 A) (F0 m 8 ls []) := by
    intro H locs ls x1 x2 x4 x6 σ hv hk hl hP hD hS
    unfold f_Su_addEntrys_8 at hv
    unfold k_Su_addEntrys_8 at hk
    refine lv_lload hx hb d_Su_addEntrys_8 (lv_at hl 4 rfl) ?_
    refine lv_lconst (v := 0) hx hb d_Su_addEntrys_10 (by decide) ?_
    refine W.lcmp hx hb d_Su_addEntrys_11 ?_
    refine lv_if_eq (tgt := 30) hx hb d_Su_addEntrys_12 (by decide) (fun hc => ?_) (fun hc => ?_)
    · have hv := hv.trans (if_pos hc)
      have hk := hk.1 hc
      exact B30 _ _ _  σ hv hk (lv_sub hl [0] rfl) hP hD hS
    · have hv := hv.trans (if_neg hc)
      have hk := hk.2 hc
      refine lv_lload_n hx hb d_Su_addEntrys_15 rfl (lv_at hl 2 rfl) ?_
      refine lv_lload hx hb d_Su_addEntrys_16 (lv_at hl 4 rfl) ?_
      obtain ⟨hk0, hk⟩ := hk
      refine lv_ldiv hx hb d_Su_addEntrys_18 hk0 ?_
      refine lv_lload hx hb d_Su_addEntrys_19 (lv_at hl 3 rfl) ?_
      refine lv_lload hx hb d_Su_addEntrys_21 (lv_at hl 4 rfl) ?_
      obtain ⟨hk0, hk⟩ := hk
      refine lv_ldiv hx hb d_Su_addEntrys_23 hk0 ?_
      obtain ⟨hk0, hk⟩ := hk
      refine zz_callV (va_runS (As := [.long (x2 / x6), .long (x4 / x6)]) (rest := []) ⟨hx, hb, hml, hown, hg⟩ (c_Su_isBeyonds l D ty h px sa σ (x2 / x6) (x4 / x6) hk0) ⟨callB_of 2 hg (gw_C m_1127) rfl rfl rfl (hg _ m_9) (hg _ m_1125) hd_Su_isBeyonds ⟨Nat.le_of_ble_eq_true rfl, Nat.le_of_ble_eq_true rfl⟩, hg _ m_1126⟩ (zz_preS (hM.at hS) hN hK hP) rfl rfl hl.1 rfl (lv_room (Nat.le_of_ble_eq_true rfl)) d_Su_addEntrys_24 ⟨Nat.le_of_ble_eq_true rfl, Nat.le_of_ble_eq_true rfl⟩) ?_
      refine lv_if_eq (tgt := 36) hx hb d_Su_addEntrys_27 (by decide) (fun hc => ?_) (fun hc => ?_)
      · have hv := hv.trans (if_pos hc)
        have hk := hk.1 hc
        refine lv_aload_n hx hb d_Su_addEntrys_36 rfl (lv_at hl 0 rfl) ?_
        refine lv_iload_n hx hb d_Su_addEntrys_37 rfl (lv_at hl 1 rfl) ?_
        obtain ⟨hk0, hk⟩ := hk
        refine va_calli (va_runV (As := [.int x1]) (rest := []) ⟨hx, hb, hml, hown, hg⟩ (c_Su_placeOfs l D ty h px sa σ H.size x1 hk0) ⟨callB_of 1 hg (gw_C m_1133) rfl rfl rfl (hg _ m_9) (hg _ m_1130) hd_Su_placeOfs ⟨Nat.le_of_ble_eq_true rfl, Nat.le_of_ble_eq_true rfl⟩, hg _ m_1132, hg _ ms_44⟩ (zz_preVW hM hS hA hN hK hP hD 0 rfl rfl) rfl rfl hl.1 rfl (lv_room (Nat.le_of_ble_eq_true rfl)) d_Su_addEntrys_38 ⟨Nat.le_of_ble_eq_true rfl, Nat.le_of_ble_eq_true rfl⟩) hS (fun q _ h => zz_free hD hS hA q h) (zz_free hD hS hA) (fun r38 u38 t H locs ht hvm hp hP1 hz hk1 hS => ?_)
        rw [ht] at hP1
        rw [← hp] at hv hk
        have hD : va_D A (Ws ty h u38 px) := zz_D hD rfl
        have hP := hP1
        exact B41 _ _ _ x2 x4 x6 r38 u38 hv hk (lv_sub hl [0, 2, 3, 4] rfl) hP hD hS
      · have hv := hv.trans (if_neg hc)
        have hk := hk.2 hc
        exact B30 _ _ _  σ hv hk (lv_sub hl [0] rfl) hP hD hS
  unfold f_Su_addEntrys at hv
  unfold k_Su_addEntrys at hk
  refine lv_lload_n hx hb d_Su_addEntrys_0 rfl (lv_at hl 2 rfl) ?_
  refine lv_lload hx hb d_Su_addEntrys_1 (lv_at hl 3 rfl) ?_
  obtain ⟨hk0, hk⟩ := hk
  refine zz_callV (va_runSN (As := [.long a2, .long a4]) (rest := []) ⟨hx, hb, hml, hown, hg⟩ (c_CL_gcds l D ty h px sa σ a2 a4 hk0) ⟨va_cnB 2 hg (gw_C m_755) rfl rfl rfl (hN _ nw_1124) (hg _ m_1) hd_CL_gcds ⟨Nat.le_of_ble_eq_true rfl, Nat.le_of_ble_eq_true rfl⟩, hg _ m_754, trivial⟩ (zz_preS (hM.at hS) hN hK hP) rfl rfl hl.1 rfl (lv_room (Nat.le_of_ble_eq_true rfl)) d_Su_addEntrys_3 ⟨Nat.le_of_ble_eq_true rfl, Nat.le_of_ble_eq_true rfl⟩) ?_
  refine lv_lstore (lv' := [(6, .long (f_CL_gcds a2 a4 σ)), (0, .ref (h 0)), (1, .int a1), (2, .long a2), (4, .long a4)]) hx hb d_Su_addEntrys_6 hl (by decide) rfl (fun ls hl => ?_)
  exact B8 _ _ _ a1 a2 a4 (f_CL_gcds a2 a4 σ) σ hv hk (lv_sub hl [1, 2, 3, 4, 0] rfl) hP hD hS

