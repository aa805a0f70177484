-- ClauseLedger$Balance.load(II)V
abbrev b_Ba_load : ByteArray := prog_2_method_4_code
def y_Ba_load : MethodName := ⟨"ClauseLedger$Balance", "load", "(II)V"⟩
theorem hd_Ba_load : y_Ba_load.cls ≠ "java/lang/invoke/MethodHandle" ∧ y_Ba_load.cls ≠ "java/lang/invoke/VarHandle" ∧ (parseMethodDescriptor y_Ba_load.desc).map (fun d => d.parameters.length) = some 2 := by decide +kernel
theorem d_Ba_load_0 : decode b_Ba_load 0 = .ok (.iload_n 1, 1) := by decide +kernel
theorem d_Ba_load_1 : decode b_Ba_load 1 = .ok (.iconst (-1), 1) := by decide +kernel
theorem d_Ba_load_2 : decode b_Ba_load 2 = .ok (.if_icmp .ne 4, 3) := by decide +kernel
theorem d_Ba_load_5 : decode b_Ba_load 5 = .ok (.return_, 1) := by decide +kernel
theorem d_Ba_load_6 : decode b_Ba_load 6 = .ok (.aload_n 0, 1) := by decide +kernel
theorem d_Ba_load_7 : decode b_Ba_load 7 = .ok (.getfield 34, 3) := by decide +kernel
theorem d_Ba_load_10 : decode b_Ba_load 10 = .ok (.aload_n 0, 1) := by decide +kernel
theorem d_Ba_load_11 : decode b_Ba_load 11 = .ok (.iload_n 1, 1) := by decide +kernel
theorem d_Ba_load_12 : decode b_Ba_load 12 = .ok (.invokevirtual 42, 3) := by decide +kernel
theorem d_Ba_load_15 : decode b_Ba_load 15 = .ok (.invokevirtual 54, 3) := by decide +kernel
theorem d_Ba_load_18 : decode b_Ba_load 18 = .ok (.istore_n 3, 1) := by decide +kernel
theorem d_Ba_load_19 : decode b_Ba_load 19 = .ok (.aload_n 0, 1) := by decide +kernel
theorem d_Ba_load_20 : decode b_Ba_load 20 = .ok (.getfield 34, 3) := by decide +kernel
theorem d_Ba_load_23 : decode b_Ba_load 23 = .ok (.aload_n 0, 1) := by decide +kernel
theorem d_Ba_load_24 : decode b_Ba_load 24 = .ok (.iload_n 1, 1) := by decide +kernel
theorem d_Ba_load_25 : decode b_Ba_load 25 = .ok (.invokevirtual 42, 3) := by decide +kernel
theorem d_Ba_load_28 : decode b_Ba_load 28 = .ok (.invokevirtual 57, 3) := by decide +kernel
theorem d_Ba_load_31 : decode b_Ba_load 31 = .ok (.istore 4, 2) := by decide +kernel
theorem d_Ba_load_33 : decode b_Ba_load 33 = .ok (.aload_n 0, 1) := by decide +kernel
theorem d_Ba_load_34 : decode b_Ba_load 34 = .ok (.getfield 34, 3) := by decide +kernel
theorem d_Ba_load_37 : decode b_Ba_load 37 = .ok (.iload_n 1, 1) := by decide +kernel
theorem d_Ba_load_38 : decode b_Ba_load 38 = .ok (.invokevirtual 46, 3) := by decide +kernel
theorem d_Ba_load_41 : decode b_Ba_load 41 = .ok (.bipush 7, 2) := by decide +kernel
theorem d_Ba_load_43 : decode b_Ba_load 43 = .ok (.if_icmp .ne 24, 3) := by decide +kernel
theorem d_Ba_load_46 : decode b_Ba_load 46 = .ok (.aload_n 0, 1) := by decide +kernel
theorem d_Ba_load_47 : decode b_Ba_load 47 = .ok (.getfield 34, 3) := by decide +kernel
theorem d_Ba_load_50 : decode b_Ba_load 50 = .ok (.aload_n 0, 1) := by decide +kernel
theorem d_Ba_load_51 : decode b_Ba_load 51 = .ok (.iload_n 1, 1) := by decide +kernel
theorem d_Ba_load_52 : decode b_Ba_load 52 = .ok (.invokevirtual 42, 3) := by decide +kernel
theorem d_Ba_load_55 : decode b_Ba_load 55 = .ok (.invokevirtual 46, 3) := by decide +kernel
theorem d_Ba_load_58 : decode b_Ba_load 58 = .ok (.bipush 6, 2) := by decide +kernel
theorem d_Ba_load_60 : decode b_Ba_load 60 = .ok (.if_icmp .ne 7, 3) := by decide +kernel
theorem d_Ba_load_63 : decode b_Ba_load 63 = .ok (.iconst 1, 1) := by decide +kernel
theorem d_Ba_load_64 : decode b_Ba_load 64 = .ok (.goto 4, 3) := by decide +kernel
theorem d_Ba_load_67 : decode b_Ba_load 67 = .ok (.iconst 0, 1) := by decide +kernel
theorem d_Ba_load_68 : decode b_Ba_load 68 = .ok (.istore 5, 2) := by decide +kernel
theorem d_Ba_load_70 : decode b_Ba_load 70 = .ok (.aload_n 0, 1) := by decide +kernel
theorem d_Ba_load_71 : decode b_Ba_load 71 = .ok (.getfield 24, 3) := by decide +kernel
theorem d_Ba_load_74 : decode b_Ba_load 74 = .ok (.invokevirtual 51, 3) := by decide +kernel
theorem d_Ba_load_77 : decode b_Ba_load 77 = .ok (.aload_n 0, 1) := by decide +kernel
theorem d_Ba_load_78 : decode b_Ba_load 78 = .ok (.getfield 24, 3) := by decide +kernel
theorem d_Ba_load_81 : decode b_Ba_load 81 = .ok (.aload_n 0, 1) := by decide +kernel
theorem d_Ba_load_82 : decode b_Ba_load 82 = .ok (.iload 5, 2) := by decide +kernel
theorem d_Ba_load_84 : decode b_Ba_load 84 = .ok (.ifCond .eq 8, 3) := by decide +kernel
theorem d_Ba_load_87 : decode b_Ba_load 87 = .ok (.iload 4, 2) := by decide +kernel
theorem d_Ba_load_89 : decode b_Ba_load 89 = .ok (.goto 4, 3) := by decide +kernel
theorem d_Ba_load_92 : decode b_Ba_load 92 = .ok (.iload_n 3, 1) := by decide +kernel
theorem d_Ba_load_93 : decode b_Ba_load 93 = .ok (.iconst 1, 1) := by decide +kernel
theorem d_Ba_load_94 : decode b_Ba_load 94 = .ok (.invokevirtual 60, 3) := by decide +kernel
theorem d_Ba_load_97 : decode b_Ba_load 97 = .ok (.lconst 1, 1) := by decide +kernel
theorem d_Ba_load_98 : decode b_Ba_load 98 = .ok (.lconst 1, 1) := by decide +kernel
theorem d_Ba_load_99 : decode b_Ba_load 99 = .ok (.invokevirtual 64, 3) := by decide +kernel
theorem d_Ba_load_102 : decode b_Ba_load 102 = .ok (.aload_n 0, 1) := by decide +kernel
theorem d_Ba_load_103 : decode b_Ba_load 103 = .ok (.getfield 24, 3) := by decide +kernel
theorem d_Ba_load_106 : decode b_Ba_load 106 = .ok (.aload_n 0, 1) := by decide +kernel
theorem d_Ba_load_107 : decode b_Ba_load 107 = .ok (.iload 5, 2) := by decide +kernel
theorem d_Ba_load_109 : decode b_Ba_load 109 = .ok (.ifCond .eq 7, 3) := by decide +kernel
theorem d_Ba_load_112 : decode b_Ba_load 112 = .ok (.iload_n 3, 1) := by decide +kernel
theorem d_Ba_load_113 : decode b_Ba_load 113 = .ok (.goto 5, 3) := by decide +kernel
theorem d_Ba_load_116 : decode b_Ba_load 116 = .ok (.iload 4, 2) := by decide +kernel
theorem d_Ba_load_118 : decode b_Ba_load 118 = .ok (.iconst 1, 1) := by decide +kernel
theorem d_Ba_load_119 : decode b_Ba_load 119 = .ok (.invokevirtual 60, 3) := by decide +kernel
theorem d_Ba_load_122 : decode b_Ba_load 122 = .ok (.ldc2_w 68, 3) := by decide +kernel
theorem d_Ba_load_125 : decode b_Ba_load 125 = .ok (.lconst 1, 1) := by decide +kernel
theorem d_Ba_load_126 : decode b_Ba_load 126 = .ok (.invokevirtual 64, 3) := by decide +kernel
theorem d_Ba_load_129 : decode b_Ba_load 129 = .ok (.aload_n 0, 1) := by decide +kernel
theorem d_Ba_load_130 : decode b_Ba_load 130 = .ok (.getfield 27, 3) := by decide +kernel
theorem d_Ba_load_133 : decode b_Ba_load 133 = .ok (.aload_n 0, 1) := by decide +kernel
theorem d_Ba_load_134 : decode b_Ba_load 134 = .ok (.getfield 24, 3) := by decide +kernel
theorem d_Ba_load_137 : decode b_Ba_load 137 = .ok (.iload_n 2, 1) := by decide +kernel
theorem d_Ba_load_138 : decode b_Ba_load 138 = .ok (.i2l, 1) := by decide +kernel
theorem d_Ba_load_139 : decode b_Ba_load 139 = .ok (.lconst 1, 1) := by decide +kernel
theorem d_Ba_load_140 : decode b_Ba_load 140 = .ok (.invokevirtual 64, 3) := by decide +kernel
theorem d_Ba_load_143 : decode b_Ba_load 143 = .ok (.aload_n 0, 1) := by decide +kernel
theorem d_Ba_load_144 : decode b_Ba_load 144 = .ok (.aload_n 0, 1) := by decide +kernel
theorem d_Ba_load_145 : decode b_Ba_load 145 = .ok (.getfield 30, 3) := by decide +kernel
theorem d_Ba_load_148 : decode b_Ba_load 148 = .ok (.ifCond .ne 20, 3) := by decide +kernel
theorem d_Ba_load_151 : decode b_Ba_load 151 = .ok (.aload_n 0, 1) := by decide +kernel
theorem d_Ba_load_152 : decode b_Ba_load 152 = .ok (.getfield 34, 3) := by decide +kernel
theorem d_Ba_load_155 : decode b_Ba_load 155 = .ok (.iload_n 1, 1) := by decide +kernel
theorem d_Ba_load_156 : decode b_Ba_load 156 = .ok (.invokevirtual 46, 3) := by decide +kernel
theorem d_Ba_load_159 : decode b_Ba_load 159 = .ok (.bipush 6, 2) := by decide +kernel
theorem d_Ba_load_161 : decode b_Ba_load 161 = .ok (.if_icmp .ne 11, 3) := by decide +kernel
theorem d_Ba_load_164 : decode b_Ba_load 164 = .ok (.iload_n 2, 1) := by decide +kernel
theorem d_Ba_load_165 : decode b_Ba_load 165 = .ok (.ifCond .le 7, 3) := by decide +kernel
theorem d_Ba_load_168 : decode b_Ba_load 168 = .ok (.iconst 1, 1) := by decide +kernel
theorem d_Ba_load_169 : decode b_Ba_load 169 = .ok (.goto 4, 3) := by decide +kernel
theorem d_Ba_load_172 : decode b_Ba_load 172 = .ok (.iconst 0, 1) := by decide +kernel
theorem d_Ba_load_173 : decode b_Ba_load 173 = .ok (.putfield 30, 3) := by decide +kernel
theorem d_Ba_load_176 : decode b_Ba_load 176 = .ok (.return_, 1) := by decide +kernel
abbrev w_Ba_load : List Cond := Cond.code y_Ba_load b_Ba_load 6 none :: gw
/-- the two sides of a truth, and whether they are turned -/
def trn (t : Int32) (σ : St) : Int32 := if f_Te_kindOf t σ = 7 then (if f_Te_kindOf (f_Ba_inside t σ) σ = 6 then 1 else 0) else 0
def opA (t : Int32) (σ : St) : Int32 := if trn t σ = 0 then f_Te_firstOf (f_Ba_inside t σ) σ else f_Te_secondOf (f_Ba_inside t σ) σ
def opB (t : Int32) (σ : St) : Int32 := if trn t σ = 0 then f_Te_secondOf (f_Ba_inside t σ) σ else f_Te_firstOf (f_Ba_inside t σ) σ
def stL (t f : Int32) (σ : St) : Int32 := if σ.1 24 5 = 0 then (if f_Te_kindOf t σ = 6 then (if f ≤ 0 then 0 else 1) else 0) else 1
abbrev e2L (e α β : St) : St := f_at β (-1) 1 (f_at α 1 1 (f_Su_wipes e))
abbrev rm_Ba_load (k : Nat) : Room := { frames := 28, cells := 4 * k, slots := 308 * k, locals := 700 }
theorem BI3 {Sp : Nat → St → Prop} {A : Nat → Option Nat} {a0 a1 a2 b0 b1 b2 : Itm} {P : List Itm} (h : BI Sp A (a0 :: a1 :: a2 :: P)) : BI Sp A (b0 :: b1 :: b2 :: P) := fun t a e => by
  obtain ⟨i, x, h1, h2, h3⟩ := h t a e
  obtain ⟨j, rfl⟩ : ∃ j, i = j + 3 := ⟨i - 3, by omega⟩
  exact ⟨j + 3, x, h1, h2, h3⟩
set_option maxHeartbeats 4000000 in
set_option maxRecDepth 100000 in
theorem c_Ba_load0 (l : Launch) (D : va_G) (ty : Nat → ClassId) (h : Nat → Nat) (px : va_W) (sa : Nat → Nat) (σ : St) (f : Int32) : Met l y_Ba_load w_Ba_load (rm_Ba_load 0) (va_Pc [.ref (h 24), .int (-1), .int f] (fun U => va_P D classes (Wc ty h σ px) U.heap ∧ va_K D classes (Ta ty) U ∧ NW U ∧ MK sa (fun _ => False) U U.heap)) (fun _ st o t => o = .returned none ∧ t.heap = st.heap) 0 0 (fun _ => False) := by
  refine Met.ofW (cc := b_Ba_load) (maxL := 6) (ret := none) (by decide) rfl ?_
  intro p e s m args below meth c s₁ B hml hv
  obtain ⟨ha, hP, hK, hN, hM⟩ := hv
  have hx := B.exec
  have hb := B.bytes
  have hr := B.returns
  have hg : ∀ w ∈ gw, w.before args s = true := fun w h9 => atoms_spec (ws := w_Ba_load) B.pre w (List.mem_cons_of_mem _ h9)
  have hown : s.vm.findClass "ClauseLedger$Balance" = some m.cls := findClass_of_methodNamed B.named
  have hlocks := B.notSynchronized
  have he : entryFrame m args 6 = entryFrame m ([.ref (h 24), .int (-1), .int f] : List Value).toArray 6 := by rw [ha]
  rw [he, lg_entry_eq]
  have hl := lv_entry ([.ref (h 24), .int (-1), .int f]) (n := 6) (Nat.le_of_ble_eq_true rfl)
  generalize (lg_sl ([.ref (h 24), .int (-1), .int f]) ++ List.replicate (6 - (lg_sl ([.ref (h 24), .int (-1), .int f])).length) Slot.unset).toArray = ls at hl ⊢
  have hl : lv_has ls 6 [(0, .ref (h 24)), (1, .int (-1)), (2, .int f)] := hl
  refine lv_iload_n hx hb d_Ba_load_0 rfl (lv_at hl 1 rfl) ?_
  refine lv_iconst (v := -1) hx hb d_Ba_load_1 (by decide) ?_
  refine lv_icmp_ne (tgt := 6) hx hb d_Ba_load_2 (by decide) (fun hc => absurd rfl hc) (fun _ => ?_)
  exact W.vret hx hb hr (fun t ht hW => ⟨rfl, ht⟩) (fun q h => nomatch h) d_Ba_load_5
set_option maxHeartbeats 4000000 in
set_option maxRecDepth 100000 in
theorem c_Ba_load (l : Launch) (D : va_G) (ty : Nat → ClassId) (h : Nat → Nat) (cA : ClassId) (px : va_W) (sa : Nat → Nat) (σ : St) (G : Nat → Nat → Prop) (Sp : Nat → St → Prop) (hac : ∀ x, k_Te_kindOf x σ ∧ k_Te_firstOf x σ ∧ k_Te_secondOf x σ ∧ k_Te_topOf x σ ∧ k_Te_bottomOf x σ) (C : Cl σ G Sp) (A0 : Nat → Option Nat) (x0 xe xt : Itm) (P : List Itm) (sz : Nat) (t f : Int32) (a b k : Nat) (Q : St → St → Prop) (h45 : h 45 = xe.1 0) (h49 : h 49 = xt.1 0) (hBI : BI Sp A0 (x0 :: xe :: xt :: P)) (hne : ¬ t = -1) (hki : k_Ba_inside t σ) (hoA : opA t σ = nI a) (hoB : opB t σ = nI b) (hGa : G 11 a) (hGb : G 11 b) (hk : k = cn (nd σ 12 (nd σ 12 (dom A0) a) b) 100 - cn (dom A0) 100) (hFa : ∀ α, Sp a α → k_at α 1 1 (f_Su_wipes xe.2)) (hF : ∀ α β, Sp a α → Sp b β → True ∧ k_at β (-1) 1 (f_at α 1 1 (f_Su_wipes xe.2)) ∧ k_at (e2L xe.2 α β) f.toInt64 1 xt.2 ∧ Q (e2L xe.2 α β) (f_at (e2L xe.2 α β) f.toInt64 1 xt.2)) : Met l y_Ba_load w_Ba_load (rm_Ba_load k) (va_Pc [.ref (h 24), .int t, .int f] (fun U => U.heap.size = sz ∧ va_P D classes (WB ty h σ cA A0 px (x0 :: xe :: xt :: P)) U.heap ∧ va_K D classes (TA ty cA) U ∧ NW U ∧ MK sa (va_A (WB ty h σ cA A0 px (x0 :: xe :: xt :: P)) sz) U U.heap ∧ va_D (fun _ => True) (WB ty h σ cA A0 px (x0 :: xe :: xt :: P)))) (va_Qv (fun u : (Nat → Option Nat) × St × St × List Itm => (∃ N, u.2.2.2 = P ++ N) ∧ BI Sp u.1 (x0 :: (xe.1, u.2.1) :: (xt.1, u.2.2.1) :: u.2.2.2) ∧ dom u.1 = nd σ 12 (nd σ 12 (dom A0) a) b ∧ Q u.2.1 u.2.2.1) (fun u t1 => va_P D classes (WB ty h (sF σ 24 5 (stL t f σ)) cA u.1 px (x0 :: (xe.1, u.2.1) :: (xt.1, u.2.2.1) :: u.2.2.2)) t1.heap ∧ va_D (va_A (WB ty h σ cA A0 px (x0 :: xe :: xt :: P)) sz) (WB ty h (sF σ 24 5 (stL t f σ)) cA u.1 px (x0 :: (xe.1, u.2.1) :: (xt.1, u.2.2.1) :: u.2.2.2))) (va_A (WB ty h σ cA A0 px (x0 :: xe :: xt :: P)) sz)) (4 * k) (308 * k) (va_A (WB ty h σ cA A0 px (x0 :: xe :: xt :: P)) sz) := by
  refine Met.ofW (cc := b_Ba_load) (maxL := 6) (ret := none) (by decide) rfl ?_
  intro p e s m args below meth c s₁ B hml hv
  obtain ⟨ha, hsz, hP, hK, hN, hM, hD0⟩ := hv
  have hx := B.exec
  have hb := B.bytes
  have hr := B.returns
  have hg : ∀ w ∈ gw, w.before args s = true := fun w h9 => atoms_spec (ws := w_Ba_load) B.pre w (List.mem_cons_of_mem _ h9)
  have hown : s.vm.findClass "ClauseLedger$Balance" = some m.cls := findClass_of_methodNamed B.named
  have hlocks := B.notSynchronized
  subst hsz
  have hD := hD0.self (sz := s.heap.size)
  generalize hAe : va_A (WB ty h σ cA A0 px (x0 :: xe :: xt :: P)) s.heap.size = A at hD hM ⊢
  have hA : ∀ q : Nat, s.heap.size ≤ q → A q := fun q h9 => by rw [← hAe]; exact Or.inr h9
  have hS : va_S A s.heap s.heap [] := va_S.rf
  have he : entryFrame m args 6 = entryFrame m ([.ref (h 24), .int t, .int f] : List Value).toArray 6 := by rw [ha]
  rw [he, lg_entry_eq]
  have hl := lv_entry ([.ref (h 24), .int t, .int f]) (n := 6) (Nat.le_of_ble_eq_true rfl)
  generalize (lg_sl ([.ref (h 24), .int t, .int f]) ++ List.replicate (6 - (lg_sl ([.ref (h 24), .int t, .int f])).length) Slot.unset).toArray = ls at hl ⊢
  have hl : lv_has ls 6 [(0, .ref (h 24)), (1, .int t), (2, .int f)] := hl
  have hKt : va_K D classes (Ta ty) s := hK.sub [0, 1, 2, 3] rfl
  have m1 := cn_nd (σ := σ) 12 (dom A0) a
  have m2 := cn_nd (σ := σ) 12 (nd σ 12 (dom A0) a) b
  have B173 : ∀ (H : Heap) (locs : List Loc) (ls : Array Slot) (A2 : Nat → Option Nat) (e2 t2 : St) (P2 : List Itm) (x : Int32), (x = 0 ∨ x = 1) → stL t f σ = x → (∃ N, P2 = P ++ N) → BI Sp A2 (x0 :: (xe.1, e2) :: (xt.1, t2) :: P2) → dom A2 = nd σ 12 (nd σ 12 (dom A0) a) b → Q e2 t2 → va_P D classes (WB ty h σ cA A2 px (x0 :: (xe.1, e2) :: (xt.1, t2) :: P2)) H → va_D A (WB ty h σ cA A2 px (x0 :: (xe.1, e2) :: (xt.1, t2) :: P2)) → va_S A s.heap H locs → W p l e (headSpec w_Ba_load (rm_Ba_load k)).room s m args below meth c H locs (4 * k) (308 * k) (MQ below (va_Qv (fun u : (Nat → Option Nat) × St × St × List Itm => (∃ N, u.2.2.2 = P ++ N) ∧ BI Sp u.1 (x0 :: (xe.1, u.2.1) :: (xt.1, u.2.2.1) :: u.2.2.2) ∧ dom u.1 = nd σ 12 (nd σ 12 (dom A0) a) b ∧ Q u.2.1 u.2.2.1) (fun u t1 => va_P D classes (WB ty h (sF σ 24 5 (stL t f σ)) cA u.1 px (x0 :: (xe.1, u.2.1) :: (xt.1, u.2.2.1) :: u.2.2.2)) t1.heap ∧ va_D A (WB ty h (sF σ 24 5 (stL t f σ)) cA u.1 px (x0 :: (xe.1, u.2.1) :: (xt.1, u.2.2.1) :: u.2.2.2))) A) args s (4 * k) (308 * k) A) (F0 m 173 ls [.int x, .ref (h 24)]) := by
    intro H locs ls A2 e2 t2 P2 x h01 hst q1 q2 q3 q4 hP hD hS
    have hnb : narrow .boolean (.int x) = .int x ∧ fits .boolean (.int x) = true := by rcases h01 with rfl | rfl <;> exact ⟨rfl, rfl⟩
    refine va_put (v := .int x) (ty := .boolean) (C := R_Ba) (T := T_Ba) (N := 6) hx hb hg in_Ba ty_Ba ok_Ba nm_Ba hown hK hP hD hS 24 rfl rfl 5 (by decide) (hg _ m_212) (fun _ h9 => h9) rfl (by decide +kernel) hnb.1 hnb.2 (Nat.le_of_ble_eq_true rfl) d_Ba_load_173 (fun H locs hP hD hS => ?_)
    have hP : va_P D classes (WB ty h (sF σ 24 5 x) cA A2 px (x0 :: (xe.1, e2) :: (xt.1, t2) :: P2)) H := hP
    have hD : va_D A (WB ty h (sF σ 24 5 x) cA A2 px (x0 :: (xe.1, e2) :: (xt.1, t2) :: P2)) := hD
    rw [← hst] at hP hD
    exact W.vret hx hb hr (fun t1 ht1 hW => ⟨⟨(A2, e2, t2, P2), rfl, ⟨q1, q2, q3, q4⟩, by dsimp only; rw [ht1]; exact ⟨hP, hD⟩⟩, hS.F ht1⟩) hS.2.2 d_Ba_load_176
  have B129 : ∀ (H : Heap) (locs : List Loc) (ls : Array Slot) (A2 : Nat → Option Nat) (α β e2 : St) (P2 : List Itm) (x5 : Int32), Sp a α → Sp b β → e2 = e2L xe.2 α β → (∃ N, P2 = P ++ N) → BI Sp A2 (x0 :: (xe.1, e2) :: xt :: P2) → dom A2 = nd σ 12 (nd σ 12 (dom A0) a) b → lv_has ls 6 [(5, .int x5), (4, .int (f_Te_secondOf (f_Ba_inside t σ) σ)), (3, .int (f_Te_firstOf (f_Ba_inside t σ) σ)), (0, .ref (h 24)), (1, .int t), (2, .int f)] → va_P D classes (WB ty h σ cA A2 px (x0 :: (xe.1, e2) :: xt :: P2)) H → va_D A (WB ty h σ cA A2 px (x0 :: (xe.1, e2) :: xt :: P2)) → va_S A s.heap H locs → W p l e (headSpec w_Ba_load (rm_Ba_load k)).room s m args below meth c H locs (4 * k) (308 * k) (MQ below (va_Qv (fun u : (Nat → Option Nat) × St × St × List Itm => (∃ N, u.2.2.2 = P ++ N) ∧ BI Sp u.1 (x0 :: (xe.1, u.2.1) :: (xt.1, u.2.2.1) :: u.2.2.2) ∧ dom u.1 = nd σ 12 (nd σ 12 (dom A0) a) b ∧ Q u.2.1 u.2.2.1) (fun u t1 => va_P D classes (WB ty h (sF σ 24 5 (stL t f σ)) cA u.1 px (x0 :: (xe.1, u.2.1) :: (xt.1, u.2.2.1) :: u.2.2.2)) t1.heap ∧ va_D A (WB ty h (sF σ 24 5 (stL t f σ)) cA u.1 px (x0 :: (xe.1, u.2.1) :: (xt.1, u.2.2.1) :: u.2.2.2))) A) args s (4 * k) (308 * k) A) (F0 m 129 ls []) := by
    intro H locs ls A2 α β e2 P2 x5 hSa hSb he2 q1 q2 q3 hl hP hD hS
    obtain ⟨-, -, hk3, hQ⟩ := hF α β hSa hSb
    rw [← he2] at hk3 hQ
    refine lv_aload_n hx hb d_Ba_load_129 rfl (lv_at hl 3 rfl) ?_
    refine va_get (v := .ref (h 49)) (C := R_Ba) (T := T_Ba) (N := 6) hx hb hg in_Ba hown hK hP 24 rfl rfl 4 (by decide) (hg _ m_211) (fun _ h9 => h9) rfl d_Ba_load_130 ?_
    rw [h49]
    refine lv_aload_n hx hb d_Ba_load_133 rfl (lv_at hl 3 rfl) ?_
    refine va_get (v := .ref (h 45)) (C := R_Ba) (T := T_Ba) (N := 6) hx hb hg in_Ba hown hK hP 24 rfl rfl 3 (by decide) (hg _ m_210) (fun _ h9 => h9) rfl d_Ba_load_134 ?_
    rw [h45]
    refine lv_iload_n hx hb d_Ba_load_137 rfl (lv_at hl 5 rfl) ?_
    refine lv_i2l (v := f.toInt64) hx hb d_Ba_load_138 rfl ?_
    refine lv_lconst (v := 1) hx hb d_Ba_load_139 (by decide) ?_
    obtain ⟨R, hR⟩ := zp_tw (L := (x0 :: (xe.1, e2) :: xt :: P2)) (i := 2) (j := 1) (x := xt) (y := (xe.1, e2)) rfl rfl (by decide)
    have p0 : List.Perm (x0 :: (xe.1, e2) :: xt :: P2) (xt :: (xe.1, e2) :: R) := hR xt
    have hPt := zp_P hP (WB_tw p0)
    have hDt := zp_D hD (WB_tw p0)
    refine va_callv (va_runV (As := [.ref (xe.1 0), .long f.toInt64, .long 1]) (rest := []) ⟨hx, hb, hml, hown, hg⟩ (c_Su_addTimes l D ty xt.1 xe.1 (WB ty h σ cA A2 px R) sa xt.2 e2 H.size f.toInt64 1 hk3) ⟨callB_of 3 hg (gw_C m_1145) rfl rfl rfl (hg _ m_9) (hg _ m_1142) hd_Su_addTimes ⟨(by simp only [headSpec, rm_Ba_load, rm_Su_addTimes]; omega), (by simp only [headSpec, rm_Ba_load, rm_Su_addTimes]; omega)⟩, hg _ m_1143, hg _ m_1144⟩ (zz_preVW hM hS hA hN hKt hPt hDt 0 rfl rfl) rfl rfl hl.1 rfl (lv_room (Nat.le_of_ble_eq_true rfl)) d_Ba_load_140 ⟨by show _ ≤ 4 * k; omega, by show _ ≤ 308 * k; omega⟩) hS (fun q _ h => zz_free hDt hS hA q h) (zz_free hDt hS hA) (fun u9 t9 H locs ht9 hvm hp hP1 hz9 hk9 hS9 => ?_)
    rw [ht9] at hP1
    have hD1 : va_D A (Ws ty xt.1 u9 (Ws ty xe.1 e2 (WB ty h σ cA A2 px R))) := zz_D hDt rfl
    have p1 : List.Perm (x0 :: (xe.1, e2) :: (xt.1, u9) :: P2) ((xt.1, u9) :: (xe.1, e2) :: R) := hR (xt.1, u9)
    have hP2 := zp_P hP1 (WB_tw (ty := ty) (h := h) (σ := σ) (cA := cA) (A := A2) (px := px) p1).symm
    have hD2 := zp_D hD1 (WB_tw (ty := ty) (h := h) (σ := σ) (cA := cA) (A := A2) (px := px) p1).symm
    clear hP hD hS hz9 hk9
    have hP := hP2
    have hD := hD2
    have hS := hS9
    rw [← hp] at hQ
    have fin : ∀ x : Int32, (x = 0 ∨ x = 1) → stL t f σ = x → W p l e (headSpec w_Ba_load (rm_Ba_load k)).room s m args below meth c H locs (4 * k) (308 * k) (MQ below (va_Qv (fun u : (Nat → Option Nat) × St × St × List Itm => (∃ N, u.2.2.2 = P ++ N) ∧ BI Sp u.1 (x0 :: (xe.1, u.2.1) :: (xt.1, u.2.2.1) :: u.2.2.2) ∧ dom u.1 = nd σ 12 (nd σ 12 (dom A0) a) b ∧ Q u.2.1 u.2.2.1) (fun u t1 => va_P D classes (WB ty h (sF σ 24 5 (stL t f σ)) cA u.1 px (x0 :: (xe.1, u.2.1) :: (xt.1, u.2.2.1) :: u.2.2.2)) t1.heap ∧ va_D A (WB ty h (sF σ 24 5 (stL t f σ)) cA u.1 px (x0 :: (xe.1, u.2.1) :: (xt.1, u.2.2.1) :: u.2.2.2))) A) args s (4 * k) (308 * k) A) (F0 m 173 ls [.int x, .ref (h 24)]) := fun x h01 hst => B173 _ _ _ A2 e2 u9 P2 x h01 hst q1 (BI3 q2) q3 hQ hP hD hS
    refine lv_aload_n hx hb d_Ba_load_143 rfl (lv_at hl 3 rfl) ?_
    refine lv_aload_n hx hb d_Ba_load_144 rfl (lv_at hl 3 rfl) ?_
    refine va_get (v := .int (σ.1 24 5)) (C := R_Ba) (T := T_Ba) (N := 6) hx hb hg in_Ba hown hK hP 24 rfl rfl 5 (by decide) (hg _ m_212) (fun _ h9 => h9) rfl d_Ba_load_145 ?_
    refine lv_if_ne (tgt := 168) hx hb d_Ba_load_148 (by decide) (fun hc => ?_) (fun hc => ?_)
    · refine lv_iconst (v := 1) hx hb d_Ba_load_168 (by decide) ?_
      refine lv_goto (tgt := 173) hx hb d_Ba_load_169 (by decide) ?_
      exact fin 1 (Or.inr rfl) (if_neg hc)
    · refine lv_aload_n hx hb d_Ba_load_151 rfl (lv_at hl 3 rfl) ?_
      refine va_get (v := .ref (h 6)) (C := R_Ba) (T := T_Ba) (N := 6) hx hb hg in_Ba hown hK hP 24 rfl rfl 0 (by decide) (hg _ m_207) (fun _ h9 => h9) rfl d_Ba_load_152 ?_
      refine lv_iload_n hx hb d_Ba_load_155 rfl (lv_at hl 4 rfl) ?_
      refine zz_callV (va_runV (As := [.int t]) (rest := [.ref (h 24)]) ⟨hx, hb, hml, hown, hg⟩ (c_Te_kindOf l D ty h ((h 40, .inl (cA, (100, .inr (.inr (.inr (.inr A2)))))) :: SW ty px (x0 :: (xe.1, e2) :: (xt.1, u9) :: P2)) sa σ t (hac t).1) ⟨callB_of 1 hg (gw_C m_434) rfl rfl rfl (hg _ m_3) (hg _ m_1091) hd_Te_kindOf ⟨(by simp only [headSpec, rm_Ba_load, rm_Te_kindOf]; omega), (by simp only [headSpec, rm_Ba_load, rm_Te_kindOf]; omega)⟩, hg _ m_432, hg _ m_433⟩ (zz_preV (hM.at hS) hN hKt hP 6 rfl rfl) rfl rfl hl.1 rfl (lv_room (Nat.le_of_ble_eq_true rfl)) d_Ba_load_156 ⟨by show _ ≤ 4 * k; omega, by show _ ≤ 308 * k; omega⟩) ?_
      refine lv_bipush (v := 6) hx hb d_Ba_load_159 (by decide) ?_
      refine lv_icmp_ne (tgt := 172) hx hb d_Ba_load_161 (by decide) (fun hc2 => ?_) (fun hc2 => ?_)
      · refine lv_iconst (v := 0) hx hb d_Ba_load_172 (by decide) ?_
        exact fin 0 (Or.inl rfl) ((if_pos hc).trans (if_neg hc2))
      · refine lv_iload_n hx hb d_Ba_load_164 rfl (lv_at hl 5 rfl) ?_
        refine lv_if_le (tgt := 172) hx hb d_Ba_load_165 (by decide) (fun hc3 => ?_) (fun hc3 => ?_)
        · refine lv_iconst (v := 0) hx hb d_Ba_load_172 (by decide) ?_
          exact fin 0 (Or.inl rfl) ((if_pos hc).trans ((if_pos hc2).trans (if_pos hc3)))
        · refine lv_iconst (v := 1) hx hb d_Ba_load_168 (by decide) ?_
          refine lv_goto (tgt := 173) hx hb d_Ba_load_169 (by decide) ?_
          exact fin 1 (Or.inr rfl) ((if_pos hc).trans ((if_pos hc2).trans (if_neg hc3)))
  have B118 : ∀ (H : Heap) (locs : List Loc) (ls : Array Slot) (A1 : Nat → Option Nat) (α e1 : St) (P1 : List Itm) (x5 : Int32), Sp a α → e1 = f_at α 1 1 (f_Su_wipes xe.2) → (∃ N, P1 = P ++ N) → BI Sp A1 (x0 :: (xe.1, e1) :: xt :: P1) → dom A1 = nd σ 12 (dom A0) a → lv_has ls 6 [(5, .int x5), (4, .int (f_Te_secondOf (f_Ba_inside t σ) σ)), (3, .int (f_Te_firstOf (f_Ba_inside t σ) σ)), (0, .ref (h 24)), (1, .int t), (2, .int f)] → va_P D classes (WB ty h σ cA A1 px (x0 :: (xe.1, e1) :: xt :: P1)) H → va_D A (WB ty h σ cA A1 px (x0 :: (xe.1, e1) :: xt :: P1)) → va_S A s.heap H locs → W p l e (headSpec w_Ba_load (rm_Ba_load k)).room s m args below meth c H locs (4 * (cn (nd σ 12 (dom A0) a) 100 - cn (dom A0) 100)) (308 * (cn (nd σ 12 (dom A0) a) 100 - cn (dom A0) 100)) (MQ below (va_Qv (fun u : (Nat → Option Nat) × St × St × List Itm => (∃ N, u.2.2.2 = P ++ N) ∧ BI Sp u.1 (x0 :: (xe.1, u.2.1) :: (xt.1, u.2.2.1) :: u.2.2.2) ∧ dom u.1 = nd σ 12 (nd σ 12 (dom A0) a) b ∧ Q u.2.1 u.2.2.1) (fun u t1 => va_P D classes (WB ty h (sF σ 24 5 (stL t f σ)) cA u.1 px (x0 :: (xe.1, u.2.1) :: (xt.1, u.2.2.1) :: u.2.2.2)) t1.heap ∧ va_D A (WB ty h (sF σ 24 5 (stL t f σ)) cA u.1 px (x0 :: (xe.1, u.2.1) :: (xt.1, u.2.2.1) :: u.2.2.2))) A) args s (4 * k) (308 * k) A) (F0 m 118 ls [.int (nI b), .ref (h 24), .ref (xe.1 0)]) := by
    intro H locs ls A1 α e1 P1 x5 hSa he1 q1 q2 q3 hl hP hD hS
    refine lv_iconst (v := nI 1) hx hb d_Ba_load_118 (by decide) ?_
    refine va_callr (va_runV (As := [.int (nI b), .int (nI 1)]) (rest := [.ref (xe.1 0)]) ⟨hx, hb, hml, hown, hg⟩ (C_Ba_sumOf l D ty h cA px sa σ G Sp hac C 11 A1 (x0 :: (xe.1, e1) :: xt :: P1) H.size b 1 (cn (nd σ 12 (dom A1) b) 100 - cn (dom A1) 100) hGb (by omega) q2 (by show 3 ≤ _ + 1 + 1 + 1; omega) rfl) ⟨callB_of 2 hg (gw_C m_1110) rfl rfl rfl (hg _ m_8) (hg _ m_1107) hd_Ba_sumOf ⟨(by simp only [headSpec, rm_Ba_load, rs_Ba_sumOf]; omega), (by simp only [headSpec, rm_Ba_load, rs_Ba_sumOf]; omega)⟩, hg _ m_1109, hg _ ms_42⟩ (zz_preVW hM hS hA hN hK hP hD 24 rfl rfl) rfl rfl hl.1 rfl (lv_room (Nat.le_of_ble_eq_true rfl)) d_Ba_load_119 ⟨by show _ + 4 * (cn (nd σ 12 (dom A1) b) 100 - cn (dom A1) 100) ≤ 4 * k; rw [q3]; omega, by show _ + 308 * (cn (nd σ 12 (dom A1) b) 100 - cn (dom A1) 100) ≤ 308 * k; rw [q3]; omega⟩) hS (fun q _ h => zz_free hD hS hA q h) (zz_free hD hS hA) (fun u1 a1 t9 H locs ht9 hvm hp hB hz hk9 hS9 => ?_)
    obtain ⟨A2, L2⟩ := u1
    obtain ⟨⟨N2, eL2⟩, hBI2, -, hdm2⟩ := hp
    obtain ⟨hA2, hP1, hD1⟩ := hB
    rw [ht9] at hP1
    have eL2 : L2 = x0 :: (xe.1, e1) :: xt :: (P1 ++ N2) := eL2
    subst eL2
    have hdm2 : dom A2 = nd σ 12 (dom A1) b := hdm2
    have hA2 : A2 b = some a1 := hA2
    have hBI2 : BI Sp A2 (x0 :: (xe.1, e1) :: xt :: (P1 ++ N2)) := hBI2
    have hP1 : va_P D classes (WB ty h σ cA A2 px (x0 :: (xe.1, e1) :: xt :: (P1 ++ N2))) H := hP1
    have hD1 : va_D A (WB ty h σ cA A2 px (x0 :: (xe.1, e1) :: xt :: (P1 ++ N2))) := hD1.weaken (fun _ _ _ h9 => zz_free hD hS hA _ h9)
    clear hP hD hS hz hk9
    have hP := hP1
    have hD := hD1
    have hS := hS9
    obtain ⟨i, x, hi3, hix, hxa, hSx⟩ := hBI2 b a1 hA2
    subst hxa
    refine lv_ldc2 (v := -1) hx hb hown (hg _ m_1148) d_Ba_load_122 ?_
    refine lv_lconst (v := 1) hx hb d_Ba_load_125 (by decide) ?_
    have hk2 := (hF α x.2 hSa hSx).2.1
    rw [← he1] at hk2
    obtain ⟨R, hR⟩ := zp_tw (L := x0 :: (xe.1, e1) :: xt :: (P1 ++ N2)) (i := 1) (j := i) (x := (xe.1, e1)) (y := x) rfl hix (by omega)
    have p0 : List.Perm (x0 :: (xe.1, e1) :: xt :: (P1 ++ N2)) ((xe.1, e1) :: x :: R) := hR (xe.1, e1)
    have hPt := zp_P hP (WB_tw p0)
    have hDt := zp_D hD (WB_tw p0)
    refine va_callv (va_runV (As := [.ref (x.1 0), .long (-1), .long 1]) (rest := []) ⟨hx, hb, hml, hown, hg⟩ (c_Su_addTimes l D ty xe.1 x.1 (WB ty h σ cA A2 px R) sa e1 x.2 H.size (-1) 1 hk2) ⟨callB_of 3 hg (gw_C m_1145) rfl rfl rfl (hg _ m_9) (hg _ m_1142) hd_Su_addTimes ⟨(by simp only [headSpec, rm_Ba_load, rm_Su_addTimes]; omega), (by simp only [headSpec, rm_Ba_load, rm_Su_addTimes]; omega)⟩, hg _ m_1143, hg _ m_1144⟩ (zz_preVW hM hS hA hN hKt hPt hDt 0 rfl rfl) rfl rfl hl.1 rfl (lv_room (Nat.le_of_ble_eq_true rfl)) d_Ba_load_126 ⟨by show _ + 4 * (cn (nd σ 12 (dom A1) b) 100 - cn (dom A1) 100) + 0 ≤ 4 * k; rw [q3]; omega, by show _ + 308 * (cn (nd σ 12 (dom A1) b) 100 - cn (dom A1) 100) + 0 ≤ 308 * k; rw [q3]; omega⟩) hS (fun q _ h => zz_free hDt hS hA q h) (zz_free hDt hS hA) (fun u9 t9 H locs ht9 hvm hp hP1 hz9 hk9 hS9 => ?_)
    rw [ht9] at hP1
    have hD1 : va_D A (Ws ty xe.1 u9 (Ws ty x.1 x.2 (WB ty h σ cA A2 px R))) := zz_D hDt rfl
    have p1 : List.Perm (x0 :: (xe.1, u9) :: xt :: (P1 ++ N2)) ((xe.1, u9) :: x :: R) := hR (xe.1, u9)
    have hP2 := zp_P hP1 (WB_tw (ty := ty) (h := h) (σ := σ) (cA := cA) (A := A2) (px := px) p1).symm
    have hD2 := zp_D hD1 (WB_tw (ty := ty) (h := h) (σ := σ) (cA := cA) (A := A2) (px := px) p1).symm
    clear hP hD hS hz9 hk9
    have hP := hP2
    have hD := hD2
    have hS := hS9
    obtain ⟨N1, rfl⟩ := q1
    refine W.widen (k := 4 * k) (n := 308 * k) (by rw [q3]; omega) (by rw [q3]; omega) ?_
    exact B129 _ _ _ A2 α x.2 u9 _ x5 hSa hSx (by rw [hp, he1]) ⟨N1 ++ N2, List.append_assoc P N1 N2⟩ (BI3 hBI2) (by rw [hdm2, q3]) hl hP hD hS
  have B93 : ∀ (H : Heap) (locs : List Loc) (ls : Array Slot) (x5 : Int32), trn t σ = x5 → lv_has ls 6 [(5, .int x5), (4, .int (f_Te_secondOf (f_Ba_inside t σ) σ)), (3, .int (f_Te_firstOf (f_Ba_inside t σ) σ)), (0, .ref (h 24)), (1, .int t), (2, .int f)] → va_P D classes (WB ty h σ cA A0 px (x0 :: (xe.1, f_Su_wipes xe.2) :: xt :: P)) H → va_D A (WB ty h σ cA A0 px (x0 :: (xe.1, f_Su_wipes xe.2) :: xt :: P)) → va_S A s.heap H locs → W p l e (headSpec w_Ba_load (rm_Ba_load k)).room s m args below meth c H locs 0 0 (MQ below (va_Qv (fun u : (Nat → Option Nat) × St × St × List Itm => (∃ N, u.2.2.2 = P ++ N) ∧ BI Sp u.1 (x0 :: (xe.1, u.2.1) :: (xt.1, u.2.2.1) :: u.2.2.2) ∧ dom u.1 = nd σ 12 (nd σ 12 (dom A0) a) b ∧ Q u.2.1 u.2.2.1) (fun u t1 => va_P D classes (WB ty h (sF σ 24 5 (stL t f σ)) cA u.1 px (x0 :: (xe.1, u.2.1) :: (xt.1, u.2.2.1) :: u.2.2.2)) t1.heap ∧ va_D A (WB ty h (sF σ 24 5 (stL t f σ)) cA u.1 px (x0 :: (xe.1, u.2.1) :: (xt.1, u.2.2.1) :: u.2.2.2))) A) args s (4 * k) (308 * k) A) (F0 m 93 ls [.int (nI a), .ref (h 24), .ref (xe.1 0)]) := by
    intro H locs ls x5 hx5 hl hP hD hS
    obtain ⟨e0, he0⟩ : ∃ e0, f_Su_wipes xe.2 = e0 := ⟨_, rfl⟩
    rw [he0] at hP hD
    refine lv_iconst (v := nI 1) hx hb d_Ba_load_93 (by decide) ?_
    refine va_callr (va_runV (As := [.int (nI a), .int (nI 1)]) (rest := [.ref (xe.1 0)]) ⟨hx, hb, hml, hown, hg⟩ (C_Ba_sumOf l D ty h cA px sa σ G Sp hac C 11 A0 (x0 :: (xe.1, e0) :: xt :: P) H.size a 1 (cn (nd σ 12 (dom A0) a) 100 - cn (dom A0) 100) hGa (by omega) (BI3 hBI) (by show 3 ≤ _ + 1 + 1 + 1; omega) rfl) ⟨callB_of 2 hg (gw_C m_1110) rfl rfl rfl (hg _ m_8) (hg _ m_1107) hd_Ba_sumOf ⟨(by simp only [headSpec, rm_Ba_load, rs_Ba_sumOf]; omega), (by simp only [headSpec, rm_Ba_load, rs_Ba_sumOf]; omega)⟩, hg _ m_1109, hg _ ms_42⟩ (zz_preVW hM hS hA hN hK hP hD 24 rfl rfl) rfl rfl hl.1 rfl (lv_room (Nat.le_of_ble_eq_true rfl)) d_Ba_load_94 ⟨by show 0 + 4 * _ ≤ 4 * k; omega, by show 0 + 308 * _ ≤ 308 * k; omega⟩) hS (fun q _ h => zz_free hD hS hA q h) (zz_free hD hS hA) (fun u1 a1 t9 H locs ht9 hvm hp hB hz hk9 hS9 => ?_)
    obtain ⟨A2, L2⟩ := u1
    obtain ⟨⟨N2, eL2⟩, hBI2, -, hdm2⟩ := hp
    obtain ⟨hA2, hP1, hD1⟩ := hB
    rw [ht9] at hP1
    have eL2 : L2 = x0 :: (xe.1, e0) :: xt :: (P ++ N2) := eL2
    subst eL2
    have hdm2 : dom A2 = nd σ 12 (dom A0) a := hdm2
    have hA2 : A2 a = some a1 := hA2
    have hBI2 : BI Sp A2 (x0 :: (xe.1, e0) :: xt :: (P ++ N2)) := hBI2
    have hP1 : va_P D classes (WB ty h σ cA A2 px (x0 :: (xe.1, e0) :: xt :: (P ++ N2))) H := hP1
    have hD1 : va_D A (WB ty h σ cA A2 px (x0 :: (xe.1, e0) :: xt :: (P ++ N2))) := hD1.weaken (fun _ _ _ h9 => zz_free hD hS hA _ h9)
    clear hP hD hS hz hk9
    have hP := hP1
    have hD := hD1
    have hS := hS9
    obtain ⟨i, x, hi3, hix, hxa, hSx⟩ := hBI2 a a1 hA2
    subst hxa
    refine lv_lconst (v := 1) hx hb d_Ba_load_97 (by decide) ?_
    refine lv_lconst (v := 1) hx hb d_Ba_load_98 (by decide) ?_
    have hk1 : k_at x.2 1 1 e0 := by
      rw [← he0]; exact hFa x.2 hSx
    obtain ⟨R, hR⟩ := zp_tw (L := x0 :: (xe.1, e0) :: xt :: (P ++ N2)) (i := 1) (j := i) (x := (xe.1, e0)) (y := x) rfl hix (by omega)
    have p0 : List.Perm (x0 :: (xe.1, e0) :: xt :: (P ++ N2)) ((xe.1, e0) :: x :: R) := hR (xe.1, e0)
    have hPt := zp_P hP (WB_tw p0)
    have hDt := zp_D hD (WB_tw p0)
    refine va_callv (va_runV (As := [.ref (x.1 0), .long 1, .long 1]) (rest := []) ⟨hx, hb, hml, hown, hg⟩ (c_Su_addTimes l D ty xe.1 x.1 (WB ty h σ cA A2 px R) sa e0 x.2 H.size 1 1 hk1) ⟨callB_of 3 hg (gw_C m_1145) rfl rfl rfl (hg _ m_9) (hg _ m_1142) hd_Su_addTimes ⟨(by simp only [headSpec, rm_Ba_load, rm_Su_addTimes]; omega), (by simp only [headSpec, rm_Ba_load, rm_Su_addTimes]; omega)⟩, hg _ m_1143, hg _ m_1144⟩ (zz_preVW hM hS hA hN hKt hPt hDt 0 rfl rfl) rfl rfl hl.1 rfl (lv_room (Nat.le_of_ble_eq_true rfl)) d_Ba_load_99 ⟨by show 0 + 4 * _ + 0 ≤ 4 * k; omega, by show 0 + 308 * _ + 0 ≤ 308 * k; omega⟩) hS (fun q _ h => zz_free hDt hS hA q h) (zz_free hDt hS hA) (fun u9 t9 H locs ht9 hvm hp hP1 hz9 hk9 hS9 => ?_)
    rw [ht9] at hP1
    have hD1 : va_D A (Ws ty xe.1 u9 (Ws ty x.1 x.2 (WB ty h σ cA A2 px R))) := zz_D hDt rfl
    have p1 : List.Perm (x0 :: (xe.1, u9) :: xt :: (P ++ N2)) ((xe.1, u9) :: x :: R) := hR (xe.1, u9)
    have hP2 := zp_P hP1 (WB_tw (ty := ty) (h := h) (σ := σ) (cA := cA) (A := A2) (px := px) p1).symm
    have hD2 := zp_D hD1 (WB_tw (ty := ty) (h := h) (σ := σ) (cA := cA) (A := A2) (px := px) p1).symm
    clear hP hD hS hz9 hk9
    have hP := hP2
    have hD := hD2
    have hS := hS9
    refine lv_aload_n hx hb d_Ba_load_102 rfl (lv_at hl 3 rfl) ?_
    refine va_get (v := .ref (h 45)) (C := R_Ba) (T := T_Ba) (N := 6) hx hb hg in_Ba hown hK hP 24 rfl rfl 3 (by decide) (hg _ m_210) (fun _ h9 => h9) rfl d_Ba_load_103 ?_
    rw [h45]
    refine lv_aload_n hx hb d_Ba_load_106 rfl (lv_at hl 3 rfl) ?_
    refine lv_iload hx hb d_Ba_load_107 (lv_at hl 0 rfl) ?_
    have go := B118 H locs ls A2 x.2 u9 (P ++ N2) x5 hSx (by rw [hp, he0]) ⟨N2, rfl⟩ (BI3 hBI2) hdm2 hl hP hD hS
    have hoB2 := hoB
    unfold opB at hoB2
    rw [hx5] at hoB2
    refine W.widen (k := 4 * (cn (nd σ 12 (dom A0) a) 100 - cn (dom A0) 100)) (n := 308 * (cn (nd σ 12 (dom A0) a) 100 - cn (dom A0) 100)) (by show 0 + 4 * _ + 0 ≤ _; omega) (by show 0 + 308 * _ + 0 ≤ _; omega) ?_
    refine lv_if_eq (tgt := 116) hx hb d_Ba_load_109 (by decide) (fun hc => ?_) (fun hc => ?_)
    · rw [if_pos hc] at hoB2
      refine lv_iload hx hb d_Ba_load_116 (lv_at hl 1 rfl) ?_
      rw [hoB2]; exact go
    · rw [if_neg hc] at hoB2
      refine lv_iload_n hx hb d_Ba_load_112 rfl (lv_at hl 2 rfl) ?_
      refine lv_goto (tgt := 118) hx hb d_Ba_load_113 (by decide) ?_
      rw [hoB2]; exact go
  have B68 : ∀ (ls : Array Slot) (x5 : Int32), trn t σ = x5 → lv_has ls 6 [(4, .int (f_Te_secondOf (f_Ba_inside t σ) σ)), (3, .int (f_Te_firstOf (f_Ba_inside t σ) σ)), (0, .ref (h 24)), (1, .int t), (2, .int f)] → W p l e (headSpec w_Ba_load (rm_Ba_load k)).room s m args below meth c s.heap [] 0 0 (MQ below (va_Qv (fun u : (Nat → Option Nat) × St × St × List Itm => (∃ N, u.2.2.2 = P ++ N) ∧ BI Sp u.1 (x0 :: (xe.1, u.2.1) :: (xt.1, u.2.2.1) :: u.2.2.2) ∧ dom u.1 = nd σ 12 (nd σ 12 (dom A0) a) b ∧ Q u.2.1 u.2.2.1) (fun u t1 => va_P D classes (WB ty h (sF σ 24 5 (stL t f σ)) cA u.1 px (x0 :: (xe.1, u.2.1) :: (xt.1, u.2.2.1) :: u.2.2.2)) t1.heap ∧ va_D A (WB ty h (sF σ 24 5 (stL t f σ)) cA u.1 px (x0 :: (xe.1, u.2.1) :: (xt.1, u.2.2.1) :: u.2.2.2))) A) args s (4 * k) (308 * k) A) (F0 m 68 ls [.int x5]) := by
    intro ls x5 hx5 hl
    refine lv_istore (lv' := [(5, .int x5), (4, .int (f_Te_secondOf (f_Ba_inside t σ) σ)), (3, .int (f_Te_firstOf (f_Ba_inside t σ) σ)), (0, .ref (h 24)), (1, .int t), (2, .int f)]) hx hb d_Ba_load_68 hl (by decide) rfl (fun ls hl => ?_)
    refine lv_aload_n hx hb d_Ba_load_70 rfl (lv_at hl 3 rfl) ?_
    refine va_get (v := .ref (h 45)) (C := R_Ba) (T := T_Ba) (N := 6) hx hb hg in_Ba hown hK hP 24 rfl rfl 3 (by decide) (hg _ m_210) (fun _ h9 => h9) rfl d_Ba_load_71 ?_
    rw [h45]
    obtain ⟨R, hR⟩ := zp_on (L := (x0 :: xe :: xt :: P)) (i := 1) (x := xe) rfl
    have p0 : List.Perm (x0 :: xe :: xt :: P) (xe :: R) := hR xe
    have hPt := zp_P hP (WB_on p0)
    have hDt := zp_D hD (WB_on p0)
    refine va_callv (va_runV (As := []) (rest := []) ⟨hx, hb, hml, hown, hg⟩ (c_Su_wipes l D ty xe.1 (WB ty h σ cA A0 px R) sa xe.2 s.heap.size trivial) ⟨callB_of 0 hg (gw_C m_1101) rfl rfl rfl (hg _ m_9) (hg _ m_1098) hd_Su_wipes ⟨(by simp only [headSpec, rm_Ba_load, rm_Su_wipes]; omega), (by simp only [headSpec, rm_Ba_load, rm_Su_wipes]; omega)⟩, hg _ m_1099, hg _ m_1100⟩ (zz_preVW hM hS hA hN hKt hPt hDt 0 rfl rfl) rfl rfl hl.1 rfl (lv_room (Nat.le_of_ble_eq_true rfl)) d_Ba_load_74 ⟨by show _ ≤ 4 * k; omega, by show _ ≤ 308 * k; omega⟩) hS (fun q _ h => zz_free hDt hS hA q h) (zz_free hDt hS hA) (fun u9 t9 H locs ht9 hvm hp hP1 hz9 hk9 hS9 => ?_)
    rw [ht9] at hP1
    have hD1 : va_D A (Ws ty xe.1 u9 (WB ty h σ cA A0 px R)) := zz_D hDt rfl
    have p1 : List.Perm (x0 :: (xe.1, u9) :: xt :: P) ((xe.1, u9) :: R) := hR (xe.1, u9)
    have hP2 := zp_P hP1 (WB_on (ty := ty) (h := h) (σ := σ) (cA := cA) (A := A0) (px := px) p1).symm
    have hD2 := zp_D hD1 (WB_on (ty := ty) (h := h) (σ := σ) (cA := cA) (A := A0) (px := px) p1).symm
    subst hp
    have go := fun ls hl => B93 H locs ls x5 hx5 hl hP2 hD2 hS9
    have hPo := hP
    have hP := hP2
    refine lv_aload_n hx hb d_Ba_load_77 rfl (lv_at hl 3 rfl) ?_
    refine va_get (v := .ref (h 45)) (C := R_Ba) (T := T_Ba) (N := 6) hx hb hg in_Ba hown hK hP 24 rfl rfl 3 (by decide) (hg _ m_210) (fun _ h9 => h9) rfl d_Ba_load_78 ?_
    rw [h45]
    refine lv_aload_n hx hb d_Ba_load_81 rfl (lv_at hl 3 rfl) ?_
    refine lv_iload hx hb d_Ba_load_82 (lv_at hl 0 rfl) ?_
    have hoA2 := hoA
    unfold opA at hoA2
    rw [hx5] at hoA2
    refine lv_if_eq (tgt := 92) hx hb d_Ba_load_84 (by decide) (fun hc => ?_) (fun hc => ?_)
    · rw [if_pos hc] at hoA2
      refine lv_iload_n hx hb d_Ba_load_92 rfl (lv_at hl 2 rfl) ?_
      rw [hoA2]; exact go _ hl
    · rw [if_neg hc] at hoA2
      refine lv_iload hx hb d_Ba_load_87 (lv_at hl 1 rfl) ?_
      refine lv_goto (tgt := 93) hx hb d_Ba_load_89 (by decide) ?_
      rw [hoA2]; exact go _ hl
  refine lv_iload_n hx hb d_Ba_load_0 rfl (lv_at hl 1 rfl) ?_
  refine lv_iconst (v := -1) hx hb d_Ba_load_1 (by decide) ?_
  refine lv_icmp_ne (tgt := 6) hx hb d_Ba_load_2 (by decide) (fun _ => ?_) (fun hc => absurd hc hne)
  refine lv_aload_n hx hb d_Ba_load_6 rfl (lv_at hl 0 rfl) ?_
  refine va_get (v := .ref (h 6)) (C := R_Ba) (T := T_Ba) (N := 6) hx hb hg in_Ba hown hK hP 24 rfl rfl 0 (by decide) (hg _ m_207) (fun _ h9 => h9) rfl d_Ba_load_7 ?_
  refine lv_aload_n hx hb d_Ba_load_10 rfl (lv_at hl 0 rfl) ?_
  refine lv_iload_n hx hb d_Ba_load_11 rfl (lv_at hl 1 rfl) ?_
  refine zz_callV (va_runV (As := [.int t]) (rest := [.ref (h 6)]) ⟨hx, hb, hml, hown, hg⟩ (c_Ba_inside l D ty h ((h 40, .inl (cA, (100, .inr (.inr (.inr (.inr A0)))))) :: SW ty px (x0 :: xe :: xt :: P)) sa σ t hki) ⟨callB_of 1 hg (gw_C m_1090) rfl rfl rfl (hg _ m_8) (hg _ m_1087) hd_Ba_inside ⟨(by simp only [headSpec, rm_Ba_load, rm_Ba_inside]; omega), (by simp only [headSpec, rm_Ba_load, rm_Ba_inside]; omega)⟩, hg _ m_1089, hg _ ms_41⟩ (zz_preV (hM.at hS) hN hKt hP 24 rfl rfl) rfl rfl hl.1 rfl (lv_room (Nat.le_of_ble_eq_true rfl)) d_Ba_load_12 ⟨by show _ ≤ 4 * k; omega, by show _ ≤ 308 * k; omega⟩) ?_
  refine zz_callV (va_runV (As := [.int (f_Ba_inside t σ)]) (rest := []) ⟨hx, hb, hml, hown, hg⟩ (c_Te_firstOf l D ty h ((h 40, .inl (cA, (100, .inr (.inr (.inr (.inr A0)))))) :: SW ty px (x0 :: xe :: xt :: P)) sa σ (f_Ba_inside t σ) (hac (f_Ba_inside t σ)).2.1) ⟨callB_of 1 hg (gw_C m_447) rfl rfl rfl (hg _ m_3) (hg _ m_1092) hd_Te_firstOf ⟨(by simp only [headSpec, rm_Ba_load, rm_Te_firstOf]; omega), (by simp only [headSpec, rm_Ba_load, rm_Te_firstOf]; omega)⟩, hg _ m_445, hg _ m_446⟩ (zz_preV (hM.at hS) hN hKt hP 6 rfl rfl) rfl rfl hl.1 rfl (lv_room (Nat.le_of_ble_eq_true rfl)) d_Ba_load_15 ⟨by show _ ≤ 4 * k; omega, by show _ ≤ 308 * k; omega⟩) ?_
  refine lv_istore_n (lv' := [(3, .int (f_Te_firstOf (f_Ba_inside t σ) σ)), (0, .ref (h 24)), (1, .int t), (2, .int f)]) hx hb d_Ba_load_18 rfl hl (by decide) rfl (fun ls hl => ?_)
  refine lv_aload_n hx hb d_Ba_load_19 rfl (lv_at hl 1 rfl) ?_
  refine va_get (v := .ref (h 6)) (C := R_Ba) (T := T_Ba) (N := 6) hx hb hg in_Ba hown hK hP 24 rfl rfl 0 (by decide) (hg _ m_207) (fun _ h9 => h9) rfl d_Ba_load_20 ?_
  refine lv_aload_n hx hb d_Ba_load_23 rfl (lv_at hl 1 rfl) ?_
  refine lv_iload_n hx hb d_Ba_load_24 rfl (lv_at hl 2 rfl) ?_
  refine zz_callV (va_runV (As := [.int t]) (rest := [.ref (h 6)]) ⟨hx, hb, hml, hown, hg⟩ (c_Ba_inside l D ty h ((h 40, .inl (cA, (100, .inr (.inr (.inr (.inr A0)))))) :: SW ty px (x0 :: xe :: xt :: P)) sa σ t hki) ⟨callB_of 1 hg (gw_C m_1090) rfl rfl rfl (hg _ m_8) (hg _ m_1087) hd_Ba_inside ⟨(by simp only [headSpec, rm_Ba_load, rm_Ba_inside]; omega), (by simp only [headSpec, rm_Ba_load, rm_Ba_inside]; omega)⟩, hg _ m_1089, hg _ ms_41⟩ (zz_preV (hM.at hS) hN hKt hP 24 rfl rfl) rfl rfl hl.1 rfl (lv_room (Nat.le_of_ble_eq_true rfl)) d_Ba_load_25 ⟨by show _ ≤ 4 * k; omega, by show _ ≤ 308 * k; omega⟩) ?_
  refine zz_callV (va_runV (As := [.int (f_Ba_inside t σ)]) (rest := []) ⟨hx, hb, hml, hown, hg⟩ (c_Te_secondOf l D ty h ((h 40, .inl (cA, (100, .inr (.inr (.inr (.inr A0)))))) :: SW ty px (x0 :: xe :: xt :: P)) sa σ (f_Ba_inside t σ) (hac (f_Ba_inside t σ)).2.2.1) ⟨callB_of 1 hg (gw_C m_451) rfl rfl rfl (hg _ m_3) (hg _ m_1106) hd_Te_secondOf ⟨(by simp only [headSpec, rm_Ba_load, rm_Te_secondOf]; omega), (by simp only [headSpec, rm_Ba_load, rm_Te_secondOf]; omega)⟩, hg _ m_449, hg _ m_450⟩ (zz_preV (hM.at hS) hN hKt hP 6 rfl rfl) rfl rfl hl.1 rfl (lv_room (Nat.le_of_ble_eq_true rfl)) d_Ba_load_28 ⟨by show _ ≤ 4 * k; omega, by show _ ≤ 308 * k; omega⟩) ?_
  refine lv_istore (lv' := [(4, .int (f_Te_secondOf (f_Ba_inside t σ) σ)), (3, .int (f_Te_firstOf (f_Ba_inside t σ) σ)), (0, .ref (h 24)), (1, .int t), (2, .int f)]) hx hb d_Ba_load_31 hl (by decide) rfl (fun ls hl => ?_)
  refine lv_aload_n hx hb d_Ba_load_33 rfl (lv_at hl 2 rfl) ?_
  refine va_get (v := .ref (h 6)) (C := R_Ba) (T := T_Ba) (N := 6) hx hb hg in_Ba hown hK hP 24 rfl rfl 0 (by decide) (hg _ m_207) (fun _ h9 => h9) rfl d_Ba_load_34 ?_
  refine lv_iload_n hx hb d_Ba_load_37 rfl (lv_at hl 3 rfl) ?_
  refine zz_callV (va_runV (As := [.int t]) (rest := []) ⟨hx, hb, hml, hown, hg⟩ (c_Te_kindOf l D ty h ((h 40, .inl (cA, (100, .inr (.inr (.inr (.inr A0)))))) :: SW ty px (x0 :: xe :: xt :: P)) sa σ t (hac t).1) ⟨callB_of 1 hg (gw_C m_434) rfl rfl rfl (hg _ m_3) (hg _ m_1091) hd_Te_kindOf ⟨(by simp only [headSpec, rm_Ba_load, rm_Te_kindOf]; omega), (by simp only [headSpec, rm_Ba_load, rm_Te_kindOf]; omega)⟩, hg _ m_432, hg _ m_433⟩ (zz_preV (hM.at hS) hN hKt hP 6 rfl rfl) rfl rfl hl.1 rfl (lv_room (Nat.le_of_ble_eq_true rfl)) d_Ba_load_38 ⟨by show _ ≤ 4 * k; omega, by show _ ≤ 308 * k; omega⟩) ?_
  refine lv_bipush (v := 7) hx hb d_Ba_load_41 (by decide) ?_
  refine lv_icmp_ne (tgt := 67) hx hb d_Ba_load_43 (by decide) (fun hc => ?_) (fun hc => ?_)
  · refine lv_iconst (v := 0) hx hb d_Ba_load_67 (by decide) ?_
    exact B68 _ 0 (if_neg hc) hl
  · refine lv_aload_n hx hb d_Ba_load_46 rfl (lv_at hl 2 rfl) ?_
    refine va_get (v := .ref (h 6)) (C := R_Ba) (T := T_Ba) (N := 6) hx hb hg in_Ba hown hK hP 24 rfl rfl 0 (by decide) (hg _ m_207) (fun _ h9 => h9) rfl d_Ba_load_47 ?_
    refine lv_aload_n hx hb d_Ba_load_50 rfl (lv_at hl 2 rfl) ?_
    refine lv_iload_n hx hb d_Ba_load_51 rfl (lv_at hl 3 rfl) ?_
    refine zz_callV (va_runV (As := [.int t]) (rest := [.ref (h 6)]) ⟨hx, hb, hml, hown, hg⟩ (c_Ba_inside l D ty h ((h 40, .inl (cA, (100, .inr (.inr (.inr (.inr A0)))))) :: SW ty px (x0 :: xe :: xt :: P)) sa σ t hki) ⟨callB_of 1 hg (gw_C m_1090) rfl rfl rfl (hg _ m_8) (hg _ m_1087) hd_Ba_inside ⟨(by simp only [headSpec, rm_Ba_load, rm_Ba_inside]; omega), (by simp only [headSpec, rm_Ba_load, rm_Ba_inside]; omega)⟩, hg _ m_1089, hg _ ms_41⟩ (zz_preV (hM.at hS) hN hKt hP 24 rfl rfl) rfl rfl hl.1 rfl (lv_room (Nat.le_of_ble_eq_true rfl)) d_Ba_load_52 ⟨by show _ ≤ 4 * k; omega, by show _ ≤ 308 * k; omega⟩) ?_
    refine zz_callV (va_runV (As := [.int (f_Ba_inside t σ)]) (rest := []) ⟨hx, hb, hml, hown, hg⟩ (c_Te_kindOf l D ty h ((h 40, .inl (cA, (100, .inr (.inr (.inr (.inr A0)))))) :: SW ty px (x0 :: xe :: xt :: P)) sa σ (f_Ba_inside t σ) (hac (f_Ba_inside t σ)).1) ⟨callB_of 1 hg (gw_C m_434) rfl rfl rfl (hg _ m_3) (hg _ m_1091) hd_Te_kindOf ⟨(by simp only [headSpec, rm_Ba_load, rm_Te_kindOf]; omega), (by simp only [headSpec, rm_Ba_load, rm_Te_kindOf]; omega)⟩, hg _ m_432, hg _ m_433⟩ (zz_preV (hM.at hS) hN hKt hP 6 rfl rfl) rfl rfl hl.1 rfl (lv_room (Nat.le_of_ble_eq_true rfl)) d_Ba_load_55 ⟨by show _ ≤ 4 * k; omega, by show _ ≤ 308 * k; omega⟩) ?_
    refine lv_bipush (v := 6) hx hb d_Ba_load_58 (by decide) ?_
    refine lv_icmp_ne (tgt := 67) hx hb d_Ba_load_60 (by decide) (fun hc2 => ?_) (fun hc2 => ?_)
    · refine lv_iconst (v := 0) hx hb d_Ba_load_67 (by decide) ?_
      exact B68 _ 0 ((if_pos hc).trans (if_neg hc2)) hl
    · refine lv_iconst (v := 1) hx hb d_Ba_load_63 (by decide) ?_
      refine lv_goto (tgt := 68) hx hb d_Ba_load_64 (by decide) ?_
      exact B68 _ 1 ((if_pos hc).trans (if_pos hc2)) hl
