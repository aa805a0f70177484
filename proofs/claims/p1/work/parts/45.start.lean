-- the law's entry: what the Statement gives of the start
theorem zz_preCN {s : State} {H : Heap} {D : va_G} {cl : List vw_C} {tys : List (ClassId × FieldType)} {wc : va_W} {A0 : Nat → Prop} (hO : va_AO "ClauseLedger$Sum" s) (hN : NW s) (hK : va_K D cl tys s) (hP : va_P D cl wc H) (hD : va_D A0 wc) {As : List Value} : PreS s H (va_Pc As (fun U => U.heap.size = H.size ∧ va_P D cl wc U.heap ∧ va_K D cl tys U ∧ va_AO "ClauseLedger$Sum" U ∧ NW U ∧ va_D (fun _ => True) wc)) As :=
  ⟨fun a U g mk h => ⟨h.1, h.2.1, h.2.2.1, va_K.moved (u := U) (U := U.calling g mk a) (Vm.Alike.refl U.vm) h.2.2.2.1, va_AO.moved (u := U) (U := U.calling g mk a) (Vm.Alike.refl U.vm) h.2.2.2.2.1, NW.same (u := U) rfl h.2.2.2.2.2.1, h.2.2.2.2.2.2⟩, fun U hU hW => ⟨rfl, by rw [hU], by rw [hU]; exact hP, va_K.moved hW.alike hK, va_AO.moved hW.alike hO, NW.warm hW hN, hD.weaken (fun _ _ _ _ => trivial)⟩⟩
theorem la_arr {args : Array Value} {s : State} {ty : FieldType} (h : (Cond.arrayClass ty).before args s = true) : ∃ cA : ClassId, ArrOfT s cA ty ∧ s.vm.findClass ("[" ++ ty.toString) = some cA := by
  obtain ⟨c, k, comp, h1, h2, h3⟩ := Cond.arrayClass_spec h
  exact ⟨c, fun n z => ⟨fun k h => (by cases h), k, h2, comp, h3⟩, h1⟩
theorem la_D {s : State} {cl : List vw_C} (h : ∀ q ∈ cl, ∃ (cC : ClassId) (iS : Nat → Nat), u_Kn s q.1 q.2.1 q.2.2 cC iS) : ∃ D : va_G, ∀ (c : Nat) (q : vw_C), cl[c]? = some q → u_Kn s q.1 q.2.1 q.2.2 (D.1 c) (D.2 c) := by
  have h1 : ∀ c : Nat, ∃ x : ClassId × (Nat → Nat), ∀ q : vw_C, cl[c]? = some q → u_Kn s q.1 q.2.1 q.2.2 x.1 x.2 := by
    intro c
    cases hc : cl[c]? with
    | none => exact ⟨(0, fun _ => 0), fun q hq => by cases hq⟩
    | some q =>
      obtain ⟨cC, iS, hk⟩ := h q (List.mem_of_getElem? hc)
      exact ⟨(cC, iS), fun q' hq => by cases hq; exact hk⟩
  obtain ⟨f, hf⟩ := Classical.axiomOfChoice h1
  exact ⟨(fun c => (f c).1, fun c => (f c).2), fun c q hq => hf c q hq⟩
theorem la_ts1 {args : Array Value} {s : State} {C n d : String} (hl : (Cond.laysStatic C n d).before args s = true) (hr : (Cond.isRef (.static C n d)).before args s = true) :
    ∃ (a : Nat) (c : ClassId) (k : Class), s.vm.findClass C = some c ∧ s.vm.classes[c]? = some k ∧ k.statics = some a ∧ a < s.heap.size ∧ ∀ (U' : State) (v : Array Value), s.vm.Alike U'.vm → U'.heap[a]? = s.heap[a]? → (Cond.laysStatic C n d).before v U' = true ∧ (Cond.isRef (.static C n d)).before v U' = true := by
  obtain ⟨c, k, i, f, a, cell, hc, hi, hst, ha, hcell, hs, hcls, hlt, hty⟩ := Cond.laysStatic_spec hl
  obtain ⟨w, hv, hw⟩ := Cond.isRef_spec hr
  obtain ⟨hst', a', cell', ha', hcell', hkn, hslot⟩ := Term.static_spec hi hv
  cases ha.symm.trans ha'
  cases hcell.symm.trans hcell'
  refine ⟨a, c, k, hc, (State.fieldFound?_spec hi).1, ha, (Array.getElem?_eq_some_iff.mp hcell).1, fun U' v hal he => ?_⟩
  obtain ⟨k', hi', hek⟩ := State.fieldFound?_setVm hal hi
  have hi2 : U'.fieldFound? C n d = some (c, k', i, f) := hi'
  have hcell2 : U'.heap[a]? = some cell := by rw [he]; exact hcell
  refine ⟨Cond.laysStatic_of (by rw [hal.findClass]; exact hc) hi2 hst (by rw [hek]; exact ha) hcell2 hs hcls hlt (by rw [hek]; exact hty), ?_⟩
  have hv2 : (Term.static C n d).eval v U' none [] U' = some w := Term.static_eval hi2 hst (by rw [hek]; exact ha) hcell2 hs hslot
  simp only [Cond.before, Cond.holds, Cond.value, hv2]
  cases w <;> first | rfl | exact Bool.noConfusion hw
theorem la_TS {args : Array Value} {s : State} (h : ∀ w ∈ th4, w.before args s = true) : TS (lA s) s s.heap := by
  obtain ⟨a, c, k, h1, h2, h3, h4, h5⟩ := la_ts1 (h _ th_0) (h _ th_2)
  obtain ⟨a', c', k', h1', h2', h3', h4', h5'⟩ := la_ts1 (h _ th_1) (h _ th_3)
  cases h1.symm.trans h1'
  cases h2.symm.trans h2'
  cases h3.symm.trans h3'
  refine ⟨a, h4, fun z => absurd h4 (Nat.not_lt.mpr z), fun U' v hv he w hw => ?_⟩
  obtain ⟨g1, g2⟩ := h5 U' v hv he
  obtain ⟨g3, g4⟩ := h5' U' v hv he
  simp only [th4, List.mem_cons, List.not_mem_nil, or_false] at hw
  rcases hw with rfl | rfl | rfl | rfl
  · exact g1
  · exact g3
  · exact g2
  · exact g4
theorem la_eqS {args : Array Value} {s : State} {t1 t2 : Term} {a : Nat} (h : (Cond.eq t1 t2).before args s = true) (h1 : t1.eval args s none [] s = some (.ref a)) : t2.eval args s none [] s = some (.ref a) := by
  cases hv : t2.eval args s none [] s with
  | none => simp [Cond.before, Cond.holds, Cond.value, h1, hv] at h
  | some w =>
    simp only [Cond.before, Cond.holds, Cond.value, h1, hv] at h
    cases w <;> simp_all
theorem la_ex {args : Array Value} {s : State} {t : Term} {cls : String} (h : (Cond.exactly t cls).before args s = true) : ∃ a, t.eval args s none [] s = some (.ref a) := by
  obtain ⟨a, c, cA, kA, q1, -⟩ := Cond.exactly_spec (args := args) (first := s) (o := none) (s := s) (idx := []) (t := t) (cls := cls) h
  exact ⟨a, q1⟩
/-- the class's first state -/
def vs0 : Nat → Int32 := upd (upd (upd (fun _ => 0) (0 : Int32).toNatClampNeg 1) (1 : Int32).toNatClampNeg 1) (2 : Int32).toNatClampNeg 1
def σ0 : St := (pu (pu (pu (pu (fun _ _ => 0) 1 (pu (fun _ => 0) 4 2)) 5 vs0) 22 (pu (fun _ => 0) 3 (-1))) 27 (pu (fun _ => 0) 3 1), fun _ _ => 0)
def τ0 : St := (pu (pu (fun _ _ => 0) 0 (pu (fun _ => 0) 2 2)) 4 vs0, fun _ _ => 0)
/-! THE CLAIM OUT OF ONE WALK OF THE LAW'S BODY. Your part is whole_start (and what it stands on); all else here is the same for every law, but numbers. -/
def R_law : String := "ClauseLedgerLaw"
def lw_P (b : Addr) (xs : List Int32) (args : Array Value) (s : State) : Prop := args = #[.ref b] ∧ s.IntsAt b xs ∧ xs.length ≤ 7 ∧ (Jvm.Cond.and given_1 narrow_1).before args s = true
def lw_Q (_ : Array Value) (s : State) (o : Outcome) (t : State) : Prop := o = .returned (some (.int 1)) ∧ Framed s o t [] 600002 7302232
def lw_Z (below : List Frame) (a : Array Value) (s : State) : State → Prop := fun t => ∃ o, t.status = .running ∧ Ended t below o ∧ lw_Q a s o t
/-- the law's own end, with 1 on the stack, nothing written that was there before, its room as the claim has it -/
theorem lw_ret {p : Program} {l : Launch} {e : Env} {s : State} {m : MethodId} {below : List Frame} {meth : Method} {c : Code} {b : Nat} (hx : p.tables.exec = Jvm.exec) (hb : c.code = code) (hr : meth.sig.returnType = ret) (hlocks : meth.locks = false) {pc : Nat} {H : Heap} {ls : Array Slot} (hdg : decode code pc = .ok (.ireturn, 1)) : W p l e room_1 s m #[Value.ref b] below meth c H [] 600002 7302232 (lw_Z below #[Value.ref b] s) (F0 m pc ls [.int 1]) := by
  intro T hT X
  obtain ⟨fs, hret, hrun, hended, hW, hframe⟩ := X.leave (v := some (.int 1)) (hlocks := hlocks) (fun h => by rw [hr] at h; cases h)
  have hmeth' : T.vm.method? m = some meth := X.method'
  refine ⟨T.setFrames fs, ?_, .returned (some (.int 1)), hrun, hended, rfl, ⟨_, rfl⟩, hW, hframe⟩
  jvm_step X.here [X.here.top, hx, hb, hdg, hmeth', hr, ret, narrow_b1]
  (try refine ⟨rfl, ?_⟩); (try refine ⟨rfl, ?_⟩)
  first | (intro acts; rw [hret _ acts rfl rfl rfl]) | rw [hret _ _ rfl rfl rfl]
  exact Steps.refl _
/-- what holds at the law's entry: the machine, the code, the tables' words (any of lw_tbl by 'hts w (by decide +kernel)'), the script of L ints xs at the cell b, what the Statement gives of the start (any of its parts by flat_of_before) -/
def lw_At (p : Program) (s : State) (m : MethodId) (meth : Method) (c : Code) (b L : Nat) (xs : Nat → Int32) : Prop :=
  p.tables.exec = Jvm.exec ∧ c.code = code ∧ meth.sig.returnType = ret ∧ c.maxLocals = 7 ∧ s.vm.findClass R_law = some m.cls ∧ (∀ w ∈ lw_tbl, w.before #[Value.ref b] s = true) ∧ va_X b L xs s s.heap ∧ b < s.heap.size ∧ meth.locks = false ∧ (Jvm.Cond.and given_1 narrow_1).before #[Value.ref b] s = true
theorem nt_1 {i : Nat} {w : Cond} (h : tables_1_1[i]? = some w) : w ∈ lw_tbl := by
  have h9 := List.mem_of_getElem? h
  exact List.mem_append_right _ (List.mem_append_left _ h9)
theorem nt_2 {i : Nat} {w : Cond} (h : tables_1_2[i]? = some w) : w ∈ lw_tbl := by
  have h9 := List.mem_of_getElem? h
  exact List.mem_append_right _ (List.mem_append_right _ (List.mem_append_left _ h9))
theorem nt_3 {i : Nat} {w : Cond} (h : tables_1_3[i]? = some w) : w ∈ lw_tbl := by
  have h9 := List.mem_of_getElem? h
  exact List.mem_append_right _ (List.mem_append_right _ (List.mem_append_right _ (List.mem_append_left _ h9)))
theorem nt_4 {i : Nat} {w : Cond} (h : tables_1_4[i]? = some w) : w ∈ lw_tbl := by
  have h9 := List.mem_of_getElem? h
  exact List.mem_append_right _ (List.mem_append_right _ (List.mem_append_right _ (List.mem_append_right _ (List.mem_append_left _ h9))))
theorem nt_5 {i : Nat} {w : Cond} (h : tables_1_5[i]? = some w) : w ∈ lw_tbl := by
  have h9 := List.mem_of_getElem? h
  exact List.mem_append_right _ (List.mem_append_right _ (List.mem_append_right _ (List.mem_append_right _ (List.mem_append_right _ (List.mem_append_left _ h9)))))
theorem nt_6 {i : Nat} {w : Cond} (h : tables_1_6[i]? = some w) : w ∈ lw_tbl := by
  have h9 := List.mem_of_getElem? h
  exact List.mem_append_right _ (List.mem_append_right _ (List.mem_append_right _ (List.mem_append_right _ (List.mem_append_right _ (List.mem_append_right _ (List.mem_append_left _ h9))))))
theorem nt_7 {i : Nat} {w : Cond} (h : tables_1_7[i]? = some w) : w ∈ lw_tbl := by
  have h9 := List.mem_of_getElem? h
  exact List.mem_append_right _ (List.mem_append_right _ (List.mem_append_right _ (List.mem_append_right _ (List.mem_append_right _ (List.mem_append_right _ (List.mem_append_right _ (h9)))))))
theorem nws_tbl : ∀ w ∈ nws, w ∈ lw_tbl := by
  show ∀ w ∈ ([Cond.methodLinkNest "ClauseLedger$Reader" 121 ⟨"ClauseLedger", "gcd", "(JJ)J"⟩ "ClauseLedger", Cond.methodLinkNest "ClauseLedger$Sum" 34 ⟨"ClauseLedger", "gcd", "(JJ)J"⟩ "ClauseLedger", Cond.methodLinkNest "ClauseLedger" 9 ⟨"ClauseLedger$Signature", "<init>", "()V"⟩ "ClauseLedger", Cond.methodLinkNest "ClauseLedger" 18 ⟨"ClauseLedger$Terms", "<init>", "()V"⟩ "ClauseLedger", Cond.methodLinkNest "ClauseLedger" 25 ⟨"ClauseLedger$Draft", "<init>", "()V"⟩ "ClauseLedger", Cond.methodLinkNest "ClauseLedger" 64 ⟨"ClauseLedger$Row", "<init>", "()V"⟩ "ClauseLedger", Cond.methodLinkNest "ClauseLedger" 71 ⟨"ClauseLedger$Scopes", "<init>", "()V"⟩ "ClauseLedger", Cond.methodLinkNest "ClauseLedger" 78 ⟨"ClauseLedger$Steps", "<init>", "()V"⟩ "ClauseLedger", Cond.declares ⟨"java/lang/RuntimeException", "<init>", "(Ljava/lang/String;)V"⟩, Cond.declares ⟨"java/lang/Exception", "<init>", "(Ljava/lang/String;)V"⟩, Cond.declares ⟨"java/lang/Throwable", "<init>", "(Ljava/lang/String;)V"⟩, Cond.castable "java/lang/IllegalArgumentException" "java/lang/IllegalArgumentException", Cond.castable "java/lang/ArithmeticException" "java/lang/ArithmeticException", Cond.castable "java/lang/IllegalStateException" "java/lang/IllegalStateException", Cond.castable "java/lang/IndexOutOfBoundsException" "java/lang/IndexOutOfBoundsException"] : List Cond), w ∈ lw_tbl
  exact List.forall_mem_cons.mpr ⟨nt_4 (i := 33) rfl, List.forall_mem_cons.mpr ⟨nt_5 (i := 164) rfl, List.forall_mem_cons.mpr ⟨nt_1 (i := 39) rfl, List.forall_mem_cons.mpr ⟨nt_1 (i := 65) rfl, List.forall_mem_cons.mpr ⟨nt_1 (i := 115) rfl, List.forall_mem_cons.mpr ⟨nt_1 (i := 228) rfl, List.forall_mem_cons.mpr ⟨nt_2 (i := 1) rfl, List.forall_mem_cons.mpr ⟨nt_2 (i := 24) rfl, List.forall_mem_cons.mpr ⟨nt_4 (i := 67) rfl, List.forall_mem_cons.mpr ⟨nt_4 (i := 69) rfl, List.forall_mem_cons.mpr ⟨nt_4 (i := 71) rfl, List.forall_mem_cons.mpr ⟨nt_4 (i := 65) rfl, List.forall_mem_cons.mpr ⟨nt_4 (i := 141) rfl, List.forall_mem_cons.mpr ⟨nt_4 (i := 165) rfl, List.forall_mem_cons.mpr ⟨nt_4 (i := 197) rfl, fun _ h => absurd h List.not_mem_nil⟩⟩⟩⟩⟩⟩⟩⟩⟩⟩⟩⟩⟩⟩⟩
set_option maxHeartbeats 4000000 in
set_option maxRecDepth 100000 in
theorem la_known {s : State} {args : Array Value} (hg : ∀ w ∈ gw, w.before args s = true) : ∃ (D : va_G) (ty : Nat → ClassId), va_K D classes (Ta ty) s := by
  obtain ⟨D, hD⟩ := la_D (s := s) (cl := classes) (by
    show ∀ q ∈ ([(R_CL, T_CL, 11), (R_Sg, T_Sg, 6), (R_Te, T_Te, 14), (R_Dr, T_Dr, 2), (R_Rd, T_Rd, 4), (R_Wr, T_Wr, 1), (R_Pu, T_Pu, 5), (R_Ba, T_Ba, 6), (R_Su, T_Su, 5), (R_Ro, T_Ro, 2), (R_Sc, T_Sc, 5), (R_St, T_St, 5), (R_Mo, T_Mo, 51)] : List vw_C), _
    exact List.forall_mem_cons.mpr ⟨u_known hg in_CL (hg _ m_30), List.forall_mem_cons.mpr ⟨u_known hg in_Sg (hg _ m_38), List.forall_mem_cons.mpr ⟨u_known hg in_Te (hg _ m_64), List.forall_mem_cons.mpr ⟨u_known hg in_Dr (hg _ m_114), List.forall_mem_cons.mpr ⟨u_known hg in_Rd (hg _ m_128), List.forall_mem_cons.mpr ⟨u_known hg in_Wr (hg _ m_147), List.forall_mem_cons.mpr ⟨u_known hg in_Pu (hg _ m_157), List.forall_mem_cons.mpr ⟨u_known hg in_Ba (hg _ m_179), List.forall_mem_cons.mpr ⟨u_known hg in_Su (hg _ m_186), List.forall_mem_cons.mpr ⟨u_known hg in_Ro (hg _ m_227), List.forall_mem_cons.mpr ⟨u_known hg in_Sc (hg _ m_240), List.forall_mem_cons.mpr ⟨u_known hg in_St (hg _ m_263), List.forall_mem_cons.mpr ⟨u_known hg in_Mo (hg _ m_1254), fun _ h => absurd h List.not_mem_nil⟩⟩⟩⟩⟩⟩⟩⟩⟩⟩⟩⟩⟩)
  obtain ⟨c0, a0, b0⟩ := la_arr (hg _ m_62)
  obtain ⟨c1, a1, b1⟩ := la_arr (hg _ m_112)
  obtain ⟨c2, a2, b2⟩ := la_arr (hg _ m_126)
  obtain ⟨c3, a3, b3⟩ := la_arr (hg _ m_261)
  refine ⟨D, fun k => ([c0, c1, c2, c3] : List ClassId).getD k 0, hD, fun k q hk => ?_⟩
  match k, hk with
  | 0, hk => cases hk; exact ⟨a0, b0⟩
  | 1, hk => cases hk; exact ⟨a1, b1⟩
  | 2, hk => cases hk; exact ⟨a2, b2⟩
  | 3, hk => cases hk; exact ⟨a3, b3⟩
  | k + 4, hk => cases hk
theorem la_NC {s : State} {args : Array Value} (hs : ∀ w ∈ flatC (Jvm.Cond.and given_1 narrow_1), w.before args s = true) : NC s := by
  intro i hi j hj hne
  simp only [List.mem_cons, List.not_mem_nil, or_false] at hi hj
  rcases hi with rfl | rfl | rfl | rfl <;> rcases hj with rfl | rfl | rfl | rfl
  · exact absurd rfl hne
  · exact va_Nc.of (hs (Cond.not (.castable "java/lang/IndexOutOfBoundsException" "java/lang/IllegalArgumentException")) (by decide +kernel))
  · exact va_Nc.of (hs (Cond.not (.castable "java/lang/IndexOutOfBoundsException" "java/lang/ArithmeticException")) (by decide +kernel))
  · exact va_Nc.of (hs (Cond.not (.castable "java/lang/IndexOutOfBoundsException" "java/lang/IllegalStateException")) (by decide +kernel))
  · exact va_Nc.of (hs (Cond.not (.castable "java/lang/IllegalArgumentException" "java/lang/IndexOutOfBoundsException")) (by decide +kernel))
  · exact absurd rfl hne
  · exact va_Nc.of (hs (Cond.not (.castable "java/lang/IllegalArgumentException" "java/lang/ArithmeticException")) (by decide +kernel))
  · exact va_Nc.of (hs (Cond.not (.castable "java/lang/IllegalArgumentException" "java/lang/IllegalStateException")) (by decide +kernel))
  · exact va_Nc.of (hs (Cond.not (.castable "java/lang/ArithmeticException" "java/lang/IndexOutOfBoundsException")) (by decide +kernel))
  · exact va_Nc.of (hs (Cond.not (.castable "java/lang/ArithmeticException" "java/lang/IllegalArgumentException")) (by decide +kernel))
  · exact absurd rfl hne
  · exact va_Nc.of (hs (Cond.not (.castable "java/lang/ArithmeticException" "java/lang/IllegalStateException")) (by decide +kernel))
  · exact va_Nc.of (hs (Cond.not (.castable "java/lang/IllegalStateException" "java/lang/IndexOutOfBoundsException")) (by decide +kernel))
  · exact va_Nc.of (hs (Cond.not (.castable "java/lang/IllegalStateException" "java/lang/IllegalArgumentException")) (by decide +kernel))
  · exact va_Nc.of (hs (Cond.not (.castable "java/lang/IllegalStateException" "java/lang/ArithmeticException")) (by decide +kernel))
  · exact absurd rfl hne
set_option maxHeartbeats 4000000 in
set_option maxRecDepth 100000 in
theorem la_sa {s : State} {args : Array Value} (hts : ∀ w ∈ lw_tbl, w.before args s = true) (hs : ∀ w ∈ flatC (Jvm.Cond.and given_1 narrow_1), w.before args s = true) : ∃ sa : Nat → Nat, XK sa (lA s) s s.heap ∧ MK sa (lA s) s s.heap := by
  have hA : ∀ a : Nat, a < s.heap.size → ¬ lA s a := fun a h1 h2 => absurd h1 (Nat.not_lt.mpr h2)
  obtain ⟨q0, e0⟩ := la_ex (hs (Cond.exactly (.string "ClauseLedger" 307) "java/lang/String") (by decide +kernel))
  obtain ⟨q1, e1⟩ := la_ex (hs (Cond.exactly (.string "ClauseLedger" 314) "java/lang/String") (by decide +kernel))
  obtain ⟨q2, e2⟩ := la_ex (hs (Cond.exactly (.string "ClauseLedger" 319) "java/lang/String") (by decide +kernel))
  obtain ⟨q3, e3⟩ := la_ex (hs (Cond.exactly (.string "ClauseLedger" 324) "java/lang/String") (by decide +kernel))
  obtain ⟨adK, adV, hK, hE⟩ := vk_Sof (args := args) (s := s) (N := 1) (tm := fun _ => (.string "ClauseLedger$Writer" 55)) (len := [8]) (byt := [mkB]) (A := lA s)
    (fun i hi => by obtain rfl : i = 0 := (by omega); decide) (fun i hi => hs (Cond.exactly (.string "ClauseLedger$Writer" 55) "java/lang/String") (by decide +kernel)) (fun i hi => hs (Cond.eq (.field (.string "ClauseLedger$Writer" 55) "java/lang/String" "coder" "B") (.int 0)) (by decide +kernel)) (fun i hi => hs (Cond.arrayOf (.field (.string "ClauseLedger$Writer" 55) "java/lang/String" "value" "[B") .byte) (by decide +kernel)) (fun i hi => by obtain rfl : i = 0 := (by omega); exact hs (Cond.eq (.length (.field (.string "ClauseLedger$Writer" 55) "java/lang/String" "value" "[B")) (.int 8)) (by decide +kernel))
    (fun i hi j hj => by
      obtain rfl : i = 0 := by omega
      match j, hj with
      | 0, _ => exact hs (Cond.eq (.elem (.field (.string "ClauseLedger$Writer" 55) "java/lang/String" "value" "[B") (.int 0)) (.int 43)) (by decide +kernel)
      | 1, _ => exact hs (Cond.eq (.elem (.field (.string "ClauseLedger$Writer" 55) "java/lang/String" "value" "[B") (.int 1)) (.int 42)) (by decide +kernel)
      | 2, _ => exact hs (Cond.eq (.elem (.field (.string "ClauseLedger$Writer" 55) "java/lang/String" "value" "[B") (.int 2)) (.int 61)) (by decide +kernel)
      | 3, _ => exact hs (Cond.eq (.elem (.field (.string "ClauseLedger$Writer" 55) "java/lang/String" "value" "[B") (.int 3)) (.int 60)) (by decide +kernel)
      | 4, _ => exact hs (Cond.eq (.elem (.field (.string "ClauseLedger$Writer" 55) "java/lang/String" "value" "[B") (.int 4)) (.int 126)) (by decide +kernel)
      | 5, _ => exact hs (Cond.eq (.elem (.field (.string "ClauseLedger$Writer" 55) "java/lang/String" "value" "[B") (.int 5)) (.int 38)) (by decide +kernel)
      | 6, _ => exact hs (Cond.eq (.elem (.field (.string "ClauseLedger$Writer" 55) "java/lang/String" "value" "[B") (.int 6)) (.int 124)) (by decide +kernel)
      | 7, _ => exact hs (Cond.eq (.elem (.field (.string "ClauseLedger$Writer" 55) "java/lang/String" "value" "[B") (.int 7)) (.int 33)) (by decide +kernel)
      | j + 8, h9 => exact absurd h9 (by show ¬ j + 8 < 8; omega))
    (fun i j hi hj hne => absurd (by omega) hne) hA
  have eK := hE 0 (by omega)
  have eR := la_eqS (hs (Cond.eq (.string "ClauseLedger$Writer" 55) (.string "ClauseLedger$Reader" 89)) (by decide +kernel)) eK
  refine ⟨fun k => ([q0, q1, q2, q3, adK 0, adV 0] : List Nat).getD k 0, ⟨⟨vk_R.of (hts _ (nt_4 (i := 204) (w := Cond.stringRef "ClauseLedger" 307 "no such term, or no such step that stands") rfl)) e0, vk_R.of (hts _ (nt_4 (i := 105) (w := Cond.stringRef "ClauseLedger" 314 "not of the form that is asked for, or not granted") rfl)) e1, vk_R.of (hts _ (nt_4 (i := 148) (w := Cond.stringRef "ClauseLedger" 319 "a term too deep, or a sum too great") rfl)) e2, vk_R.of (hts _ (nt_4 (i := 172) (w := Cond.stringRef "ClauseLedger" 324 "no room") rfl)) e3⟩, la_TS (args := args) (fun w hw => ?_)⟩, ⟨fun i hi => ?_, fun i j hi hj _ => by omega⟩, ?_, ?_, ?_, ?_⟩
  · simp only [th4, List.mem_cons, List.not_mem_nil, or_false] at hw
    rcases hw with rfl | rfl | rfl | rfl
    · exact hts _ (nt_4 (i := 90) (w := Cond.laysStatic "java/lang/Throwable" "UNASSIGNED_STACK" "[Ljava/lang/StackTraceElement;") rfl)
    · exact hts _ (nt_4 (i := 92) (w := Cond.laysStatic "java/lang/Throwable" "SUPPRESSED_SENTINEL" "Ljava/util/List;") rfl)
    · exact hs (Cond.isRef (.static "java/lang/Throwable" "UNASSIGNED_STACK" "[Ljava/lang/StackTraceElement;")) (by decide +kernel)
    · exact hs (Cond.isRef (.static "java/lang/Throwable" "SUPPRESSED_SENTINEL" "Ljava/util/List;")) (by decide +kernel)
  · obtain rfl : i = 0 := by omega
    exact hK.1 0 (by omega)
  · exact va_Zof (hts _ (nt_3 (i := 11) (w := Cond.laysStatic "java/lang/String" "COMPACT_STRINGS" "Z") rfl)) (hts _ (nt_1 (i := 15) (w := Cond.initialized "java/lang/String") rfl)) (va_eqi (hs (Cond.eq (.static "java/lang/String" "COMPACT_STRINGS" "Z") (.int 1)) (by decide +kernel))) hA
  · exact vk_R.of (hts _ (nt_3 (i := 1) (w := Cond.stringRef "ClauseLedger$Writer" 55 "+*=<~&|!") rfl)) eK
  · exact vk_R.of (hts _ (nt_3 (i := 188) (w := Cond.stringRef "ClauseLedger$Reader" 89 "+*=<~&|!") rfl)) eR
  · exact va_Zqof (hts _ (nt_3 (i := 28) (w := Cond.laysStatic "jdk/internal/util/Preconditions" "SIOOBE_FORMATTER" "Ljava/util/function/BiFunction;") rfl)) (hts _ (nt_1 (i := 18) (w := Cond.initialized "jdk/internal/util/Preconditions") rfl)) (hs (Cond.isRef (.static "jdk/internal/util/Preconditions" "SIOOBE_FORMATTER" "Ljava/util/function/BiFunction;")) (by decide +kernel)) hA
abbrev aC (q : Nat) (u : Nat → Nat) : Nat → Nat := fun k => ([q, u 0, u 1, u 2, u 3, u 4, u 5, u 6, u 7, u 8, u 9, u 10, u 11, u 12, u 13, u 14, u 15, u 16, u 17, u 18, u 19, u 20, u 21, u 22, u 23, u 38, u 39, u 40, u 41, u 42, u 43, u 44, u 45, u 46, u 47, u 48, 0, 0, 0, 0, u 24, u 26, 0, 0, 0, u 30, 0, 0, 0, u 34] : List Nat).getD k 0
abbrev aM (q : Nat) (v : Nat → Nat) : Nat → Nat := fun k => ([q, v 0, v 1, v 2, v 3, v 4, v 5, v 6, v 7, v 8, v 9, v 10, v 11, v 12, v 13, v 14, v 15, v 16, v 17, v 18, v 19, v 20, v 21, v 22, v 23, v 24, v 25, v 26, v 27, v 28] : List Nat).getD k 0
/-- the balance's own cells behind the constructor -/
abbrev px0 (ty u : Nat → Nat) : va_W := [((u 24), .inl ((u 25), (100, .inr (.inr (.inr (.inr (fun _ => none))))))), ((u 26), .inr (8, [.ref (u 27), .ref (u 28), .ref (u 29), .int 0, .int 0])), ((u 27), .inl (ty 0, (0, .inl (fun _ => 0)))), ((u 28), .inl (ty 1, (0, .inr (.inl (fun _ => 0))))), ((u 29), .inl (ty 1, (0, .inr (.inl (fun _ => 0))))), ((u 30), .inr (8, [.ref (u 31), .ref (u 32), .ref (u 33), .int 0, .int 0])), ((u 31), .inl (ty 0, (101, .inl (fun _ => 0)))), ((u 32), .inl (ty 1, (101, .inr (.inl (fun _ => 0))))), ((u 33), .inl (ty 1, (101, .inr (.inl (fun _ => 0))))), ((u 34), .inr (8, [.ref (u 35), .ref (u 36), .ref (u 37), .int 0, .int 0])), ((u 35), .inl (ty 0, (101, .inl (fun _ => 0)))), ((u 36), .inl (ty 1, (101, .inr (.inl (fun _ => 0))))), ((u 37), .inl (ty 1, (101, .inr (.inl (fun _ => 0)))))]
set_option maxHeartbeats 8000000 in
set_option maxRecDepth 100000 in
theorem la_start {p : Program} {e : Env} {s : State} {m : MethodId} {below : List Frame} {meth : Method} {c : Code} (l : Launch) (hlt : l.stackTraces = false) {b L : Nat} {xs : Nat → Int32} (hL : L ≤ 3584) (C0 : lw_At p s m meth c b L xs) {β : Type} {PX : (Nat → Nat) → (Nat → Nat) → β → va_W} {cst sst : β → Nat} {B0 : β} (hPX : ∀ ty u, PX ty u B0 = px0 ty u) (hcs : cst B0 ≤ 1000) (hss : sst B0 ≤ 100000) {I : Nat → St → β → St → Prop} (S : S_all I) (h0 : I (L / 7) σ0 B0 τ0)
    (HL : ∀ (sa : Nat → Nat) (D : va_G) (ty u g : Nat → Nat) (q ho : Nat), lwC p s m #[Value.ref b] c b L xs D ty sa → va_K D classes (Ta ty ++ [(u 25, .object "ClauseLedger$Sum")]) s → H_linear (PX ty u) cst sst I p l e s m #[Value.ref b] below meth c (lw_Z below #[Value.ref b] s) b L ho D ty (aC q u) g) :
    W p l e room_1 s m #[Value.ref b] below meth c s.heap [] 0 0 (lw_Z below #[Value.ref b] s) (entryFrame m ([Value.ref b] : List Value).toArray 7) := by
  obtain ⟨hx, hb, hr, hml, hown, hts, hXs, hbl, hlocks, hgv⟩ := C0
  have hs := flat_of_before _ hgv
  have hg : ∀ w ∈ gw, w.before #[Value.ref b] s = true := fun w h9 => hts w (List.mem_filter.mp h9).1
  obtain ⟨D, ty, hK⟩ := la_known hg
  obtain ⟨sa, hXK, hM⟩ := la_sa hts hs
  have hNC := la_NC hs
  have hN : NW s := fun w hw => va_Nw.of (nws_on w hw) (hts w (nws_tbl w hw))
  have hAO : va_AO "ClauseLedger$Sum" s := va_AO.of (hts _ (nt_1 (i := 185) (w := Cond.arrayOver (.object "ClauseLedger$Sum")) rfl))
  have C : lwC p s m #[Value.ref b] c b L xs D ty sa := ⟨hx, hb, hml, hown, hg, hXs, hbl, hK, hN, hNC, hXK, hM⟩
  rw [lg_entry_eq]
  have hl := lv_entry ([Value.ref b]) (n := 7) (Nat.le_of_ble_eq_true rfl)
  generalize (lg_sl ([Value.ref b]) ++ List.replicate (7 - (lg_sl ([Value.ref b])).length) Slot.unset).toArray = ls at hl ⊢
  have hl : lv_has ls 7 [(0, .ref b)] := hl
  have hP : va_P D classes [] s.heap := fun k q hk => by cases hk
  have hD : va_D (lA s) [] := ⟨fun i j p q hp => (by cases hp), fun k q hk => by cases hk⟩
  have hS : va_S (lA s) s.heap s.heap [] := va_S.rf
  have hA := lA_in s
  refine va_new (ci := 0) (fs := [.null, .null, .null, .null, .null, .null, .null, .null, .null, .null, .int 0]) (C := R_CL) (T := T_CL) (N := 11) hx hb hg in_CL ty_CL ok_CL hown (hg _ m_29) (hg _ m_30) (hg _ m_1) hK hP hD hS hA rfl (fun j hj => by match j, hj with | 0, _ => rfl | 1, _ => rfl | 2, _ => rfl | 3, _ => rfl | 4, _ => rfl | 5, _ => rfl | 6, _ => rfl | 7, _ => rfl | 8, _ => rfl | 9, _ => rfl | 10, _ => rfl) (Nat.le_of_ble_eq_true rfl) (Nat.le_of_ble_eq_true rfl) d_La_law_0 (fun q H hP hD hS => ?_)
  have hP : va_P D classes [(q, .inr (0, [.null, .null, .null, .null, .null, .null, .null, .null, .null, .null, .int 0]))] H := hP
  have hD : va_D (lA s) [(q, .inr (0, [.null, .null, .null, .null, .null, .null, .null, .null, .null, .null, .int 0]))] := hD
  refine lv_dup hx hb d_La_law_3 rfl ?_
  have hF0 := zz_free hD hS hA
  refine va_callv (va_runI (As := []) (rest := [.ref q]) ⟨hx, hb, hml, hown, hg⟩ (c_CL_init l D ty q H.size) ⟨callB_of 0 hg (gw_C m_33) rfl rfl rfl (hg _ m_1) (hg _ m_31) hd_CL_init ⟨Nat.le_of_ble_eq_true rfl, Nat.le_of_ble_eq_true rfl⟩, rfl, hg _ m_32⟩ (zz_preCN hAO hN hK hP hD) rfl rfl hl.1 rfl (lv_room (Nat.le_of_ble_eq_true rfl)) d_La_law_4 ⟨(Nat.le_of_ble_eq_true rfl), (Nat.le_of_ble_eq_true rfl)⟩) hS (fun q _ h => zz_free hD hS hA q h) (zz_free hD hS hA) (fun u t H1 locs ht hvm _ hB hz hk1 hS => ?_)
  obtain ⟨hP1, hD1, hKA⟩ := hB
  rw [ht] at hP1
  have hKA := va_K.moved hvm.symm hKA
  have hP := hP1
  have hD : va_D (lA s) (at_CL_init ty q u) := hD1.weaken (fun _ _ _ h9 => hF0 _ h9)
  generalize H1 = H at hP hS ⊢
  refine lv_astore_n (lv' := [(1, .ref q), (0, .ref b)]) hx hb d_La_law_7 rfl hl (by decide) rfl (fun ls hl => ?_)
  refine va_new (ci := 12) (fs := [.int 0, .int 0, .int 0, .int 0, .null, .null, .null, .null, .int 0, .int 0, .null, .null, .null, .null, .null, .null, .null, .null, .null, .int 0, .null, .null, .null, .null, .int 0, .int 0, .null, .null, .int 0, .null, .int 0, .null, .int 0, .int 0, .int 0, .null, .null, .null, .null, .null, .null, .null, .null, .long 0, .long 0, .int 0, .int 0, .int 0, .int 0, .long 0, .long 0]) (C := R_Mo) (T := T_Mo) (N := 51) hx hb hg in_Mo ty_Mo ok_Mo hown (hg _ m_1253) (hg _ m_1254) (hg _ m_13) hK hP hD hS hA rfl (fun j hj => by match j, hj with | 0, _ => rfl | 1, _ => rfl | 2, _ => rfl | 3, _ => rfl | 4, _ => rfl | 5, _ => rfl | 6, _ => rfl | 7, _ => rfl | 8, _ => rfl | 9, _ => rfl | 10, _ => rfl | 11, _ => rfl | 12, _ => rfl | 13, _ => rfl | 14, _ => rfl | 15, _ => rfl | 16, _ => rfl | 17, _ => rfl | 18, _ => rfl | 19, _ => rfl | 20, _ => rfl | 21, _ => rfl | 22, _ => rfl | 23, _ => rfl | 24, _ => rfl | 25, _ => rfl | 26, _ => rfl | 27, _ => rfl | 28, _ => rfl | 29, _ => rfl | 30, _ => rfl | 31, _ => rfl | 32, _ => rfl | 33, _ => rfl | 34, _ => rfl | 35, _ => rfl | 36, _ => rfl | 37, _ => rfl | 38, _ => rfl | 39, _ => rfl | 40, _ => rfl | 41, _ => rfl | 42, _ => rfl | 43, _ => rfl | 44, _ => rfl | 45, _ => rfl | 46, _ => rfl | 47, _ => rfl | 48, _ => rfl | 49, _ => rfl | 50, _ => rfl | k + 51, h9 => exact absurd h9 (by omega)) (Nat.le_of_ble_eq_true rfl) (Nat.le_of_ble_eq_true rfl) d_La_law_8 (fun q1 H hP hD hS => ?_)
  refine lv_dup hx hb d_La_law_11 rfl ?_
  have hPc : va_P D classes [(q1, .inr (12, [.int 0, .int 0, .int 0, .int 0, .null, .null, .null, .null, .int 0, .int 0, .null, .null, .null, .null, .null, .null, .null, .null, .null, .int 0, .null, .null, .null, .null, .int 0, .int 0, .null, .null, .int 0, .null, .int 0, .null, .int 0, .int 0, .int 0, .null, .null, .null, .null, .null, .null, .null, .null, .long 0, .long 0, .int 0, .int 0, .int 0, .int 0, .long 0, .long 0]))] H := hP.sub [49] rfl
  have hDc : va_D (lA s) [(q1, .inr (12, [.int 0, .int 0, .int 0, .int 0, .null, .null, .null, .null, .int 0, .int 0, .null, .null, .null, .null, .null, .null, .null, .null, .null, .int 0, .null, .null, .null, .null, .int 0, .int 0, .null, .null, .int 0, .null, .int 0, .null, .int 0, .int 0, .int 0, .null, .null, .null, .null, .null, .null, .null, .null, .long 0, .long 0, .int 0, .int 0, .int 0, .int 0, .long 0, .long 0]))] := hD.sub [49] (by decide) rfl
  have hFc := va_free (wc := [(q1, .inr (12, [.int 0, .int 0, .int 0, .int 0, .null, .null, .null, .null, .int 0, .int 0, .null, .null, .null, .null, .null, .null, .null, .null, .null, .int 0, .null, .null, .null, .null, .int 0, .int 0, .null, .null, .int 0, .null, .int 0, .null, .int 0, .int 0, .int 0, .null, .null, .null, .null, .null, .null, .null, .null, .long 0, .long 0, .int 0, .int 0, .int 0, .int 0, .long 0, .long 0]))]) hD hS hA [49] rfl
  refine va_callv (va_runI (As := []) (rest := [.ref q1]) ⟨hx, hb, hml, hown, hg⟩ (c_Mo_init l D ty q1 H.size) ⟨callB_of 0 hg (gw_C m_1257) rfl rfl rfl (hg _ m_13) (hg _ m_1255) hd_Mo_init ⟨Nat.le_of_ble_eq_true rfl, Nat.le_of_ble_eq_true rfl⟩, rfl, hg _ m_1256⟩ (zz_preC hK hPc hDc) rfl rfl hl.1 rfl (lv_room (Nat.le_of_ble_eq_true rfl)) d_La_law_12 ⟨(Nat.le_of_ble_eq_true rfl), (Nat.le_of_ble_eq_true rfl)⟩) hS (fun q _ h => hFc q h) hFc (fun v t H1 locs ht hvm _ hB hz hk1 hS => ?_)
  obtain ⟨hP1, hD1⟩ := hB
  rw [ht] at hP1
  obtain ⟨hP, hD⟩ := va_join (wr := at_CL_init ty q u) (w1 := at_Mo_init ty q1 v) hP hD [49] [0, 1, 2, 3, 4, 5, 6, 7, 8, 9, 10, 11, 12, 13, 14, 15, 16, 17, 18, 19, 20, 21, 22, 23, 24, 25, 26, 27, 28, 29, 30, 31, 32, 33, 34, 35, 36, 37, 38, 39, 40, 41, 42, 43, 44, 45, 46, 47, 48] rfl rfl (by decide) (by decide) hk1 hFc hP1 hD1
  generalize H1 = H at hP hS ⊢
  refine lv_astore_n (lv' := [(2, .ref q1), (1, .ref q), (0, .ref b)]) hx hb d_La_law_15 rfl hl (by decide) rfl (fun ls hl => ?_)
  refine lv_iconst (v := 1) hx hb d_La_law_16 (by decide) ?_
  refine zz_newa (atype := .long) (ty := .long) (N' := 1) (a0 := (1, .inr (.inl (fun _ => 0)))) hx hb (hg _ m_112) rfl (fun _ h9 => h9) 1 rfl hK hP hD hS hA (fun cA => vp_cell_l cA _ _) (by decide +kernel) (by decide +kernel) (by show 1 * 8 ≤ 536870912; omega) (Nat.le_of_ble_eq_true rfl) (Nat.le_of_ble_eq_true rfl) d_La_law_17 (fun ho H hP hD hS => ?_)
  refine lv_astore_n (lv' := [(3, .ref ho), (2, .ref q1), (1, .ref q), (0, .ref b)]) hx hb d_La_law_19 rfl hl (by decide) rfl (fun ls hl => ?_)
  refine lv_iconst (v := nI 0) hx hb d_La_law_20 (by decide) ?_
  refine lv_istore (lv' := [(4, .int (nI 0)), (3, .ref ho), (2, .ref q1), (1, .ref q), (0, .ref b)]) hx hb d_La_law_21 hl (by decide) rfl (fun ls hl => ?_)
  have hP0 : va_P D classes (Wc ty (aC q u) σ0 ((ho, .inl (ty 1, 1, .inr (.inl (fun _ => 0)))) :: (px0 ty u ++ Wm ty (aM q1 v) (τ0) []))) H := hP.sub [0, 1, 2, 3, 4, 5, 6, 7, 8, 9, 10, 11, 12, 13, 14, 15, 16, 17, 18, 19, 20, 21, 22, 23, 24, 38, 39, 40, 41, 42, 43, 44, 45, 46, 47, 48, 79, 25, 26, 27, 28, 29, 30, 31, 32, 33, 34, 35, 36, 37, 49, 50, 51, 52, 53, 54, 55, 56, 57, 58, 59, 60, 61, 62, 63, 64, 65, 66, 67, 68, 69, 70, 71, 72, 73, 74, 75, 76, 77, 78] rfl
  have hD0 : va_D (lA s) (Wc ty (aC q u) σ0 ((ho, .inl (ty 1, 1, .inr (.inl (fun _ => 0)))) :: (px0 ty u ++ Wm ty (aM q1 v) (τ0) []))) := hD.sub [0, 1, 2, 3, 4, 5, 6, 7, 8, 9, 10, 11, 12, 13, 14, 15, 16, 17, 18, 19, 20, 21, 22, 23, 24, 38, 39, 40, 41, 42, 43, 44, 45, 46, 47, 48, 79, 25, 26, 27, 28, 29, 30, 31, 32, 33, 34, 35, 36, 37, 49, 50, 51, 52, 53, 54, 55, 56, 57, 58, 59, 60, 61, 62, 63, 64, 65, 66, 67, 68, 69, 70, 71, 72, 73, 74, 75, 76, 77, 78] (by decide) rfl
  rw [← hPX ty u] at hP0 hD0
  refine la_loop (h := (aC q u)) (g := (aM q1 v)) hlt C (by omega) S (HL sa D ty u (aM q1 v) q ho C hKA) (fun H locs ls cells slots hS h1 h2 => ?_) (L / 7) 0 σ0 B0 τ0 (fun _ => 0) H _ ls _ _ (by omega) (by omega) h0 ?_ ?_ (lv_sub hl [4, 3, 2, 1, 0] rfl) hP0 hD0 hS
  · refine lv_iconst (v := 1) hx hb d_La_law_1293 (by decide) ?_
    exact va_forget (fun q h9 => hS.2.2 q h9) (W.widen h1 h2 (lw_ret hx hb hr hlocks d_La_law_1294))
  · show _ + L / 7 + cst B0 ≤ 600002
    have : L / 7 ≤ 512 := by omega
    omega
  · show _ + 6 * (L / 7) + sst B0 ≤ 7302232
    have : L / 7 ≤ 512 := by omega
    omega
