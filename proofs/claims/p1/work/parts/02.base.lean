-- my own base: the good words of the tables, the state as functions, rows for calls
def gw : List Cond := lw_tbl.filter goodWord
theorem gw_tb {i : Nat} {w : Cond} (h : tables_1[i]? = some w) (hg : goodWord w = true) : w ∈ gw := List.mem_filter.mpr ⟨List.mem_append_right _ (List.mem_of_getElem? h), hg⟩
theorem gw_sel {i : Nat} {w : Cond} (h : (k2_sels lw_privs)[i]? = some w) (hg : goodWord w = true) : w ∈ gw := List.mem_filter.mpr ⟨List.mem_append_left _ (List.mem_of_getElem? h), hg⟩
theorem gw_good {w : Cond} (h : w ∈ gw) : (w.onTables && w.keeps) = true ∨ ∃ ty, w = .arrayClass ty := good_of_word (List.mem_filter.mp h).2
theorem gw_C {w : Cond} (h : w ∈ gw) : GoodIn gw (w :: gw) := fun x hx => by
  rcases List.mem_cons.mp hx with rfl | hx
  · exact ⟨h, gw_good h⟩
  · exact ⟨hx, gw_good hx⟩
abbrev St : Type := (Nat → Nat → Int32) × (Nat → Nat → Int64)
def pu {α : Type} (S : Nat → α) (k : Nat) (f : α) : Nat → α := fun a => bif Nat.beq a k then f else S a
def sF (σ : St) (k j : Nat) (v : Int32) : St := (pu σ.1 k (pu (σ.1 k) j v), σ.2)
def sG (σ : St) (k j : Nat) (v : Int64) : St := (σ.1, pu σ.2 k (pu (σ.2 k) j v))
def sA (σ : St) (k : Nat) (i : Int32) (v : Int32) : St := (pu σ.1 k (upd (σ.1 k) i.toNatClampNeg v), σ.2)
def sL (σ : St) (k : Nat) (i : Int32) (v : Int64) : St := (σ.1, pu σ.2 k (vp_updL (σ.2 k) i.toNatClampNeg v))
abbrev Ta (ty : Nat → ClassId) : List (ClassId × FieldType) := [(ty 0, .int), (ty 1, .long), (ty 2, .char), (ty 3, .boolean)]
/-- words of the tables that hold on, each by a row of its own -/
def nws : List Cond := [Cond.methodLinkNest "ClauseLedger$Reader" 121 ⟨"ClauseLedger", "gcd", "(JJ)J"⟩ "ClauseLedger", Cond.methodLinkNest "ClauseLedger$Sum" 34 ⟨"ClauseLedger", "gcd", "(JJ)J"⟩ "ClauseLedger", Cond.methodLinkNest "ClauseLedger" 9 ⟨"ClauseLedger$Signature", "<init>", "()V"⟩ "ClauseLedger", Cond.methodLinkNest "ClauseLedger" 18 ⟨"ClauseLedger$Terms", "<init>", "()V"⟩ "ClauseLedger", Cond.methodLinkNest "ClauseLedger" 25 ⟨"ClauseLedger$Draft", "<init>", "()V"⟩ "ClauseLedger", Cond.methodLinkNest "ClauseLedger" 64 ⟨"ClauseLedger$Row", "<init>", "()V"⟩ "ClauseLedger", Cond.methodLinkNest "ClauseLedger" 71 ⟨"ClauseLedger$Scopes", "<init>", "()V"⟩ "ClauseLedger", Cond.methodLinkNest "ClauseLedger" 78 ⟨"ClauseLedger$Steps", "<init>", "()V"⟩ "ClauseLedger", Cond.declares ⟨"java/lang/RuntimeException", "<init>", "(Ljava/lang/String;)V"⟩, Cond.declares ⟨"java/lang/Exception", "<init>", "(Ljava/lang/String;)V"⟩, Cond.declares ⟨"java/lang/Throwable", "<init>", "(Ljava/lang/String;)V"⟩, Cond.castable "java/lang/IllegalArgumentException" "java/lang/IllegalArgumentException", Cond.castable "java/lang/ArithmeticException" "java/lang/ArithmeticException", Cond.castable "java/lang/IllegalStateException" "java/lang/IllegalStateException", Cond.castable "java/lang/IndexOutOfBoundsException" "java/lang/IndexOutOfBoundsException"]
theorem nw_753 : (Cond.methodLinkNest "ClauseLedger$Reader" 121 ⟨"ClauseLedger", "gcd", "(JJ)J"⟩ "ClauseLedger") ∈ nws := List.mem_of_getElem? (i := 0) rfl
theorem nw_1124 : (Cond.methodLinkNest "ClauseLedger$Sum" 34 ⟨"ClauseLedger", "gcd", "(JJ)J"⟩ "ClauseLedger") ∈ nws := List.mem_of_getElem? (i := 1) rfl
theorem nw_39 : (Cond.methodLinkNest "ClauseLedger" 9 ⟨"ClauseLedger$Signature", "<init>", "()V"⟩ "ClauseLedger") ∈ nws := List.mem_of_getElem? (i := 2) rfl
theorem nw_65 : (Cond.methodLinkNest "ClauseLedger" 18 ⟨"ClauseLedger$Terms", "<init>", "()V"⟩ "ClauseLedger") ∈ nws := List.mem_of_getElem? (i := 3) rfl
theorem nw_115 : (Cond.methodLinkNest "ClauseLedger" 25 ⟨"ClauseLedger$Draft", "<init>", "()V"⟩ "ClauseLedger") ∈ nws := List.mem_of_getElem? (i := 4) rfl
theorem nw_228 : (Cond.methodLinkNest "ClauseLedger" 64 ⟨"ClauseLedger$Row", "<init>", "()V"⟩ "ClauseLedger") ∈ nws := List.mem_of_getElem? (i := 5) rfl
theorem nw_241 : (Cond.methodLinkNest "ClauseLedger" 71 ⟨"ClauseLedger$Scopes", "<init>", "()V"⟩ "ClauseLedger") ∈ nws := List.mem_of_getElem? (i := 6) rfl
theorem nw_264 : (Cond.methodLinkNest "ClauseLedger" 78 ⟨"ClauseLedger$Steps", "<init>", "()V"⟩ "ClauseLedger") ∈ nws := List.mem_of_getElem? (i := 7) rfl
theorem nw_787 : (Cond.declares ⟨"java/lang/RuntimeException", "<init>", "(Ljava/lang/String;)V"⟩) ∈ nws := List.mem_of_getElem? (i := 8) rfl
theorem nw_789 : (Cond.declares ⟨"java/lang/Exception", "<init>", "(Ljava/lang/String;)V"⟩) ∈ nws := List.mem_of_getElem? (i := 9) rfl
theorem nw_791 : (Cond.declares ⟨"java/lang/Throwable", "<init>", "(Ljava/lang/String;)V"⟩) ∈ nws := List.mem_of_getElem? (i := 10) rfl
theorem nw_785 : (Cond.castable "java/lang/IllegalArgumentException" "java/lang/IllegalArgumentException") ∈ nws := List.mem_of_getElem? (i := 11) rfl
theorem nw_861 : (Cond.castable "java/lang/ArithmeticException" "java/lang/ArithmeticException") ∈ nws := List.mem_of_getElem? (i := 12) rfl
theorem nw_885 : (Cond.castable "java/lang/IllegalStateException" "java/lang/IllegalStateException") ∈ nws := List.mem_of_getElem? (i := 13) rfl
theorem nw_917 : (Cond.castable "java/lang/IndexOutOfBoundsException" "java/lang/IndexOutOfBoundsException") ∈ nws := List.mem_of_getElem? (i := 14) rfl
def NW (U : State) : Prop := ∀ w ∈ nws, va_Nw w U
theorem nws_on : ∀ w ∈ nws, w.onTables = true := by
  intro w hw
  simp only [nws, List.mem_cons, List.not_mem_nil, or_false] at hw
  rcases hw with rfl | rfl | rfl | rfl | rfl | rfl | rfl | rfl | rfl | rfl | rfl | rfl | rfl | rfl | rfl <;> rfl
theorem NW.warm {s U : State} (hW : s.WarmedH U.vm) (h : NW s) : NW U := fun w hw => by
  have h1 := h w hw
  simp only [nws, List.mem_cons, List.not_mem_nil, or_false] at hw
  rcases hw with rfl | rfl | rfl | rfl | rfl | rfl | rfl | rfl | rfl | rfl | rfl | rfl | rfl | rfl | rfl <;> first | exact va_Nw.warmM hW h1 | exact va_Nw.warmD hW h1 | exact va_Nw.warmC hW h1
theorem NW.same {u U : State} (e : u.vm = U.vm) (h : NW u) : NW U := fun w hw => va_Nw.same (nws_on w hw) e (h w hw)
theorem NW.use {U : State} (h : NW U) {w : Cond} (hw : w ∈ nws) {a : Array Value} : w.before a U = true := va_Nw.use (nws_on w hw) (h w hw)
/-- the text of the marks, read only: a String constant of two classes, its bytes, and the static that says how texts are kept -/
def mkB : List Int32 := [43, 42, 61, 60, 126, 38, 124, 33]
def MK (sa : Nat → Nat) (A : Nat → Prop) (U : State) (H : Heap) : Prop := vk_S 1 [8] [mkB] (fun _ => sa 4) (fun _ => sa 5) A U H ∧ va_Z "java/lang/String" "COMPACT_STRINGS" "Z" (.int 1) A U H ∧ vk_R "ClauseLedger$Writer" 55 "+*=<~&|!" (sa 4) U ∧ vk_R "ClauseLedger$Reader" 89 "+*=<~&|!" (sa 4) U ∧ va_Zq "jdk/internal/util/Preconditions" "SIOOBE_FORMATTER" "Ljava/util/function/BiFunction;" A U H
theorem MK.same {sa : Nat → Nat} {A : Nat → Prop} {u U : State} {H : Heap} (e : U.vm = u.vm) (h : MK sa A u H) : MK sa A U H := ⟨h.1.moved (by rw [e]; exact Vm.Alike.refl _), h.2.1.moved (by rw [e]; exact Vm.Alike.refl _), h.2.2.1.same e, h.2.2.2.1.same e, h.2.2.2.2.moved (by rw [e]; exact Vm.Alike.refl _)⟩
theorem MK.go {sa : Nat → Nat} {A B : Nat → Prop} {s U : State} {H H1 : Heap} (h : MK sa A s H) (hW : s.WarmedH U.vm) (hk : ∀ a : Nat, a < H.size → ¬ A a → H1[a]? = H[a]?) (hB : ∀ q, B q → A q) : MK sa B U H1 := ⟨((h.1.kept hk).narrow hB).moved hW.alike, ((h.2.1.kept hk).narrow hB).moved hW.alike, h.2.2.1.warm hW, h.2.2.2.1.warm hW, ((h.2.2.2.2.kept hk).narrow hB).moved hW.alike⟩
theorem MK.at {sa : Nat → Nat} {A : Nat → Prop} {s : State} {H : Heap} {locs : List Loc} (h : MK sa A s s.heap) (hS : va_S A s.heap H locs) : MK sa (fun _ => False) s H := h.go (State.WarmedH.refl s) hS.2.1 (fun _ h9 => h9.elim)
theorem Met.ofWF {l : Launch} {y : MethodName} {ws ws' : List Cond} {rm : Room} {Pc : Array Value → State → Prop} {Qc : Array Value → State → Outcome → State → Prop} {mc ms : Nat} {free : Addr → Prop} {cc : ByteArray} {maxL : Nat} {ret : Option FieldType}
    (hy : plainFor y = true) (hw : ws = Cond.code y cc maxL ret :: ws')
    (body : ∀ p e s m args below meth c s₁, BodyLoose p l y (headSpec ws rm) cc maxL ret e s m args below meth c s₁ → c.maxLocals = maxL → Pc args s →
      W p l e (headSpec ws rm).room s m args below meth c s.heap [] 0 0 (MQ below Qc args s mc ms free) (entryFrame m args maxL)) : Met l y ws rm Pc Qc mc ms free := by
  refine MetFree.of_bodySF (code := cc) (maxLocals := maxL) (ret := ret) hy ?_ ?_
  · intro args s m h hn
    obtain ⟨meth, c, h1, h2, h3, h4, h5, h6, -, -⟩ := Cond.code_spec hn (atoms_spec (ws := ws) h _ (by rw [hw]; exact List.mem_cons_self))
    exact ⟨meth, c, h1, h2, h3, h4, h5, h6⟩
  · intro p e s m args below meth c s₁ B hml hP _
    have hh0 : s₁.heap = s.heap := by rw [B.state]; rfl
    obtain ⟨t, a1, o, b1, b2, b3⟩ := body p e s m args below meth c s₁ B hml hP s₁ hh0 (Stand.of_body B)
    exact ⟨t, o, a1, b1, b2, ⟨b3.1, b3.2⟩⟩
theorem zz_D {A : Nat → Prop} {ws ws' : va_W} (h : va_D A ws) (e : ws'.map Prod.fst = ws.map Prod.fst) : va_D A ws' := by
  have key : ∀ (k : Nat) (q : Nat × va_E), ws'[k]? = some q → ∃ q2, ws[k]? = some q2 ∧ q2.1 = q.1 := by
    intro k q hq
    have h1 : (ws'.map Prod.fst)[k]? = some q.1 := by rw [List.getElem?_map, hq]; rfl
    rw [e, List.getElem?_map] at h1
    cases h2 : ws[k]? with
    | none => rw [h2] at h1; cases h1
    | some q2 => rw [h2] at h1; exact ⟨q2, rfl, Option.some.inj h1⟩
  refine ⟨fun i j p q hp hq e2 => ?_, fun k q hk => ?_⟩
  · obtain ⟨p2, hp2, e3⟩ := key i p hp
    obtain ⟨q2, hq2, e4⟩ := key j q hq
    exact h.1 i j p2 q2 hp2 hq2 (by rw [e3, e4, e2])
  · obtain ⟨q2, hq2, e3⟩ := key k q hk
    rw [← e3]; exact h.2 k q2 hq2
theorem zz_free {A0 : Nat → Prop} {ws : va_W} {H0 H : Heap} {locs : List Loc} (hD : va_D A0 ws) (hS : va_S A0 H0 H locs) (hA : ∀ q, H0.size ≤ q → A0 q) : ∀ q, va_A ws H.size q → A0 q := by
  intro q h
  rcases h with ⟨k, e, h⟩ | h
  · exact hD.2 k _ h
  · exact hA q (Nat.le_trans hS.1 h)
section ZZ
variable {p : Program} {l : Launch} {e : Env} {R : Room} {s : State} {m : MethodId} {args : Array Value} {below : List Frame} {meth : Method} {c : Code} {H : Heap} {locs : List Loc} {cells slots : Nat} {Q : State → Prop}
variable {D : va_G} {cl : List vw_C} {tys : List (ClassId × FieldType)} {ws : va_W} {A0 : Nat → Prop} {pc : Nat} {ls : Array Slot} {st0 rest : List Value} {a : Array Value}
theorem zz_callV {r : Value} (hr : va_Run p l e R s m args below meth c H locs cells slots 0 0 (F0 m pc ls st0) rest (k2_QcV r a) (fun _ => False)) (kk : W p l e R s m args below meth c H locs cells slots Q (F0 m (pc + 3) ls (r :: rest))) : W p l e R s m args below meth c H locs cells slots Q (F0 m pc ls st0) := by
  intro T hT X
  obtain ⟨v, st₀, t, T', L, h0, X', hL, e1, e2, ⟨hv, hh⟩, st⟩ := hr T hT X
  cases hv
  obtain ⟨t2, a1, b1⟩ := kk T' (by rw [e1, hh, h0]) (Stand.forget X' (fun q h => (hL q h).elim))
  exact ⟨t2, st t2 a1, b1⟩
theorem zz_callN (hr : va_Run p l e R s m args below meth c H locs cells slots 0 0 (F0 m pc ls st0) rest (fun st o t => o = .returned none ∧ t.heap = st.heap) (fun _ => False)) (kk : W p l e R s m args below meth c H locs cells slots Q (F0 m (pc + 3) ls rest)) : W p l e R s m args below meth c H locs cells slots Q (F0 m pc ls st0) := by
  intro T hT X
  obtain ⟨v, st₀, t, T', L, h0, X', hL, e1, e2, ⟨hv, hh⟩, st⟩ := hr T hT X
  cases hv
  obtain ⟨t2, a1, b1⟩ := kk T' (by rw [e1, hh, h0]) (Stand.forget X' (fun q h => (hL q h).elim))
  exact ⟨t2, st t2 a1, b1⟩
theorem zz_blR {sa : Nat → Nat} {As : List Value} : FrameBlind (va_Pc As (fun U => va_P D cl ws U.heap ∧ va_K D cl tys U ∧ NW U ∧ MK sa (fun _ => False) U U.heap)) :=
  fun a U g mk h => ⟨h.1, h.2.1, va_K.moved (u := U) (U := U.calling g mk a) (Vm.Alike.refl U.vm) h.2.2.1, NW.same (u := U) rfl h.2.2.2.1, MK.same (u := U) rfl h.2.2.2.2⟩
theorem zz_preR {sa : Nat → Nat} (hM : MK sa (fun _ => False) s H) (hN : NW s) (hK : va_K D cl tys s) (hP : va_P D cl ws H) {As : List Value} : ∀ U : State, U.heap = H → s.WarmedH U.vm → va_Pc As (fun U => va_P D cl ws U.heap ∧ va_K D cl tys U ∧ NW U ∧ MK sa (fun _ => False) U U.heap) As.toArray U :=
  fun U hU hW => ⟨rfl, by rw [hU]; exact hP, va_K.moved hW.alike hK, NW.warm hW hN, by rw [hU]; exact hM.go hW (fun _ _ _ => rfl) (fun _ h => h)⟩
theorem zz_preV {sa : Nat → Nat} (hM : MK sa (fun _ => False) s H) (hN : NW s) (hK : va_K D cl tys s) (hP : va_P D cl ws H) (q0 : Nat) {b ci : Nat} {fs : List Value} {q : vw_C} (he : ws[q0]? = some (b, .inr (ci, fs))) (hc : cl[ci]? = some q) {As : List Value} : PreV s H q.1 b (va_Pc (.ref b :: As) (fun U => va_P D cl ws U.heap ∧ va_K D cl tys U ∧ NW U ∧ MK sa (fun _ => False) U U.heap)) As :=
  ⟨zz_blR, va_recv hK hP hc he, zz_preR hM hN hK hP⟩
theorem zz_preT {sa : Nat → Nat} (hM : MK sa (fun _ => False) s H) (hN : NW s) (hK : va_K D cl tys s) (hP : va_P D cl ws H) {As : List Value} : PreV s H "java/lang/String" (sa 4) (va_Pc (.ref (sa 4) :: As) (fun U => va_P D cl ws U.heap ∧ va_K D cl tys U ∧ NW U ∧ MK sa (fun _ => False) U U.heap)) As :=
  ⟨zz_blR, by obtain ⟨cell, h1, h2, h3, -⟩ := (hM.1.1 0 (by decide)).1; exact ⟨cell, h1, h2, h3⟩, zz_preR hM hN hK hP⟩
theorem zz_preS {sa : Nat → Nat} (hM : MK sa (fun _ => False) s H) (hN : NW s) (hK : va_K D cl tys s) (hP : va_P D cl ws H) {As : List Value} : PreS s H (va_Pc As (fun U => va_P D cl ws U.heap ∧ va_K D cl tys U ∧ NW U ∧ MK sa (fun _ => False) U U.heap)) As :=
  ⟨zz_blR, zz_preR hM hN hK hP⟩
theorem zz_blW {sa : Nat → Nat} {As : List Value} {sz : Nat} {A1 : Nat → Prop} : FrameBlind (va_Pc As (fun U => U.heap.size = sz ∧ va_P D cl ws U.heap ∧ va_K D cl tys U ∧ NW U ∧ MK sa A1 U U.heap ∧ va_D (fun _ => True) ws)) :=
  fun a U g mk h => ⟨h.1, h.2.1, h.2.2.1, va_K.moved (u := U) (U := U.calling g mk a) (Vm.Alike.refl U.vm) h.2.2.2.1, NW.same (u := U) rfl h.2.2.2.2.1, MK.same (u := U) rfl h.2.2.2.2.2.1, h.2.2.2.2.2.2⟩
theorem zz_preWA {sa : Nat → Nat} {A : Nat → Prop} (hM : MK sa A s s.heap) (hS : va_S A s.heap H locs) (hA : ∀ q, s.heap.size ≤ q → A q) (hN : NW s) (hK : va_K D cl tys s) (hP : va_P D cl ws H) (hD : va_D A ws) {As : List Value} : ∀ U : State, U.heap = H → s.WarmedH U.vm → va_Pc As (fun U => U.heap.size = H.size ∧ va_P D cl ws U.heap ∧ va_K D cl tys U ∧ NW U ∧ MK sa (va_A ws H.size) U U.heap ∧ va_D (fun _ => True) ws) As.toArray U :=
  fun U hU hW => ⟨rfl, by rw [hU], by rw [hU]; exact hP, va_K.moved hW.alike hK, NW.warm hW hN, by rw [hU]; exact hM.go hW hS.2.1 (zz_free hD hS hA), hD.weaken (fun _ _ _ _ => trivial)⟩
theorem zz_preVW {sa : Nat → Nat} {A : Nat → Prop} (hM : MK sa A s s.heap) (hS : va_S A s.heap H locs) (hA : ∀ q, s.heap.size ≤ q → A q) (hN : NW s) (hK : va_K D cl tys s) (hP : va_P D cl ws H) (hD : va_D A ws) (q0 : Nat) {b ci : Nat} {fs : List Value} {q : vw_C} (he : ws[q0]? = some (b, .inr (ci, fs))) (hc : cl[ci]? = some q) {As : List Value} : PreV s H q.1 b (va_Pc (.ref b :: As) (fun U => U.heap.size = H.size ∧ va_P D cl ws U.heap ∧ va_K D cl tys U ∧ NW U ∧ MK sa (va_A ws H.size) U U.heap ∧ va_D (fun _ => True) ws)) As :=
  ⟨zz_blW, va_recv hK hP hc he, zz_preWA hM hS hA hN hK hP hD⟩
theorem zz_preSW {sa : Nat → Nat} {A : Nat → Prop} (hM : MK sa A s s.heap) (hS : va_S A s.heap H locs) (hA : ∀ q, s.heap.size ≤ q → A q) (hN : NW s) (hK : va_K D cl tys s) (hP : va_P D cl ws H) (hD : va_D A ws) {As : List Value} : PreS s H (va_Pc As (fun U => U.heap.size = H.size ∧ va_P D cl ws U.heap ∧ va_K D cl tys U ∧ NW U ∧ MK sa (va_A ws H.size) U U.heap ∧ va_D (fun _ => True) ws)) As :=
  ⟨zz_blW, zz_preWA hM hS hA hN hK hP hD⟩
end ZZ
abbrev R_CL : String := "ClauseLedger"
def T_CL : u_T := fun k => match k with
  | 0 => ("ClauseLedger", "signature", "LClauseLedger$Signature;", true)
  | 1 => ("ClauseLedger", "terms", "LClauseLedger$Terms;", true)
  | 2 => ("ClauseLedger", "draft", "LClauseLedger$Draft;", true)
  | 3 => ("ClauseLedger", "reader", "LClauseLedger$Reader;", true)
  | 4 => ("ClauseLedger", "writer", "LClauseLedger$Writer;", true)
  | 5 => ("ClauseLedger", "putting", "LClauseLedger$Putting;", true)
  | 6 => ("ClauseLedger", "balance", "LClauseLedger$Balance;", true)
  | 7 => ("ClauseLedger", "row", "LClauseLedger$Row;", true)
  | 8 => ("ClauseLedger", "scopes", "LClauseLedger$Scopes;", true)
  | 9 => ("ClauseLedger", "steps", "LClauseLedger$Steps;", true)
  | _ => ("ClauseLedger", "thrown", "I", false)
def ty_CL : Nat → FieldType := fun k => match k with
  | 0 => .object "ClauseLedger$Signature"
  | 1 => .object "ClauseLedger$Terms"
  | 2 => .object "ClauseLedger$Draft"
  | 3 => .object "ClauseLedger$Reader"
  | 4 => .object "ClauseLedger$Writer"
  | 5 => .object "ClauseLedger$Putting"
  | 6 => .object "ClauseLedger$Balance"
  | 7 => .object "ClauseLedger$Row"
  | 8 => .object "ClauseLedger$Scopes"
  | 9 => .object "ClauseLedger$Steps"
  | _ => .int
theorem nm_CL : ∀ a, a < 11 → ∀ b, b < 11 → a ≠ b → (T_CL a).2.1 ≠ (T_CL b).2.1 := by decide +kernel
theorem ok_CL : ∀ k, k < 11 → parseFieldDescriptor (T_CL k).2.2.1 = some (ty_CL k) := by decide +kernel
abbrev R_Sg : String := "ClauseLedger$Signature"
def T_Sg : u_T := fun k => match k with
  | 0 => ("ClauseLedger$Signature", "sorts", "[I", true)
  | 1 => ("ClauseLedger$Signature", "firsts", "[I", true)
  | 2 => ("ClauseLedger$Signature", "seconds", "[I", true)
  | 3 => ("ClauseLedger$Signature", "variables", "[I", true)
  | 4 => ("ClauseLedger$Signature", "sortCount", "I", false)
  | _ => ("ClauseLedger$Signature", "symbolCount", "I", false)
def ty_Sg : Nat → FieldType := fun k => match k with
  | 0 => .array .int
  | 1 => .array .int
  | 2 => .array .int
  | 3 => .array .int
  | 4 => .int
  | _ => .int
theorem nm_Sg : ∀ a, a < 6 → ∀ b, b < 6 → a ≠ b → (T_Sg a).2.1 ≠ (T_Sg b).2.1 := by decide +kernel
theorem ok_Sg : ∀ k, k < 6 → parseFieldDescriptor (T_Sg k).2.2.1 = some (ty_Sg k) := by decide +kernel
abbrev R_Te : String := "ClauseLedger$Terms"
def T_Te : u_T := fun k => match k with
  | 0 => ("ClauseLedger$Terms", "kinds", "[I", true)
  | 1 => ("ClauseLedger$Terms", "sorts", "[I", true)
  | 2 => ("ClauseLedger$Terms", "names", "[I", true)
  | 3 => ("ClauseLedger$Terms", "firsts", "[I", true)
  | 4 => ("ClauseLedger$Terms", "seconds", "[I", true)
  | 5 => ("ClauseLedger$Terms", "tops", "[I", true)
  | 6 => ("ClauseLedger$Terms", "bottoms", "[I", true)
  | 7 => ("ClauseLedger$Terms", "depths", "[I", true)
  | 8 => ("ClauseLedger$Terms", "lengths", "[I", true)
  | 9 => ("ClauseLedger$Terms", "frees", "[I", true)
  | 10 => ("ClauseLedger$Terms", "keys", "[J", true)
  | 11 => ("ClauseLedger$Terms", "count", "I", false)
  | 12 => ("ClauseLedger$Terms", "kept", "I", false)
  | _ => ("ClauseLedger$Terms", "deep", "Z", false)
def ty_Te : Nat → FieldType := fun k => match k with
  | 0 => .array .int
  | 1 => .array .int
  | 2 => .array .int
  | 3 => .array .int
  | 4 => .array .int
  | 5 => .array .int
  | 6 => .array .int
  | 7 => .array .int
  | 8 => .array .int
  | 9 => .array .int
  | 10 => .array .long
  | 11 => .int
  | 12 => .int
  | _ => .boolean
theorem nm_Te : ∀ a, a < 14 → ∀ b, b < 14 → a ≠ b → (T_Te a).2.1 ≠ (T_Te b).2.1 := by decide +kernel
theorem ok_Te : ∀ k, k < 14 → parseFieldDescriptor (T_Te k).2.2.1 = some (ty_Te k) := by decide +kernel
abbrev R_Dr : String := "ClauseLedger$Draft"
def T_Dr : u_T := fun k => match k with
  | 0 => ("ClauseLedger$Draft", "letters", "[C", true)
  | _ => ("ClauseLedger$Draft", "size", "I", false)
def ty_Dr : Nat → FieldType := fun k => match k with
  | 0 => .array .char
  | _ => .int
theorem nm_Dr : ∀ a, a < 2 → ∀ b, b < 2 → a ≠ b → (T_Dr a).2.1 ≠ (T_Dr b).2.1 := by decide +kernel
theorem ok_Dr : ∀ k, k < 2 → parseFieldDescriptor (T_Dr k).2.2.1 = some (ty_Dr k) := by decide +kernel
abbrev R_Rd : String := "ClauseLedger$Reader"
def T_Rd : u_T := fun k => match k with
  | 0 => ("ClauseLedger$Reader", "draft", "LClauseLedger$Draft;", true)
  | 1 => ("ClauseLedger$Reader", "signature", "LClauseLedger$Signature;", true)
  | 2 => ("ClauseLedger$Reader", "terms", "LClauseLedger$Terms;", true)
  | _ => ("ClauseLedger$Reader", "position", "I", false)
def ty_Rd : Nat → FieldType := fun k => match k with
  | 0 => .object "ClauseLedger$Draft"
  | 1 => .object "ClauseLedger$Signature"
  | 2 => .object "ClauseLedger$Terms"
  | _ => .int
theorem nm_Rd : ∀ a, a < 4 → ∀ b, b < 4 → a ≠ b → (T_Rd a).2.1 ≠ (T_Rd b).2.1 := by decide +kernel
theorem ok_Rd : ∀ k, k < 4 → parseFieldDescriptor (T_Rd k).2.2.1 = some (ty_Rd k) := by decide +kernel
abbrev R_Wr : String := "ClauseLedger$Writer"
def T_Wr : u_T := fun k => match k with
  | _ => ("ClauseLedger$Writer", "terms", "LClauseLedger$Terms;", true)
def ty_Wr : Nat → FieldType := fun k => match k with
  | _ => .object "ClauseLedger$Terms"
theorem nm_Wr : ∀ a, a < 1 → ∀ b, b < 1 → a ≠ b → (T_Wr a).2.1 ≠ (T_Wr b).2.1 := by decide +kernel
theorem ok_Wr : ∀ k, k < 1 → parseFieldDescriptor (T_Wr k).2.2.1 = some (ty_Wr k) := by decide +kernel
abbrev R_Pu : String := "ClauseLedger$Putting"
def T_Pu : u_T := fun k => match k with
  | 0 => ("ClauseLedger$Putting", "terms", "LClauseLedger$Terms;", true)
  | 1 => ("ClauseLedger$Putting", "results", "[I", true)
  | 2 => ("ClauseLedger$Putting", "variable", "I", false)
  | 3 => ("ClauseLedger$Putting", "value", "I", false)
  | _ => ("ClauseLedger$Putting", "failed", "Z", false)
def ty_Pu : Nat → FieldType := fun k => match k with
  | 0 => .object "ClauseLedger$Terms"
  | 1 => .array .int
  | 2 => .int
  | 3 => .int
  | _ => .boolean
theorem nm_Pu : ∀ a, a < 5 → ∀ b, b < 5 → a ≠ b → (T_Pu a).2.1 ≠ (T_Pu b).2.1 := by decide +kernel
theorem ok_Pu : ∀ k, k < 5 → parseFieldDescriptor (T_Pu k).2.2.1 = some (ty_Pu k) := by decide +kernel
abbrev R_Ba : String := "ClauseLedger$Balance"
def T_Ba : u_T := fun k => match k with
  | 0 => ("ClauseLedger$Balance", "terms", "LClauseLedger$Terms;", true)
  | 1 => ("ClauseLedger$Balance", "sums", "[LClauseLedger$Sum;", true)
  | 2 => ("ClauseLedger$Balance", "nothing", "LClauseLedger$Sum;", true)
  | 3 => ("ClauseLedger$Balance", "excess", "LClauseLedger$Sum;", true)
  | 4 => ("ClauseLedger$Balance", "total", "LClauseLedger$Sum;", true)
  | _ => ("ClauseLedger$Balance", "strict", "Z", false)
def ty_Ba : Nat → FieldType := fun k => match k with
  | 0 => .object "ClauseLedger$Terms"
  | 1 => .array (.object "ClauseLedger$Sum")
  | 2 => .object "ClauseLedger$Sum"
  | 3 => .object "ClauseLedger$Sum"
  | 4 => .object "ClauseLedger$Sum"
  | _ => .boolean
theorem nm_Ba : ∀ a, a < 6 → ∀ b, b < 6 → a ≠ b → (T_Ba a).2.1 ≠ (T_Ba b).2.1 := by decide +kernel
theorem ok_Ba : ∀ k, k < 6 → parseFieldDescriptor (T_Ba k).2.2.1 = some (ty_Ba k) := by decide +kernel
abbrev R_Su : String := "ClauseLedger$Sum"
def T_Su : u_T := fun k => match k with
  | 0 => ("ClauseLedger$Sum", "atoms", "[I", true)
  | 1 => ("ClauseLedger$Sum", "tops", "[J", true)
  | 2 => ("ClauseLedger$Sum", "bottoms", "[J", true)
  | 3 => ("ClauseLedger$Sum", "size", "I", false)
  | _ => ("ClauseLedger$Sum", "tooGreat", "Z", false)
def ty_Su : Nat → FieldType := fun k => match k with
  | 0 => .array .int
  | 1 => .array .long
  | 2 => .array .long
  | 3 => .int
  | _ => .boolean
theorem nm_Su : ∀ a, a < 5 → ∀ b, b < 5 → a ≠ b → (T_Su a).2.1 ≠ (T_Su b).2.1 := by decide +kernel
theorem ok_Su : ∀ k, k < 5 → parseFieldDescriptor (T_Su k).2.2.1 = some (ty_Su k) := by decide +kernel
abbrev R_Ro : String := "ClauseLedger$Row"
def T_Ro : u_T := fun k => match k with
  | 0 => ("ClauseLedger$Row", "truths", "[I", true)
  | _ => ("ClauseLedger$Row", "size", "I", false)
def ty_Ro : Nat → FieldType := fun k => match k with
  | 0 => .array .int
  | _ => .int
theorem nm_Ro : ∀ a, a < 2 → ∀ b, b < 2 → a ≠ b → (T_Ro a).2.1 ≠ (T_Ro b).2.1 := by decide +kernel
theorem ok_Ro : ∀ k, k < 2 → parseFieldDescriptor (T_Ro k).2.2.1 = some (ty_Ro k) := by decide +kernel
abbrev R_Sc : String := "ClauseLedger$Scopes"
def T_Sc : u_T := fun k => match k with
  | 0 => ("ClauseLedger$Scopes", "arounds", "[I", true)
  | 1 => ("ClauseLedger$Scopes", "depths", "[I", true)
  | 2 => ("ClauseLedger$Scopes", "closed", "[Z", true)
  | 3 => ("ClauseLedger$Scopes", "count", "I", false)
  | _ => ("ClauseLedger$Scopes", "innermost", "I", false)
def ty_Sc : Nat → FieldType := fun k => match k with
  | 0 => .array .int
  | 1 => .array .int
  | 2 => .array .boolean
  | 3 => .int
  | _ => .int
theorem nm_Sc : ∀ a, a < 5 → ∀ b, b < 5 → a ≠ b → (T_Sc a).2.1 ≠ (T_Sc b).2.1 := by decide +kernel
theorem ok_Sc : ∀ k, k < 5 → parseFieldDescriptor (T_Sc k).2.2.1 = some (ty_Sc k) := by decide +kernel
abbrev R_St : String := "ClauseLedger$Steps"
def T_St : u_T := fun k => match k with
  | 0 => ("ClauseLedger$Steps", "truths", "[I", true)
  | 1 => ("ClauseLedger$Steps", "sizes", "[I", true)
  | 2 => ("ClauseLedger$Steps", "scopes", "[I", true)
  | 3 => ("ClauseLedger$Steps", "assumed", "[Z", true)
  | _ => ("ClauseLedger$Steps", "count", "I", false)
def ty_St : Nat → FieldType := fun k => match k with
  | 0 => .array .int
  | 1 => .array .int
  | 2 => .array .int
  | 3 => .array .boolean
  | _ => .int
theorem nm_St : ∀ a, a < 5 → ∀ b, b < 5 → a ≠ b → (T_St a).2.1 ≠ (T_St b).2.1 := by decide +kernel
theorem ok_St : ∀ k, k < 5 → parseFieldDescriptor (T_St k).2.2.1 = some (ty_St k) := by decide +kernel
abbrev R_Mo : String := "ClauseLedgerModel"
def T_Mo : u_T := fun k => match k with
  | 0 => ("ClauseLedgerModel", "code", "I", false)
  | 1 => ("ClauseLedgerModel", "failures", "I", false)
  | 2 => ("ClauseLedgerModel", "sorts", "I", false)
  | 3 => ("ClauseLedgerModel", "symbols", "I", false)
  | 4 => ("ClauseLedgerModel", "symbolSort", "[I", true)
  | 5 => ("ClauseLedgerModel", "first", "[I", true)
  | 6 => ("ClauseLedgerModel", "second", "[I", true)
  | 7 => ("ClauseLedgerModel", "variableSort", "[I", true)
  | 8 => ("ClauseLedgerModel", "terms", "I", false)
  | 9 => ("ClauseLedgerModel", "kept", "I", false)
  | 10 => ("ClauseLedgerModel", "kind", "[I", true)
  | 11 => ("ClauseLedgerModel", "sort", "[I", true)
  | 12 => ("ClauseLedgerModel", "depth", "[I", true)
  | 13 => ("ClauseLedgerModel", "one", "[I", true)
  | 14 => ("ClauseLedgerModel", "two", "[I", true)
  | 15 => ("ClauseLedgerModel", "letter", "[I", true)
  | 16 => ("ClauseLedgerModel", "top", "[I", true)
  | 17 => ("ClauseLedgerModel", "below", "[I", true)
  | 18 => ("ClauseLedgerModel", "free", "[I", true)
  | 19 => ("ClauseLedgerModel", "steps", "I", false)
  | 20 => ("ClauseLedgerModel", "many", "[I", true)
  | 21 => ("ClauseLedgerModel", "truths", "[I", true)
  | 22 => ("ClauseLedgerModel", "scopeOf", "[I", true)
  | 23 => ("ClauseLedgerModel", "assumed", "[Z", true)
  | 24 => ("ClauseLedgerModel", "scopes", "I", false)
  | 25 => ("ClauseLedgerModel", "inner", "I", false)
  | 26 => ("ClauseLedgerModel", "around", "[I", true)
  | 27 => ("ClauseLedgerModel", "closed", "[Z", true)
  | 28 => ("ClauseLedgerModel", "rowSize", "I", false)
  | 29 => ("ClauseLedgerModel", "row", "[I", true)
  | 30 => ("ClauseLedgerModel", "drafted", "I", false)
  | 31 => ("ClauseLedgerModel", "draft", "[I", true)
  | 32 => ("ClauseLedgerModel", "at", "I", false)
  | 33 => ("ClauseLedgerModel", "bad", "Z", false)
  | 34 => ("ClauseLedgerModel", "opens", "I", false)
  | 35 => ("ClauseLedgerModel", "sign", "[I", true)
  | 36 => ("ClauseLedgerModel", "got", "[I", true)
  | 37 => ("ClauseLedgerModel", "left", "[I", true)
  | 38 => ("ClauseLedgerModel", "right", "[I", true)
  | 39 => ("ClauseLedgerModel", "became", "[I", true)
  | 40 => ("ClauseLedgerModel", "num", "[J", true)
  | 41 => ("ClauseLedgerModel", "den", "[J", true)
  | 42 => ("ClauseLedgerModel", "needed", "[Z", true)
  | 43 => ("ClauseLedgerModel", "sumNum", "J", false)
  | 44 => ("ClauseLedgerModel", "sumDen", "J", false)
  | 45 => ("ClauseLedgerModel", "great", "Z", false)
  | 46 => ("ClauseLedgerModel", "written", "I", false)
  | 47 => ("ClauseLedgerModel", "wanted", "I", false)
  | 48 => ("ClauseLedgerModel", "caught", "I", false)
  | 49 => ("ClauseLedgerModel", "allNum", "J", false)
  | _ => ("ClauseLedgerModel", "allDen", "J", false)
def ty_Mo : Nat → FieldType := fun k => match k with
  | 0 => .int
  | 1 => .int
  | 2 => .int
  | 3 => .int
  | 4 => .array .int
  | 5 => .array .int
  | 6 => .array .int
  | 7 => .array .int
  | 8 => .int
  | 9 => .int
  | 10 => .array .int
  | 11 => .array .int
  | 12 => .array .int
  | 13 => .array .int
  | 14 => .array .int
  | 15 => .array .int
  | 16 => .array .int
  | 17 => .array .int
  | 18 => .array .int
  | 19 => .int
  | 20 => .array .int
  | 21 => .array .int
  | 22 => .array .int
  | 23 => .array .boolean
  | 24 => .int
  | 25 => .int
  | 26 => .array .int
  | 27 => .array .boolean
  | 28 => .int
  | 29 => .array .int
  | 30 => .int
  | 31 => .array .int
  | 32 => .int
  | 33 => .boolean
  | 34 => .int
  | 35 => .array .int
  | 36 => .array .int
  | 37 => .array .int
  | 38 => .array .int
  | 39 => .array .int
  | 40 => .array .long
  | 41 => .array .long
  | 42 => .array .boolean
  | 43 => .long
  | 44 => .long
  | 45 => .boolean
  | 46 => .int
  | 47 => .int
  | 48 => .int
  | 49 => .long
  | _ => .long
theorem nm_Mo : ∀ a, a < 51 → ∀ b, b < 51 → a ≠ b → (T_Mo a).2.1 ≠ (T_Mo b).2.1 := by decide +kernel
theorem ok_Mo : ∀ k, k < 51 → parseFieldDescriptor (T_Mo k).2.2.1 = some (ty_Mo k) := by decide +kernel
abbrev classes : List vw_C := [(R_CL, T_CL, 11), (R_Sg, T_Sg, 6), (R_Te, T_Te, 14), (R_Dr, T_Dr, 2), (R_Rd, T_Rd, 4), (R_Wr, T_Wr, 1), (R_Pu, T_Pu, 5), (R_Ba, T_Ba, 6), (R_Su, T_Su, 5), (R_Ro, T_Ro, 2), (R_Sc, T_Sc, 5), (R_St, T_St, 5), (R_Mo, T_Mo, 51)]
abbrev Wc (ty : Nat → ClassId) (h : Nat → Nat) (σ : St) (px : va_W) : va_W :=
  (h 0, .inr (0, [.ref (h 1), .ref (h 6), .ref (h 18), .ref (h 20), .ref (h 21), .ref (h 22), .ref (h 24), .ref (h 25), .ref (h 27), .ref (h 31), .int (σ.1 0 10)])) ::
  (h 1, .inr (1, [.ref (h 2), .ref (h 3), .ref (h 4), .ref (h 5), .int (σ.1 1 4), .int (σ.1 1 5)])) ::
  (h 2, .inl (ty 0, 12, .inl (σ.1 2))) ::
  (h 3, .inl (ty 0, 12, .inl (σ.1 3))) ::
  (h 4, .inl (ty 0, 12, .inl (σ.1 4))) ::
  (h 5, .inl (ty 0, 3, .inl (σ.1 5))) ::
  (h 6, .inr (2, [.ref (h 7), .ref (h 8), .ref (h 9), .ref (h 10), .ref (h 11), .ref (h 12), .ref (h 13), .ref (h 14), .ref (h 15), .ref (h 16), .ref (h 17), .int (σ.1 6 11), .int (σ.1 6 12), .int (σ.1 6 13)])) ::
  (h 7, .inl (ty 0, 208, .inl (σ.1 7))) ::
  (h 8, .inl (ty 0, 208, .inl (σ.1 8))) ::
  (h 9, .inl (ty 0, 208, .inl (σ.1 9))) ::
  (h 10, .inl (ty 0, 208, .inl (σ.1 10))) ::
  (h 11, .inl (ty 0, 208, .inl (σ.1 11))) ::
  (h 12, .inl (ty 0, 208, .inl (σ.1 12))) ::
  (h 13, .inl (ty 0, 208, .inl (σ.1 13))) ::
  (h 14, .inl (ty 0, 208, .inl (σ.1 14))) ::
  (h 15, .inl (ty 0, 208, .inl (σ.1 15))) ::
  (h 16, .inl (ty 0, 208, .inl (σ.1 16))) ::
  (h 17, .inl (ty 1, 208, .inr (.inl (σ.2 17)))) ::
  (h 18, .inr (3, [.ref (h 19), .int (σ.1 18 1)])) ::
  (h 19, .inl (ty 2, 120, .inl (σ.1 19))) ::
  (h 20, .inr (4, [.ref (h 18), .ref (h 1), .ref (h 6), .int (σ.1 20 3)])) ::
  (h 21, .inr (5, [.ref (h 6)])) ::
  (h 22, .inr (6, [.ref (h 6), .ref (h 23), .int (σ.1 22 2), .int (σ.1 22 3), .int (σ.1 22 4)])) ::
  (h 23, .inl (ty 0, 100, .inl (σ.1 23))) ::
  (h 24, .inr (7, [.ref (h 6), .ref (h 40), .ref (h 41), .ref (h 45), .ref (h 49), .int (σ.1 24 5)])) ::
  (h 25, .inr (9, [.ref (h 26), .int (σ.1 25 1)])) ::
  (h 26, .inl (ty 0, 68, .inl (σ.1 26))) ::
  (h 27, .inr (10, [.ref (h 28), .ref (h 29), .ref (h 30), .int (σ.1 27 3), .int (σ.1 27 4)])) ::
  (h 28, .inl (ty 0, 21, .inl (σ.1 28))) ::
  (h 29, .inl (ty 0, 21, .inl (σ.1 29))) ::
  (h 30, .inl (ty 3, 21, .inl (σ.1 30))) ::
  (h 31, .inr (11, [.ref (h 32), .ref (h 33), .ref (h 34), .ref (h 35), .int (σ.1 31 4)])) ::
  (h 32, .inl (ty 0, 480, .inl (σ.1 32))) ::
  (h 33, .inl (ty 0, 60, .inl (σ.1 33))) ::
  (h 34, .inl (ty 0, 60, .inl (σ.1 34))) ::
  (h 35, .inl (ty 3, 60, .inl (σ.1 35))) :: px
abbrev Wm (ty : Nat → ClassId) (h : Nat → Nat) (σ : St) (px : va_W) : va_W :=
  (h 0, .inr (12, [.int (σ.1 0 0), .int (σ.1 0 1), .int (σ.1 0 2), .int (σ.1 0 3), .ref (h 1), .ref (h 2), .ref (h 3), .ref (h 4), .int (σ.1 0 8), .int (σ.1 0 9), .ref (h 5), .ref (h 6), .ref (h 7), .ref (h 8), .ref (h 9), .ref (h 10), .ref (h 11), .ref (h 12), .ref (h 13), .int (σ.1 0 19), .ref (h 14), .ref (h 15), .ref (h 16), .ref (h 17), .int (σ.1 0 24), .int (σ.1 0 25), .ref (h 18), .ref (h 19), .int (σ.1 0 28), .ref (h 20), .int (σ.1 0 30), .ref (h 21), .int (σ.1 0 32), .int (σ.1 0 33), .int (σ.1 0 34), .ref (h 22), .ref (h 23), .ref (h 24), .ref (h 25), .ref (h 26), .ref (h 27), .ref (h 28), .ref (h 29), .long (σ.2 0 43), .long (σ.2 0 44), .int (σ.1 0 45), .int (σ.1 0 46), .int (σ.1 0 47), .int (σ.1 0 48), .long (σ.2 0 49), .long (σ.2 0 50)])) ::
  (h 1, .inl (ty 0, 12, .inl (σ.1 1))) ::
  (h 2, .inl (ty 0, 12, .inl (σ.1 2))) ::
  (h 3, .inl (ty 0, 12, .inl (σ.1 3))) ::
  (h 4, .inl (ty 0, 3, .inl (σ.1 4))) ::
  (h 5, .inl (ty 0, 400, .inl (σ.1 5))) ::
  (h 6, .inl (ty 0, 400, .inl (σ.1 6))) ::
  (h 7, .inl (ty 0, 400, .inl (σ.1 7))) ::
  (h 8, .inl (ty 0, 400, .inl (σ.1 8))) ::
  (h 9, .inl (ty 0, 400, .inl (σ.1 9))) ::
  (h 10, .inl (ty 0, 400, .inl (σ.1 10))) ::
  (h 11, .inl (ty 0, 400, .inl (σ.1 11))) ::
  (h 12, .inl (ty 0, 400, .inl (σ.1 12))) ::
  (h 13, .inl (ty 0, 400, .inl (σ.1 13))) ::
  (h 14, .inl (ty 0, 60, .inl (σ.1 14))) ::
  (h 15, .inl (ty 0, 480, .inl (σ.1 15))) ::
  (h 16, .inl (ty 0, 60, .inl (σ.1 16))) ::
  (h 17, .inl (ty 3, 60, .inl (σ.1 17))) ::
  (h 18, .inl (ty 0, 21, .inl (σ.1 18))) ::
  (h 19, .inl (ty 3, 21, .inl (σ.1 19))) ::
  (h 20, .inl (ty 0, 100, .inl (σ.1 20))) ::
  (h 21, .inl (ty 0, 120, .inl (σ.1 21))) ::
  (h 22, .inl (ty 0, 40, .inl (σ.1 22))) ::
  (h 23, .inl (ty 0, 40, .inl (σ.1 23))) ::
  (h 24, .inl (ty 0, 40, .inl (σ.1 24))) ::
  (h 25, .inl (ty 0, 40, .inl (σ.1 25))) ::
  (h 26, .inl (ty 0, 400, .inl (σ.1 26))) ::
  (h 27, .inl (ty 1, 400, .inr (.inl (σ.2 27)))) ::
  (h 28, .inl (ty 1, 400, .inr (.inl (σ.2 28)))) ::
  (h 29, .inl (ty 3, 400, .inl (σ.1 29))) :: px
