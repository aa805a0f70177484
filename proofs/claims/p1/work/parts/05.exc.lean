-- methods that return or throw: my own rows, over the library's MetFree, Steps.callFree, Stand.leaveThrown, Stand.ctorThrowS
/-- the end of a method, by return or by throw: what it owes, and what it may have written -/
def xQ (Rr : Array Value → State → Outcome → State → Prop) (mc ms : Nat) (free : Addr → Prop) : Array Value → State → Outcome → State → Prop := fun a st o t =>
  Rr a st o t ∧ st.WarmedH t.vm ∧ ∃ L, st.sameButNew ({ t with vm := st.vm } : State) L mc ms ∧ ∀ q ∈ L, free q.base
def xMet (l : Launch) (y : MethodName) (ws : List Cond) (rm : Room) (Pc : Array Value → State → Prop) (Rr : Array Value → State → Outcome → State → Prop) (mc ms : Nat) (free : Addr → Prop) : Prop :=
  MetFree l y (headSpec ws rm) Pc (fun _ _ _ _ _ => True) (xQ Rr mc ms free)
def xMQ (below : List Frame) (Rr : Array Value → State → Outcome → State → Prop) (a : Array Value) (s : State) (mc ms : Nat) (free : Addr → Prop) : State → Prop := fun t =>
  ∃ o, t.status = .running ∧ Ended t below o ∧ xQ Rr mc ms free a s o t
/-- the frame g of the method, q being thrown over it -/
def xW (p : Program) (l : Launch) (e : Env) (R : Room) (s : State) (m : MethodId) (args : Array Value) (below : List Frame) (meth : Method) (c : Code) (H : Heap) (locs : List Loc) (cells slots : Nat) (Q : State → Prop) (g : JFrame) (q : Addr) : Prop :=
  ∀ T : State, T.heap = H → Stand p l e R s m args below meth c T locs cells slots → ∃ t, Steps p.tables e below ((T.setTop g).pushFrame (.throwing q)) t ∧ Q t
theorem xMet.ofW {l : Launch} {y : MethodName} {ws ws' : List Cond} {rm : Room} {Pc : Array Value → State → Prop} {Rr : Array Value → State → Outcome → State → Prop} {mc ms : Nat} {free : Addr → Prop} {cc : ByteArray} {maxL : Nat} {ret : Option FieldType}
    (hy : plainName y.cls = true) (hw : ws = Cond.code y cc maxL ret :: ws')
    (body : ∀ p e s m args below meth c s₁, BodyLoose p l y (headSpec ws rm) cc maxL ret e s m args below meth c s₁ → c.maxLocals = maxL → c.exceptionTable.toList = [] → Pc args s →
      W p l e (headSpec ws rm).room s m args below meth c s.heap [] 0 0 (xMQ below Rr args s mc ms free) (entryFrame m args maxL)) : xMet l y ws rm Pc Rr mc ms free := by
  refine MetFree.of_bodyS (code := cc) (maxLocals := maxL) (ret := ret) hy ?_ ?_
  · intro args s m h hn
    obtain ⟨meth, c, h1, h2, h3, h4, h5, h6, -, -⟩ := Cond.code_spec hn (atoms_spec (ws := ws) h _ (by rw [hw]; exact List.mem_cons_self))
    exact ⟨meth, c, h1, h2, h3, h4, h5, h6⟩
  · intro p e s m args below meth c s₁ B hml hP _
    have hh0 : s₁.heap = s.heap := by rw [B.state]; rfl
    have X₀ : Stand p l e (headSpec ws rm).room s m args below meth c s₁ [] 0 0 := Stand.of_body B
    obtain ⟨meth', c', h1, h2, -, -, -, -, h7, -⟩ := Cond.code_spec B.named (atoms_spec (ws := ws) B.pre _ (by rw [hw]; exact List.mem_cons_self))
    cases h1.symm.trans X₀.method
    cases h2.symm.trans X₀.code
    have htab : c.exceptionTable.toList = [] := by
      have h8 : c.exceptionTable = #[] := Array.isEmpty_iff.mp h7
      rw [h8]
    obtain ⟨t, a1, o, b1, b2, b3⟩ := body p e s m args below meth c s₁ B hml htab hP s₁ hh0 X₀
    exact ⟨t, o, a1, b1, b2, b3⟩
section XR
variable {p : Program} {l : Launch} {e : Env} {R : Room} {s : State} {m : MethodId} {args : Array Value} {below : List Frame} {meth : Method} {c : Code} {T : State} {locs : List Loc} {cells slots : Nat}
/-- behind the invocation: the callee has returned, or its exception lies over the caller's frame -/
theorem x_run {y : MethodName} {ws : List Cond} {rm : Room} {Pc : Array Value → State → Prop} {Rr : Array Value → State → Outcome → State → Prop} {mc ms : Nat} {free : Addr → Prop} {bytes : ByteArray} {maxL : Nat} {ret : Option FieldType}
    (X : Stand p l e R s m args below meth c T locs cells slots) (hM : xMet l y ws rm Pc Rr mc ms free) (hrc : rm.cells = mc) (hrs : rm.slots = ms) (hfr : rm.frames + 1 ≤ R.frames) (hlo : 8 + (maxL + 11) + rm.locals ≤ R.locals)
    (hws : ∀ w ∈ ws, ∀ (a' : Array Value) (U : State), s.WarmedH U.vm → w.before a' U = true) (hcw : Cond.code y bytes maxL ret ∈ ws) (hini : (Cond.initialized y.cls).before args s = true)
    {g : JFrame} (hg : g.method = m) (hsize : g.locals.size = c.maxLocals) {ig : Instr} (hdg : decode c.code g.pc = .ok (ig, 3)) (hW : 2 * g.monitorRoom + (g.stack.map fun v => v.category).sum ≤ 8) {mk : MethodId} (hn : T.methodNamed? y = some mk) {a : Array Value} (hPc : Pc a (T.calling g mk a)) (hc : cells + mc ≤ R.cells) (hs : slots + ms ≤ R.slots) :
    ∃ (o : Outcome) (t T' : State) (L : List Loc), Stand p l e R s m args below meth c T' (locs ++ L) (cells + mc) (slots + ms) ∧ (∀ q ∈ L, free q.base) ∧ T'.heap = t.heap ∧ T'.vm = t.vm ∧ Rr a (T.calling g mk a) o t ∧
      Steps p.tables e below (doInvoke e (T.setTop g) [] mk a).1 (match o with | .returned v => T'.setTop { g with pc := g.pc + 3, stack := v.toList ++ g.stack } | .threw q => (T'.setTop g).pushFrame (.throwing q)) := by
  have h1 : (headSpec ws rm).pre.before a T = true := atoms_intro fun w hw => hws w hw _ _ X.warmed
  have h2 : (Cond.code y bytes maxL ret).before a T = true := hws _ hcw _ _ X.warmed
  have h3 : (Cond.initialized y.cls).before a T = true := word_at X.warmed (Or.inl (by first | rfl | simp [Cond.onTables, Cond.keeps, Cond.steady])) hini
  have h4 : cells + (headSpec ws rm).room.cells ≤ R.cells := by rw [show (headSpec ws rm).room.cells = mc from hrc]; exact hc
  have h5 : slots + (headSpec ws rm).room.slots ≤ R.slots := by rw [show (headSpec ws rm).room.slots = ms from hrs]; exact hs
  obtain ⟨methY, cY, hmY, hcY, -, hlY, -, -, -, -⟩ := Cond.code_spec hn h2
  obtain ⟨kY, hkY, -⟩ := className_of_methodNamed hn
  have hinitY : kY.init = .initialized := Cond.initialized_spec (findClass_of_methodNamed hn) hkY h3
  have h : At T g.method c below := by rw [hg]; exact X.here
  have hlo9 : 8 + (maxL + 11) + (headSpec ws rm).room.locals ≤ R.locals := hlo
  have happ : (headSpec ws rm).appliesLoose y e.platform (T.calling g mk a) = true :=
    Spec.appliesLoose_calling (g := g) h hdg hn hkY hinitY (X.room_calling (g := g) (R' := (headSpec ws rm).room) hsize hmY hcY hfr (by rw [hlY]; omega) h4 h5) h1
  obtain ⟨mid, hmid⟩ := h.above
  have hframes : (T.setTop g).frames = (.java g :: mid) ++ below := by rw [State.frames_setTop' g h.top, hmid]; rfl
  obtain ⟨o, s₂, hsteps, -, hend, hR, hW₂, L, hsm, hL⟩ := Steps.callFree hM p X.admits X.cas X.clock (acts := []) hframes happ hPc trivial
  rw [State.frames_setTop' g h.top] at hend
  have hW' : T.WarmedH s₂.vm := hW₂
  obtain ⟨e2, q2, q3, q4, q5, q6⟩ := id hsm
  obtain ⟨g₀, hg0⟩ := Option.isSome_iff_exists.mp h.top
  obtain ⟨r, hr⟩ := State.topJava?_eq_some.mp hg0
  have e3 : s₂ = ({ (T.calling g mk a).setFrames s₂.frames with heap := s₂.heap, slotsUsed := s₂.slotsUsed } : State).setVm s₂.vm := by
    have e4 : s₂ = ({ s₂ with vm := (T.calling g mk a).vm } : State).setVm s₂.vm := rfl
    exact e4.trans (congrArg (fun z : State => z.setVm s₂.vm) e2)
  have hr' : (({ T with heap := s₂.heap, slotsUsed := s₂.slotsUsed } : State).setVm s₂.vm).frames = .java g₀ :: r := hr
  have hsame : T.sameButNew ({ T with heap := s₂.heap, slotsUsed := s₂.slotsUsed } : State) L mc ms := by
    refine ⟨?_, q2, q3, q4, q5, q6⟩
    obtain ⟨t, ht, -⟩ := State.frames_cons hr
    show ({ T with heap := s₂.heap, slotsUsed := s₂.slotsUsed } : State) = { T.setFrames T.frames with heap := s₂.heap, slotsUsed := s₂.slotsUsed }
    rw [State.setFrames_self ht]
  refine ⟨o, s₂, (({ T with heap := s₂.heap, slotsUsed := s₂.slotsUsed } : State).setVm s₂.vm), L, ⟨X.admits, X.cas, X.clock, X.frames, X.room, X.hears, X.method, X.code, (X.here.setHeapUsed s₂.heap s₂.slotsUsed).setVm hW'.alike, X.tail, State.WarmedH.trans X.warmed hW', X.limits, X.bytes, X.same.trans (hsame.setVm s.vm)⟩, hL, rfl, rfl, hR, ?_⟩
  cases o with
  | returned v =>
    obtain ⟨c₂, i₂, len₂, hc₂, hd₂, hf₂⟩ := hend
    have hcc : c₂ = c := by
      have h6 : s₂.code? g.method = T.code? g.method := by rw [State.code?_eq, State.code?_eq, hW'.alike.method?]
      exact Option.some.inj (hc₂.symm.trans (h6.trans h.code))
    subst hcc
    have hlen : len₂ = 3 := by rw [hdg] at hd₂; cases hd₂; rfl
    subst hlen
    have hs₂ : s₂ = (({ T with heap := s₂.heap, slotsUsed := s₂.slotsUsed } : State).setVm s₂.vm).setTop { g with pc := g.pc + 3, stack := v.toList ++ g.stack } := by
      refine e3.trans ?_
      rw [hf₂, State.calling_eq h.top, State.setFrames_setFrames, State.setTop_of_frames _ hr', hr]
      rfl
    show Steps p.tables e below _ ((({ T with heap := s₂.heap, slotsUsed := s₂.slotsUsed } : State).setVm s₂.vm).setTop { g with pc := g.pc + 3, stack := v.toList ++ g.stack })
    rw [← hs₂]
    exact hsteps
  | threw q =>
    have hf₂ : s₂.frames = .throwing q :: .java g :: T.frames.tail := hend
    have hs₂ : s₂ = ((({ T with heap := s₂.heap, slotsUsed := s₂.slotsUsed } : State).setVm s₂.vm).setTop g).pushFrame (.throwing q) := by
      refine e3.trans ?_
      rw [hf₂, State.calling_eq h.top, State.setFrames_setFrames, State.pushFrame, State.frames_setTop _ hr', State.setTop_of_frames _ hr', State.setFrames_setFrames, hr]
      rfl
    show Steps p.tables e below _ (((({ T with heap := s₂.heap, slotsUsed := s₂.slotsUsed } : State).setVm s₂.vm).setTop g).pushFrame (.throwing q))
    rw [← hs₂]
    exact hsteps
end XR
section XS
variable {p : Program} {l : Launch} {e : Env} {R : Room} {s : State} {m : MethodId} {args : Array Value} {below : List Frame} {meth : Method} {c : Code} {H : Heap} {locs : List Loc} {cells slots : Nat} {Q : State → Prop}
variable {y : MethodName} {bytes cc : ByteArray} {maxL nL mc ms n index pc : Nat} {ret : Option FieldType} {ws : List Cond} {rm : Room} {Pc : Array Value → State → Prop} {Rr : Array Value → State → Outcome → State → Prop} {free : Addr → Prop} {Ts : List Cond} {own C : String} {b : Addr} {As rest st0 : List Value} {ls : Array Slot}
/-- a call of a method that may throw: what follows it, by its outcome -/
theorem x_callV (S : CallFix p m c cc nL s args Ts own) (hM : xMet l y ws rm Pc Rr mc ms free) (cw : CallW R s args own C index y bytes maxL ret ws rm mc ms n) (hp : PreV s H C b Pc As)
    (hn : As.length = n) (hsize : ls.size = nL) (hstack : st0 = As.reverse ++ .ref b :: rest) (hW : (rest.map fun v => v.category).sum ≤ 8) (hdg : decode cc pc = .ok (.invokevirtual index, 3)) (hf : cells + mc ≤ R.cells ∧ slots + ms ≤ R.slots)
    (kr : ∀ (v : Option Value) (st₀ t : State) (L : List Loc), st₀.heap = H → s.vm.Alike t.vm → Rr (Value.ref b :: As).toArray st₀ (.returned v) t → (∀ q ∈ L, free q.base) → W p l e R s m args below meth c t.heap (locs ++ L) (cells + mc) (slots + ms) Q (F0 m (pc + 3) ls (v.toList ++ rest)))
    (kt : ∀ (q : Addr) (st₀ t : State) (L : List Loc), st₀.heap = H → st₀.vm.Alike s.vm → s.vm.Alike t.vm → Rr (Value.ref b :: As).toArray st₀ (.threw q) t → (∀ q ∈ L, free q.base) → xW p l e R s m args below meth c t.heap (locs ++ L) (cells + mc) (slots + ms) Q (F0 m pc ls rest) q) :
    W p l e R s m args below meth c H locs cells slots Q (F0 m pc ls st0) := by
  obtain ⟨⟨hrc, hrs, hfr, hlo, hws, hcw, hcode, hini, hy, hlen, hl⟩, hin, hse⟩ := cw
  obtain ⟨hx, hb, hml, ho, -⟩ := S
  obtain ⟨hbl, ⟨cellB, hcB, hoB, hclB⟩, hPc⟩ := hp
  intro T hT X
  obtain ⟨mk, methM, hnamed, hmethM, hstM, habM⟩ := Cond.instanceMethod_spec hin
  obtain ⟨methM', cM, hmethM', -, -, -, -, -, -, hsigM⟩ := Cond.code_spec hnamed hcode
  cases hmethM.symm.trans hmethM'
  obtain ⟨c2, r2, m2, q1, q2, q3, q4, kP, hkP, hkPi⟩ := Cond.selects_spec hse
  cases hclB.symm.trans q1
  cases (State.methodFound?_of_named hnamed hy).symm.trans q2
  cases hnamed.symm.trans q3
  have hselP : selectMethod e.platform s.vm cellB.cls mk = .method mk := by rw [Launch.admits_selectMethod X.admits]; exact q4
  have hdg' : decode c.code pc = .ok (.invokevirtual index, 3) := by rw [hb]; exact hdg
  have hsz : ls.size = c.maxLocals := hsize.trans hml.symm
  obtain ⟨vm₁, X₁, hstep₁⟩ := X.invokevirtual hx ho hl hnamed hmethM hstM hkP hkPi hy (a := b) (cell := cellB) (by rw [hT]; exact hcB)
    (fun z h => by rw [h] at hoB; cases hoB) hselP hmethM habM hkP hkPi (g := F0 m pc ls st0) rfl (argsL := As) (rest := rest) (hn.trans (hlen _ hsigM)) hstack hdg'
  have hPc2 : Pc (Value.ref b :: As).toArray ((T.setVm vm₁).calling (F0 m pc ls rest) mk (Value.ref b :: As).toArray) := hbl _ _ _ _ (hPc (T.setVm vm₁) hT X₁.warmed)
  obtain ⟨o, t, T', L, X', hL, e1, e2, hR, hsteps⟩ := x_run X₁ hM hrc hrs hfr hlo hws hcw hini (g := F0 m pc ls rest) rfl hsz hdg' (lv_room hW) (X₁.named hnamed) hPc2 hf.1 hf.2
  have hal : s.vm.Alike t.vm := by rw [← e2]; exact X'.warmed.alike
  cases o with
  | returned v =>
    obtain ⟨t2, a1, b1⟩ := kr v ((T.setVm vm₁).calling (F0 m pc ls rest) mk (Value.ref b :: As).toArray) t L hT hal hR hL T' e1 X'
    exact ⟨t2, hstep₁ _ fun acts => by rw [doInvoke_state]; exact hsteps.trans a1, b1⟩
  | threw q =>
    obtain ⟨t2, a1, b1⟩ := kt q ((T.setVm vm₁).calling (F0 m pc ls rest) mk (Value.ref b :: As).toArray) t L hT X₁.warmed.alike.symm hal hR hL T' e1 X'
    exact ⟨t2, hstep₁ _ fun acts => by rw [doInvoke_state]; exact hsteps.trans a1, b1⟩
/-- the exception leaves the method -/
theorem x_out {q : Addr} (htab : c.exceptionTable.toList = []) (hlocks : meth.locks = false) (hx : ∀ t : State, t.heap = H → s.vm.Alike t.vm → Rr args s (.threw q) t) (hf : ∀ z ∈ locs, free z.base) (hc : cells ≤ mc) (hs : slots ≤ ms) :
    xW p l e R s m args below meth c H locs cells slots (xMQ below Rr args s mc ms free) (F0 m pc ls rest) q := by
  intro T hT X
  obtain ⟨st1, hrun, hend, hW, hsm⟩ := X.leaveThrown q (g := F0 m pc ls rest) rfl rfl rfl (fun x hx9 => by rw [htab] at hx9; cases hx9) hlocks
  exact ⟨_, st1, .threw q, hrun, hend, hx _ hT hW.alike, hW, locs, hsm.mono hc hs, hf⟩
/-- a return of a method that may throw -/
theorem x_ret {Qc : Array Value → State → Outcome → State → Prop} {g : JFrame} (hq : ∀ o t, Qc args s o t → Rr args s o t) (hc : cells ≤ mc) (hs : slots ≤ ms) (k : W p l e R s m args below meth c H locs cells slots (MQ below Qc args s cells slots free) g) :
    W p l e R s m args below meth c H locs cells slots (xMQ below Rr args s mc ms free) g := by
  intro T hT X
  obtain ⟨t, a1, o, b1, b2, b3, L, ⟨-, b4, b5⟩, b6⟩ := k T hT X
  exact ⟨t, a1, o, b1, b2, hq o t b3, b4, L, b5.mono hc hs, b6⟩
end XS
/-- the method's frame taken as a fresh start: the heap as it stands now counts as the first -/
theorem x_base {p : Program} {l : Launch} {e : Env} {R R' : Room} {s T : State} {m : MethodId} {args : Array Value} {below : List Frame} {meth : Method} {c : Code} {locs : List Loc} {cells slots : Nat}
    (X : Stand p l e R s m args below meth c T locs cells slots) (r1 : R'.frames ≤ R.frames) (r2 : R'.locals ≤ R.locals) (r3 : cells + R'.cells ≤ R.cells) (r4 : slots + R'.slots ≤ R.slots) :
    Stand p l e R' ((T.setVm s.vm).setFrames (.invoking m args :: below)) m args below meth c T [] 0 0 := by
  obtain ⟨g₀, hfr⟩ := X.frames_eq
  have hfr' : (T.setVm s.vm).frames = .java g₀ :: below := hfr
  have hBf : ((T.setVm s.vm).setFrames (.invoking m args :: below)).frames = .invoking m args :: below := State.frames_setFrames _ (State.cur_lt_of_frames hfr')
  have hlim : e.platform.stackLimits ((T.setVm s.vm).setFrames (.invoking m args :: below)).me = e.platform.stackLimits s.me := (State.stackLimits_setFrames _ _ _).trans X.limits
  have hbyt : ((T.setVm s.vm).setFrames (.invoking m args :: below)).me.stackBytes = s.me.stackBytes := (State.stackBytes_setFrames _ _).trans X.bytes
  have hloc : ((T.setVm s.vm).setFrames (.invoking m args :: below)).localsInUse = s.localsInUse :=
    (State.localsInUse_invoking hBf (meth := meth) (c := c) X.method X.code).trans (State.localsInUse_invoking X.frames X.method X.code).symm
  have hhs := X.heapSize
  have hus := X.used
  exact {
    admits := X.admits, cas := X.cas, clock := X.clock, frames := hBf, hears := X.hears, method := X.method, code := X.code, here := X.here, tail := X.tail, warmed := X.warmed
    limits := X.limits.trans hlim.symm
    bytes := X.bytes.trans hbyt.symm
    room := by
      have h := X.room
      unfold State.hasRoom at h ⊢
      rw [hlim, hbyt, hloc, hBf]
      rw [X.frames] at h
      simp only [Bool.and_eq_true, decide_eq_true_eq, List.length_cons] at h ⊢
      obtain ⟨⟨⟨⟨a1, a2, a3, a4, a5, a6⟩, a7⟩, a8⟩, -⟩ := h
      refine ⟨⟨⟨⟨?_, ?_, ?_, ?_, ?_, a6⟩, ?_⟩, ?_⟩, X.book⟩ <;> first | omega | (show T.heap.size + R'.cells ≤ _; omega) | (show T.slotsUsed + R'.slots ≤ _; omega)
    same := by
      have hd : List.drop T.heap.size T.heap.toList = [] := List.drop_eq_nil_of_le (by simp)
      refine ⟨?_, Nat.le_refl _, Nat.le_refl _, ?_, ?_, fun a x hx => ⟨x, hx, rfl, rfl, fun _ _ => rfl⟩⟩
      · obtain ⟨t, ht, -⟩ := State.frames_cons hfr'
        have e1 : ((T.setVm s.vm).setFrames (.invoking m args :: below)).setFrames (T.setVm s.vm).frames = T.setVm s.vm := by rw [State.setFrames_setFrames, State.setFrames_self ht]
        show T.setVm s.vm = { ((T.setVm s.vm).setFrames (.invoking m args :: below)).setFrames (T.setVm s.vm).frames with heap := T.heap, slotsUsed := T.slotsUsed }
        rw [e1]; rfl
      · show T.slotsUsed = T.slotsUsed + ((List.drop T.heap.size T.heap.toList).map (·.slots.size)).sum
        rw [hd]; rfl
      · show ((List.drop T.heap.size T.heap.toList).map (·.slots.size)).sum ≤ 0
        rw [hd]; exact Nat.le_refl _ }
section XT
variable {p : Program} {l : Launch} {e : Env} {R : Room} {s : State} {m : MethodId} {args : Array Value} {below : List Frame} {meth : Method} {c : Code} {H : Heap} {locs : List Loc} {cells slots : Nat} {Q : State → Prop}
variable {cc : ByteArray} {mc ms pc : Nat} {Rr : Array Value → State → Outcome → State → Prop} {free : Addr → Prop} {own : String} {rest : List Value} {ls : Array Slot}
theorem x_ldcw (hexec : p.tables.exec = Jvm.exec) (hb : c.code = cc) {tx : String} {index q : Nat} (hown : s.vm.findClass own = some m.cls) (hZ : vk_R own index tx q s) (hdg : decode cc pc = .ok (.ldc_w index, 3))
    (k : W p l e R s m args below meth c H locs cells slots Q (F0 m (pc + 3) ls (.ref q :: rest))) : W p l e R s m args below meth c H locs cells slots Q (F0 m pc ls rest) := by
  intro T hT X
  obtain ⟨t, a1, b1⟩ := k T hT X
  exact ⟨t, X.ldcStringW hexec hown (text := tx) (a := q) hZ.1 hZ.2 (g := F0 m pc ls rest) rfl (by rw [hb]; exact hdg) t a1, b1⟩
/-- 'throw new E("..")': new; dup; ldc_w; invokespecial; athrow, out of the method: one cell more, all old cells as they stand -/
theorem x_throw (hexec : p.tables.exec = Jvm.exec) (hb : c.code = cc) (hl : l.stackTraces = false) (hml : c.maxLocals = ls.size) {cls text : String} {names : List String} {ik is ic sa : Nat} (hown : s.vm.findClass own = some m.cls)
    (hS : vk_R own is text sa s) (hcl : Bundle.fit cls = true) (hnm : ∀ n ∈ names, Bundle.fit n = true)
    (hclink : (Cond.classLink own ik cls).before args s = true) (hins : (Cond.instantiable cls 6).before args s = true) (hini : (Cond.initialized cls).before args s = true)
    (hat : ∀ U : State, U.vm = s.vm → U.heap = H → ∀ w ∈ Bundle.ownAtoms own ic cls names, w.before args U = true)
    (htab : c.exceptionTable.toList = []) (hlocks : meth.locks = false) (hfl : ∀ z ∈ locs, free z.base) (hc : cells + 1 ≤ mc) (hs : slots + 6 ≤ ms) (hRc : mc ≤ R.cells) (hRs : ms ≤ R.slots) (hRf : names.length + 4 ≤ R.frames) (hRl : (rest.map fun v => v.category).sum + 13 * names.length + 60 ≤ R.locals)
    (d0 : decode cc pc = .ok (.new ik, 3)) (d3 : decode cc (pc + 3) = .ok (.dup, 1)) (d4 : decode cc (pc + 4) = .ok (.ldc_w is, 3)) (d7 : decode cc (pc + 7) = .ok (.invokespecial ic, 3)) (d10 : decode cc (pc + 10) = .ok (.athrow, 1))
    (hx : ∀ (t : State) (ce : Cell), t.heap[H.size]? = some ce → ce.vm = .none → s.vm.findClass cls = some ce.cls → H.size ≤ t.heap.size → (∀ q : Nat, q < H.size → t.heap[q]? = H[q]?) → s.vm.Alike t.vm → Rr args s (.threw H.size) t) :
    W p l e R s m args below meth c H locs cells slots (xMQ below Rr args s mc ms free) (F0 m pc ls rest) := by
  intro T hT X
  have htr : e.platform.stackTraces = false := by rw [X.admits.platform]; exact hl
  have X0 : Stand p l e { frames := R.frames, cells := 1, slots := 6, locals := R.locals } ((T.setVm s.vm).setFrames (.invoking m args :: below)) m args below meth c T [] 0 0 :=
    x_base X (Nat.le_refl _) (Nat.le_refl _) (by show cells + 1 ≤ R.cells; omega) (by show slots + 6 ≤ R.slots; omega)
  have hv0 : ((T.setVm s.vm).setFrames (.invoking m args :: below)).vm = s.vm := rfl
  have hH0 : ((T.setVm s.vm).setFrames (.invoking m args :: below)).heap = H := hT
  obtain ⟨g₀, hfr⟩ := X.frames_eq
  have hff : ∀ fs, ((T.setVm s.vm).setFrames (.invoking m args :: below)).setFrames fs = (T.setVm s.vm).setFrames fs := fun fs => State.setFrames_setFrames _ _ _
  have hsu : ((T.setVm s.vm).setFrames (.invoking m args :: below)).slotsUsed = T.slotsUsed := rfl
  generalize hs0 : (T.setVm s.vm).setFrames (.invoking m args :: below) = s0 at X0 hv0 hH0 hff hsu
  have hown0 : s0.vm.findClass own = some m.cls := by rw [hv0]; exact hown
  have tb : ∀ {w : Cond}, w.onTables = true → w.before args s = true → w.before args s0 = true := fun hw h => va_tabs hw hv0.symm h
  have key : W p l e { frames := R.frames, cells := 1, slots := 6, locals := R.locals } s0 m args below meth c H [] 0 0 (xMQ below Rr args s mc ms free) (F0 m pc ls rest) := by
    refine W.newc hexec hb hown0 (tb rfl hclink) (tb rfl hins) (tb rfl hini) (g := F0 m pc ls rest) rfl d0 (Nat.le_refl _) (Nat.le_refl _) (fun cC kC hcC hkC hord hsz => ?_)
    refine W.eq (g2 := F0 m (pc + 3) ls (.ref H.size :: rest)) rfl ?_
    refine lv_dup hexec hb d3 rfl ?_
    refine x_ldcw hexec hb hown0 (vk_R.same (u := s) (U := s0) hv0 hS) d4 ?_
    intro T2 hT2 X2
    obtain ⟨U, st, hrun, hend, hW, hsm, ce, hce, hcell⟩ := X2.ctorThrowS hexec htr (own := own) (cls := cls) (names := names) (ic := ic) hown0 hcl hnm (fun w hw => hat s0 hv0 hH0 w hw) (fun x hx9 => by cases hx9)
      (a := H.size) hcC hkC (by rw [hT2]; simp) (by rw [hH0]; exact Nat.le_refl _) (msg := .ref sa) rfl (g := F0 m (pc + 4 + 3) ls (.ref sa :: .ref H.size :: .ref H.size :: rest)) rfl hml.symm rfl rfl (rest := rest) rfl (by rw [hb]; exact d7) (by rw [hb]; exact d10) (fun x hx9 => by rw [htab] at hx9; cases hx9)
      (by show names.length + 3 < R.frames; omega) (by show 2 * 0 + ((Value.ref H.size :: rest).map fun v => v.category).sum + (13 * (names.length + 1) + 42) ≤ R.locals; rw [List.map_cons, List.sum_cons]; show 2 * 0 + (1 + (rest.map fun v => v.category).sum) + (13 * (names.length + 1) + 42) ≤ R.locals; omega) hlocks
    have hsm' := id hsm
    obtain ⟨e2, q2, q3, q4, q5, q6⟩ := hsm'
    have hkeep : ∀ q : Nat, q < H.size → U.heap[q]? = H[q]? := by
      intro q hq
      have hq0 : s0.heap[q]? = some (s0.heap[q]'(by rw [hH0]; exact hq)) := Array.getElem?_eq_getElem (by rw [hH0]; exact hq)
      obtain ⟨c', hc', ec, es, ei⟩ := q6 q _ hq0
      have hc2 : U.heap[q]? = some c' := hc'
      have : c' = s0.heap[q]'(by rw [hH0]; exact hq) := by
        rw [ec]
        have : c'.slots = (s0.heap[q]'(by rw [hH0]; exact hq)).slots := Array.ext_getElem? fun i => ei i (by simp)
        rw [this]
      rw [hc2, this, ← hq0, hH0]
    refine ⟨U, st, .threw H.size, hrun, hend, hx U ce hce hcell.vm (by rw [← hv0]; exact hcell.cls) (by have := q2; rw [hH0] at this; exact this) hkeep (by rw [← hv0]; exact hW.alike), ?_, locs, ?_, hfl⟩
    · exact State.WarmedH.trans (show s.WarmedH s0.vm by rw [hv0]; exact State.WarmedH.refl s) hW
    · have h2 : (T.setVm s.vm).sameButNew ({ U with vm := s.vm } : State) [] 1 6 := by
        rw [hv0] at e2 
        refine ⟨e2.trans (by rw [hff]), ?_, ?_, ?_, ?_, ?_⟩
        · show T.heap.size ≤ U.heap.size
          rw [hT]; have := q2; rw [hH0] at this; exact this
        · show U.heap.size ≤ T.heap.size + 1
          rw [hT]; have := q3; rw [hH0] at this; exact this
        · show U.slotsUsed = T.slotsUsed + ((List.drop T.heap.size U.heap.toList).map (·.slots.size)).sum
          have := q4; rw [hH0, hsu] at this; rw [hT]; exact this
        · have := q5; rw [hH0] at this
          show ((List.drop T.heap.size U.heap.toList).map (·.slots.size)).sum ≤ 6
          rw [hT]; exact this
        · intro a x hx9
          have h9 : T.heap[a]? = some x := hx9
          rw [hT, ← hH0] at h9
          exact q6 a x h9
      have h3 := X.same.trans h2
      rw [List.append_nil] at h3
      exact h3.mono hc hs
  exact key T hT X0
end XT
