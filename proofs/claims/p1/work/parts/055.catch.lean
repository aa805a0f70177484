-- an exception that its own method catches: the search of the handlers may resolve the classes that they name (my own rows)
/-- the search over these entries comes to the handler h: entries that don't cover the place, or name a class that the thrown one doesn't go to, are passed -/
def xFinds (pl : Platform) (s : State) (f : JFrame) (thrown : ClassId) : List ExceptionTableEntry → Nat → Prop
  | [], _ => False
  | y :: ys, h => (covers y f.pc = false ∧ xFinds pl s f thrown ys h) ∨ (covers y f.pc = true ∧ y.catchType ≠ 0 ∧ ∃ c, s.vm.ClassLinks pl f.method.cls y.catchType c ∧ ((s.vm.assignable thrown c = true ∧ y.handlerPc = h) ∨ (s.vm.assignable thrown c = false ∧ xFinds pl s f thrown ys h)))
theorem x_seek {e : Env} {s : State} {f : JFrame} {a : Addr} {cell : Cell} (hobj : ∀ k, cell.vm ≠ .statics k) (hk0 : ∃ k, s.vm.classes[cell.cls]? = some k) :
    ∀ (ys : List ExceptionTableEntry) (S : State) (h : Nat), s.WarmedH S.vm → S.heap[a]? = some cell → xFinds e.platform s f cell.cls ys h →
      ∃ vm', s.WarmedH vm' ∧ ∀ (Q : Handler → Pre) (E : CtlPost) (d : Bool) (acts : List Action), wp (findHandler.go f a ys) Q E e d acts S ↔ Q (.found h) d acts (S.setVm vm') := by
  obtain ⟨k0, hk0⟩ := hk0
  intro ys
  induction ys with
  | nil => intro S h _ _ hf; exact hf.elim
  | cons y ys ih =>
    intro S h hW hcell hf
    rcases hf with ⟨hcov, hf⟩ | ⟨hcov, h0, c, hl, hf⟩
    · obtain ⟨vm', hW', hq⟩ := ih S h hW hcell hf
      exact ⟨vm', hW', fun Q E d acts => (Jvm.W.findHandler_go_skip hcov).trans (hq Q E d acts)⟩
    · have hlS := hW.classLinks hl
      have hl9 := hl
      obtain ⟨dk, _, _, kt, hd, _, _, _, _, hkt, _, hopen⟩ := hl9.here
      have hal : S.vm.Alike (S.vm.noted f.method.cls y.catchType (.cls c)) := (Vm.Alike.refl S.vm).noted _ _ _
      have hWn : s.WarmedH (S.vm.noted f.method.cls y.catchType (.cls c)) := hW.noted hd hopen (State.rightAt_cls hl)
      obtain ⟨k1, hk1, -⟩ := hWn.alike.2.2 _ _ hk0
      obtain ⟨k2, hk2, -⟩ := hWn.alike.2.2 _ _ hkt
      obtain ⟨ha, ht⟩ := (resolveClass_links e.toSetting hlS).op (op := VmOp.resolveClass f.method.cls y.catchType) rfl
      have hcv := hcov
      simp only [covers] at hcv
      rcases hf with ⟨has, rfl⟩ | ⟨has, hf⟩
      · have has' : (S.vm.noted f.method.cls y.catchType (.cls c)).assignable cell.cls c = true := by rw [hWn.alike.assignable]; exact has
        exact ⟨_, hWn, fun Q E d acts => by simp [findHandler.go, hcv, h0, ha, ht, hcell, hobj, hk1, hk2, has', VmOp.dirties, VmOp.acts]⟩
      · have has' : (S.vm.noted f.method.cls y.catchType (.cls c)).assignable cell.cls c = false := by rw [hWn.alike.assignable]; exact has
        obtain ⟨vm', hW', hq⟩ := ih (S.setVm (S.vm.noted f.method.cls y.catchType (.cls c))) h hWn hcell hf
        refine ⟨vm', hW', fun Q E d acts => Iff.trans ?_ (hq Q E d acts)⟩
        simp [findHandler.go, hcv, h0, ha, ht, hcell, hobj, hk1, hk2, has', VmOp.dirties, VmOp.acts]
section XC
variable {p : Program} {l : Launch} {e : Env} {R : Room} {s : State} {m : MethodId} {args : Array Value} {below : List Frame} {meth : Method} {c : Code} {H : Heap} {locs : List Loc} {cells slots : Nat} {Q : State → Prop} {pc : Nat} {ls : Array Slot} {rest : List Value}
/-- the exception q, of the class cell.cls, is caught: the frame goes on at the handler h, with the reference alone on its stack -/
theorem x_catch {q : Addr} {cell : Cell} {h : Nat} (hcell : H[q]? = some cell) (hv : cell.vm = .none) (hk0 : ∃ k, s.vm.classes[cell.cls]? = some k)
    (hf : ∀ pl : Platform, pl.magicAccessors = ({} : Platform).magicAccessors → xFinds pl s (F0 m pc ls rest) cell.cls c.exceptionTable.toList h)
    (kk : W p l e R s m args below meth c H locs cells slots Q (F0 m h ls [.ref q])) : xW p l e R s m args below meth c H locs cells slots Q (F0 m pc ls rest) q := by
  intro T hT X
  have hpl : e.platform.magicAccessors = ({} : Platform).magicAccessors := by rw [X.admits.platform]
  have hvT : ((T.setTop (F0 m pc ls rest)).pushFrame (.throwing q)).vm = T.vm := throwing_vm T _ q
  have hhT : ((T.setTop (F0 m pc ls rest)).pushFrame (.throwing q)).heap = T.heap := throwing_heap T _ q
  obtain ⟨vm', hW', hq⟩ := x_seek (e := e) (s := s) (f := F0 m pc ls rest) (a := q) (cell := cell) (fun k hk => by rw [hv] at hk; cases hk) hk0 c.exceptionTable.toList ((T.setTop (F0 m pc ls rest)).pushFrame (.throwing q)) h
    (by rw [hvT]; exact X.warmed) (by rw [hhT, hT]; exact hcell) (hf e.platform hpl)
  have hfind : ∀ (Q : Handler → Pre) (E : CtlPost) (d : Bool) (acts : List Action), wp (findHandler (F0 m pc ls rest) q) Q E e d acts ((T.setTop (F0 m pc ls rest)).pushFrame (.throwing q)) ↔ Q (.found h) d acts (((T.setTop (F0 m pc ls rest)).pushFrame (.throwing q)).setVm vm') := by
    intro Q E d acts
    rw [Jvm.W.findHandler_eq (meth := meth) (code := c) (by rw [hvT]; exact X.method') X.code]
    exact hq Q E d acts
  obtain ⟨t, a1, b1⟩ := kk (T.setVm vm') hT (X.noted hW')
  refine ⟨t, ?_, b1⟩
  have hAt : At T (F0 m pc ls rest).method c below := X.here
  obtain ⟨hgo, hw⟩ := hAt.throwing q
  refine Steps.head hgo hw ?_
  have hstep : (stepThrowing e ((T.setTop (F0 m pc ls rest)).pushFrame (.throwing q)) q (.java (F0 m pc ls rest) :: T.frames.tail)).Is ((((T.setTop (F0 m pc ls rest)).pushFrame (.throwing q)).setVm vm').setFrames (.java { F0 m pc ls rest with pc := h, stack := [.ref q] } :: T.frames.tail)) [] := by
    simp only [stepThrowing, searchFrame, vmDo]
    generalize hr : Sem.go _ e false [] _ = res
    obtain ⟨as, rfl, ha⟩ := Sem.eq_ok_of hr (a := Handler.found h) (s' := ((T.setTop (F0 m pc ls rest)).pushFrame (.throwing q)).setVm vm') (acts' := []) (by simp [hfind _ _ _ _])
    exact ⟨rfl, ha⟩
  rw [stepThread_throwing (frames_entered hAt.top _), hstep.1]
  obtain ⟨g₀, hg⟩ := Option.isSome_iff_exists.mp hAt.top
  obtain ⟨r, hr⟩ := State.topJava?_eq_some.mp hg
  have hr' : (T.setVm vm').frames = .java g₀ :: r := hr
  have e1 : ∀ (u : State) (F G : List Frame), ((u.setFrames F).setVm vm').setFrames G = (u.setVm vm').setFrames G := fun u F G => by
    have : (u.setFrames F).setVm vm' = (u.setVm vm').setFrames F := rfl
    rw [this, State.setFrames_setFrames]
  rw [State.setTop_of_frames _ hr'] at a1
  rw [hr, List.tail_cons, State.pushFrame, e1, State.setTop_of_frames _ hr, e1]
  exact a1
end XC
