/-! a method whose table has one row catches what its callee threw (the class that the row names: its pool entry cold or warm) -/
section
variable {p : Program} {l : Launch} {e : Env} {R : Room} {s : State} {m : MethodId} {args : Array Value} {below : List Frame} {meth : Method} {c : Code} {T : State} {locs : List Loc} {cells slots : Nat}
theorem uc_go {S : State} {f : JFrame} {q : Addr} {x : ExceptionTableEntry} {k : ClassId} {ce : Cell} (hx : covers x f.pc = true) (h0 : x.catchType ≠ 0) (hl : S.vm.ClassLinks e.platform f.method.cls x.catchType k) (hce : S.heap[q]? = some ce) (hv : ∀ z, ce.vm ≠ .statics z) (h1 : ∃ z, S.vm.classes[ce.cls]? = some z) (h2 : ∃ z, S.vm.classes[k]? = some z) (ha : S.vm.assignable ce.cls k = true) (Q : Handler → Pre) (E : CtlPost) (d : Bool) (acts : List Action) :
    wp (findHandler.go f q [x]) Q E e d acts S ↔ Q (.found x.handlerPc) d acts (S.setVm (S.vm.noted f.method.cls x.catchType (.cls k))) := by
  have hal : S.vm.Alike (S.vm.noted f.method.cls x.catchType (.cls k)) := (Vm.Alike.refl S.vm).noted _ _ _
  obtain ⟨z1, w1⟩ := h1
  obtain ⟨z2, w2⟩ := h2
  obtain ⟨y1, v1, -⟩ := hal.2.2 _ _ w1
  obtain ⟨y2, v2, -⟩ := hal.2.2 _ _ w2
  have ha' : (S.vm.noted f.method.cls x.catchType (.cls k)).assignable ce.cls k = true := by rw [hal.assignable]; exact ha
  obtain ⟨r1, r2⟩ := (resolveClass_links e.toSetting hl).op (op := VmOp.resolveClass f.method.cls x.catchType) rfl
  simp only [covers] at hx
  simp [findHandler.go, hx, h0, r1, r2, hce, hv, v1, v2, ha', VmOp.dirties, VmOp.acts]
theorem uc_catch (X : Stand p l e R s m args below meth c T locs cells slots) {own name E : String} {ce : Cell} {q : Addr} {g : JFrame} (hg : g.method = m) (hown : s.vm.findClass own = some m.cls) {x : ExceptionTableEntry} (htab : c.exceptionTable.toList = [x]) (hx : covers x g.pc = true) (h0 : x.catchType ≠ 0)
    (hlink : (Cond.classLink own x.catchType name).before args s = true) (hcast : va_Nw (Cond.castable E name) s) (hce : T.heap[q]? = some ce) (hv : ce.vm = .none) (hcl : s.vm.findClass E = some ce.cls) :
    ∃ vm', Stand p l e R s m args below meth c (T.setVm vm') locs cells slots ∧ ∀ target, Steps p.tables e below ((T.setVm vm').setTop { g with pc := x.handlerPc, stack := [.ref q] }) target → Steps p.tables e below ((T.setTop g).pushFrame (.throwing q)) target := by
  have hpl : e.platform.magicAccessors = ({} : Platform).magicAccessors := by rw [X.admits.platform]
  obtain ⟨c3, c4, e3, e4, hasg⟩ := Cond.castable_spec hcast
  cases Option.some.inj (e3.symm.trans hcl)
  obtain ⟨c5, e5, hl5⟩ := Cond.classLink_spec hown hlink e.platform hpl
  cases Option.some.inj (e4.symm.trans e5)
  obtain ⟨dk, _, _, kt, hd, _, _, _, _, hkt, _, hopen⟩ := hl5.here
  have hal := X.warmed.alike
  obtain ⟨kt', hkt', -⟩ := hal.2.2 _ _ hkt
  obtain ⟨k9, w9, -⟩ := Vm.findClass_spec hcl
  obtain ⟨k9', w9', -⟩ := hal.2.2 _ _ w9
  have hasg' : T.vm.assignable ce.cls c4 = true := by rw [hal.assignable]; exact hasg
  refine ⟨T.vm.noted m.cls x.catchType (.cls c4), X.noted (X.warmed.noted hd hopen (State.rightAt_cls hl5)), fun target hrest => ?_⟩
  subst hg
  have hfind : ∀ (Q : Handler → Pre) (E : CtlPost) (d : Bool) (acts : List Action), wp (findHandler g q) Q E e d acts ((T.setTop g).pushFrame (.throwing q)) ↔ Q (.found x.handlerPc) d acts (((T.setTop g).pushFrame (.throwing q)).setVm (T.vm.noted g.method.cls x.catchType (.cls c4))) := by
    intro Q E d acts
    rw [W.findHandler_eq (s := (T.setTop g).pushFrame (.throwing q)) (meth := meth) (code := c) X.method' X.code, htab]
    exact uc_go (S := (T.setTop g).pushFrame (.throwing q)) hx h0 (X.warmed.classLinks hl5) hce (fun z hz => by rw [hv] at hz; cases hz) ⟨k9', w9'⟩ ⟨kt', hkt'⟩ hasg' Q E d acts
  obtain ⟨hgo, hw⟩ := X.here.throwing q
  refine Steps.head hgo hw ?_
  have hstep : (stepThrowing e ((T.setTop g).pushFrame (.throwing q)) q (.java g :: T.frames.tail)).Is ((((T.setTop g).pushFrame (.throwing q)).setVm (T.vm.noted g.method.cls x.catchType (.cls c4))).setFrames (.java { g with pc := x.handlerPc, stack := [.ref q] } :: T.frames.tail)) [] := by
    simp only [stepThrowing, searchFrame, vmDo]
    generalize hr : Sem.go _ e false [] ((T.setTop g).pushFrame (.throwing q)) = res
    obtain ⟨as, rfl, ha⟩ := Sem.eq_ok_of hr (a := Handler.found x.handlerPc) (s' := ((T.setTop g).pushFrame (.throwing q)).setVm (T.vm.noted g.method.cls x.catchType (.cls c4))) (acts' := []) (by simp [hfind _ _ _ _])
    exact ⟨rfl, ha⟩
  rw [stepThread_throwing (frames_entered X.here.top _), hstep.1]
  obtain ⟨g0, hg0⟩ := Option.isSome_iff_exists.mp X.here.top
  obtain ⟨r, hr⟩ := State.topJava?_eq_some.mp hg0
  have hr' : (T.setVm (T.vm.noted g.method.cls x.catchType (.cls c4))).frames = .java g0 :: r := hr
  have hsf : ∀ (u : State) (vm' : Vm) (F G : List Frame), ((u.setFrames F).setVm vm').setFrames G = (u.setVm vm').setFrames G := fun u vm' F G => by
    rw [show (u.setFrames F).setVm vm' = (u.setVm vm').setFrames F from rfl, State.setFrames_setFrames]
  rw [State.setTop_of_frames _ hr'] at hrest
  rw [hr, List.tail_cons, State.pushFrame, hsf, State.setTop_of_frames _ hr, hsf]
  exact hrest
end
