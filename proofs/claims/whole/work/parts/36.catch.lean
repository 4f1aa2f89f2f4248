/-! an exception that is caught -/
def XFd (e : Env) (s : State) (f : JFrame) (a : Addr) (h : Handler) (vm' : Vm) : Prop := ∀ (Q : Handler → Pre) (E : CtlPost) (d : Bool) (acts : List Action), wp (findHandler f a) Q E e d acts s ↔ Q h d acts (s.setVm vm')
theorem xgo_link {Q : Handler → Pre} {E : CtlPost} {e : Env} {d : Bool} {acts : List Action} {s : State} {f : JFrame} {a : Addr} {x : ExceptionTableEntry} {t : List ExceptionTableEntry} {c : ClassId} {cell : Cell} (hx : covers x f.pc = true) (h0 : x.catchType ≠ 0)
    (hl : s.vm.ClassLinks e.platform f.method.cls x.catchType c) (hcell : s.heap[a]? = some cell) (hobj : ∀ k, cell.vm ≠ .statics k) (hk : ∃ k, s.vm.classes[cell.cls]? = some k) (hc : ∃ k, s.vm.classes[c]? = some k) :
    wp (findHandler.go f a (x :: t)) Q E e d acts s ↔ if s.vm.assignable cell.cls c = true then Q (.found x.handlerPc) d acts (s.setVm (s.vm.noted f.method.cls x.catchType (.cls c))) else wp (findHandler.go f a t) Q E e d acts (s.setVm (s.vm.noted f.method.cls x.catchType (.cls c))) := by
  simp only [covers] at hx
  obtain ⟨ha, ht⟩ := (resolveClass_links e.toSetting hl).op (op := VmOp.resolveClass f.method.cls x.catchType) rfl
  have hal : s.vm.Alike (s.vm.noted f.method.cls x.catchType (.cls c)) := (Vm.Alike.refl s.vm).noted _ _ _
  obtain ⟨k1, hk1⟩ := hk
  obtain ⟨k2, hk2⟩ := hc
  obtain ⟨k1', hk1', -⟩ := hal.2.2 _ _ hk1
  obtain ⟨k2', hk2', -⟩ := hal.2.2 _ _ hk2
  cases hfit : s.vm.assignable cell.cls c with
  | true =>
    have hfit' : (s.vm.noted f.method.cls x.catchType (.cls c)).assignable cell.cls c = true := by rw [hal.assignable]; exact hfit
    simp [findHandler.go, hx, h0, ha, ht, hcell, hobj, hk1', hk2', hfit', VmOp.dirties, VmOp.acts]
  | false =>
    have hfit' : (s.vm.noted f.method.cls x.catchType (.cls c)).assignable cell.cls c = false := by rw [hal.assignable]; exact hfit
    simp [findHandler.go, hx, h0, ha, ht, hcell, hobj, hk1', hk2', hfit', VmOp.dirties, VmOp.acts]
theorem x_caught {tb : Tables} {e : Env} {s target : State} {g : JFrame} {c : Code} {below : List Frame} {a : Addr} (h : At s g.method c below) {pc : Nat} {vm' : Vm}
    (hfind : XFd e ((s.setTop g).pushFrame (.throwing a)) g a (.found pc) vm') (hrest : Steps tb e below ((s.setVm vm').setTop { g with pc := pc, stack := [.ref a] }) target) :
    Steps tb e below ((s.setTop g).pushFrame (.throwing a)) target := by
  obtain ⟨hgo, hw⟩ := h.throwing a
  refine Steps.head hgo hw ?_
  have hstep : ∀ (u : State) (r : List Frame), XFd e u g a (.found pc) vm' → (stepThrowing e u a (.java g :: r)).Is ((u.setVm vm').setFrames (.java { g with pc := pc, stack := [.ref a] } :: r)) [] := by
    intro u r hf
    simp only [stepThrowing, searchFrame, vmDo]
    generalize hr : Sem.go _ e false [] u = res
    obtain ⟨as, rfl, ha⟩ := Sem.eq_ok_of hr (a := Handler.found pc) (s' := u.setVm vm') (acts' := []) (by simp [hf _ _ _ _])
    exact ⟨rfl, ha⟩
  rw [stepThread_throwing (frames_entered h.top _), (hstep _ _ hfind).1]
  obtain ⟨g₀, hg⟩ := Option.isSome_iff_exists.mp h.top
  obtain ⟨r, hr⟩ := State.topJava?_eq_some.mp hg
  have hr' : (s.setVm vm').frames = .java g₀ :: r := hr
  have hfs : ∀ (F G : List Frame), ((s.setFrames F).setVm vm').setFrames G = (s.setVm vm').setFrames G := fun F G => by
    have h1 : (s.setFrames F).setVm vm' = (s.setVm vm').setFrames F := rfl
    rw [h1, State.setFrames_setFrames]
  rw [State.setTop_of_frames _ hr'] at hrest
  rw [hr, List.tail_cons, State.pushFrame, State.setTop_of_frames _ hr, State.setFrames_setFrames, hfs]
  exact hrest
section XST
variable {p : Program} {l : Launch} {e : Env} {R : Room} {s : State} {m : MethodId} {args : Array Value} {below : List Frame} {meth : Method} {c : Code} {T : State} {locs : List Loc} {cells slots : Nat}
/-- the first entry is the exception's own class -/
theorem x_catch1 (X : Stand p l e R s m args below meth c T locs cells slots) (a : Addr) {g : JFrame} (hg : g.method = m) {own name : String} (hown : s.vm.findClass own = some m.cls) {x : ExceptionTableEntry} {rest : List ExceptionTableEntry} (ht : c.exceptionTable.toList = x :: rest) (hx : covers x g.pc = true) (h0 : x.catchType ≠ 0)
    (hlink : (Cond.classLink own x.catchType name).before args s = true) {cT : ClassId} {cell : Cell} (hcT : s.vm.findClass name = some cT) (hcell : T.heap[a]? = some cell) (hobj : ∀ k, cell.vm ≠ .statics k) (hk : ∃ k, T.vm.classes[cell.cls]? = some k) (hfit : s.vm.assignable cell.cls cT = true) :
    ∃ vm', Stand p l e R s m args below meth c (T.setVm vm') locs cells slots ∧ ∀ target, Steps p.tables e below ((T.setVm vm').setTop { g with pc := x.handlerPc, stack := [.ref a] }) target → Steps p.tables e below ((T.setTop g).pushFrame (.throwing a)) target := by
  have hpl : e.platform.magicAccessors = ({} : Platform).magicAccessors := by rw [X.admits.platform]
  obtain ⟨c', hc', hcl⟩ := Cond.classLink_spec hown hlink e.platform hpl
  cases hcT.symm.trans hc'
  obtain ⟨dk, _, _, kt, hd, _, _, _, _, hkt, _, hopen⟩ := hcl.here
  have hcl₀ := X.warmed.classLinks hcl
  have hW' : s.WarmedH (T.vm.noted m.cls x.catchType (.cls cT)) := X.warmed.noted hd hopen (State.rightAt_cls hcl)
  have hal := X.warmed.alike
  obtain ⟨kt', hkt', -⟩ := hal.2.2 _ _ hkt
  have hfit' : T.vm.assignable cell.cls cT = true := by rw [hal.assignable]; exact hfit
  refine ⟨_, X.noted hW', fun target hrest => ?_⟩
  subst hg
  refine x_caught X.here ?_ hrest
  intro Q E d acts
  rw [Jvm.W.findHandler_eq (s := (T.setTop g).pushFrame (.throwing a)) (meth := meth) (code := c) X.method' X.code, ht]
  refine Iff.trans (xgo_link (s := (T.setTop g).pushFrame (.throwing a)) (c := cT) (cell := cell) hx h0 hcl₀ hcell hobj hk ⟨kt', hkt'⟩) ?_
  rw [if_pos (show ((T.setTop g).pushFrame (.throwing a)).vm.assignable cell.cls cT = true from hfit')]
  exact Iff.rfl
/-- the first entry is of a class that the exception's is not, the second its own -/
theorem x_catch2 (X : Stand p l e R s m args below meth c T locs cells slots) (a : Addr) {g : JFrame} (hg : g.method = m) {own name name1 : String} (hown : s.vm.findClass own = some m.cls) {x1 x : ExceptionTableEntry} {rest : List ExceptionTableEntry} (ht : c.exceptionTable.toList = x1 :: x :: rest) (hx1 : covers x1 g.pc = true) (h01 : x1.catchType ≠ 0) (hx : covers x g.pc = true) (h0 : x.catchType ≠ 0)
    (hlink1 : (Cond.classLink own x1.catchType name1).before args s = true) (hlink : (Cond.classLink own x.catchType name).before args s = true) {cT cT1 : ClassId} {cell : Cell} (hcT1 : s.vm.findClass name1 = some cT1) (hcT : s.vm.findClass name = some cT) (hcell : T.heap[a]? = some cell) (hobj : ∀ k, cell.vm ≠ .statics k) (hk : ∃ k, T.vm.classes[cell.cls]? = some k) (hno : s.vm.assignable cell.cls cT1 = false) (hfit : s.vm.assignable cell.cls cT = true) :
    ∃ vm', Stand p l e R s m args below meth c (T.setVm vm') locs cells slots ∧ ∀ target, Steps p.tables e below ((T.setVm vm').setTop { g with pc := x.handlerPc, stack := [.ref a] }) target → Steps p.tables e below ((T.setTop g).pushFrame (.throwing a)) target := by
  have hpl : e.platform.magicAccessors = ({} : Platform).magicAccessors := by rw [X.admits.platform]
  obtain ⟨c1', hc1', hcl1⟩ := Cond.classLink_spec hown hlink1 e.platform hpl
  cases hcT1.symm.trans hc1'
  obtain ⟨c', hc', hcl⟩ := Cond.classLink_spec hown hlink e.platform hpl
  cases hcT.symm.trans hc'
  obtain ⟨dk1, _, _, kt1, hd1, _, _, _, _, hkt1, _, hopen1⟩ := hcl1.here
  obtain ⟨dk, _, _, kt, hd, _, _, _, _, hkt, _, hopen⟩ := hcl.here
  have hW1 : s.WarmedH (T.vm.noted m.cls x1.catchType (.cls cT1)) := X.warmed.noted hd1 hopen1 (State.rightAt_cls hcl1)
  have hW' : s.WarmedH ((T.vm.noted m.cls x1.catchType (.cls cT1)).noted m.cls x.catchType (.cls cT)) := hW1.noted hd hopen (State.rightAt_cls hcl)
  have hal := X.warmed.alike
  have hal1 := hW1.alike
  have halT : T.vm.Alike (T.vm.noted m.cls x1.catchType (.cls cT1)) := hal.symm.trans hal1
  obtain ⟨kt1', hkt1', -⟩ := hal.2.2 _ _ hkt1
  obtain ⟨kt', hkt', -⟩ := hal1.2.2 _ _ hkt
  have hno' : T.vm.assignable cell.cls cT1 = false := by rw [hal.assignable]; exact hno
  have hfit' : (T.vm.noted m.cls x1.catchType (.cls cT1)).assignable cell.cls cT = true := by rw [hal1.assignable]; exact hfit
  obtain ⟨k0, hk0⟩ := hk
  obtain ⟨k0', hk0', -⟩ := halT.2.2 _ _ hk0
  refine ⟨_, X.noted hW', fun target hrest => ?_⟩
  subst hg
  refine x_caught X.here ?_ hrest
  intro Q E d acts
  rw [Jvm.W.findHandler_eq (s := (T.setTop g).pushFrame (.throwing a)) (meth := meth) (code := c) X.method' X.code, ht]
  refine Iff.trans (xgo_link (s := (T.setTop g).pushFrame (.throwing a)) (c := cT1) (cell := cell) hx1 h01 (X.warmed.classLinks hcl1) hcell hobj ⟨k0, hk0⟩ ⟨kt1', hkt1'⟩) ?_
  have hno2 : ((T.setTop g).pushFrame (.throwing a)).vm.assignable cell.cls cT1 = false := hno'
  rw [if_neg (by rw [hno2]; decide)]
  refine Iff.trans (xgo_link (s := ((T.setTop g).pushFrame (.throwing a)).setVm (T.vm.noted g.method.cls x1.catchType (.cls cT1))) (c := cT) (cell := cell) hx h0 (hW1.classLinks hcl) hcell hobj ⟨k0', hk0'⟩ ⟨kt', hkt'⟩) ?_
  rw [if_pos (show (((T.setTop g).pushFrame (.throwing a)).setVm (T.vm.noted g.method.cls x1.catchType (.cls cT1))).vm.assignable cell.cls cT = true from hfit')]
  exact Iff.rfl
end XST
