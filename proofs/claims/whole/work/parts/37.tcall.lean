/-! calls that end in a throw; the law's helpers -/
def XQT (D : va_G) (K : Nat → ClassId) (A : Nat → Prop) (ad0 : Nat → Nat → Nat) (k0 : Nat → Nat) (ex : Nat) (M' : XM) (mc ms : Nat) : Array Value → State → Outcome → State → Prop := fun _ s oc t =>
  ∃ (x : Addr) (ce : Cell) (k : Class) (ad' : Nat → Nat → Nat), oc = .threw x ∧ t.heap[x]? = some ce ∧ (∀ z, ce.vm ≠ .statics z) ∧ t.vm.findClass (xex ex) = some ce.cls ∧ t.vm.classes[ce.cls]? = some k ∧ ((∀ q : XR, q.2 < k0 q.1 → ad' q.1 q.2 = ad0 q.1 q.2) ∧ (∀ i, k0 i ≤ M'.2.2.2.1 i) ∧ (∀ i, xkt i = 5 → M'.2.2.2.1 i = k0 i)) ∧ XRel D K t A ad' M' t.heap ∧ va_F A s t ∧ s.WarmedH t.vm ∧ ∃ L, s.sameButNew ({ t with vm := s.vm } : State) L mc ms ∧ ∀ q ∈ L, A q.base
theorem xmetT {z : Nat} {as : List XV} {M M1 : XM} {ex : Nat} {l : Launch} {D : va_G} {K : Nat → ClassId} {ad : Nat → Nat → Nat} {sz : Nat} (hG : XG z 0 (xent (xml z) as) [] M (.inr ex) M1) (hp : plainName (xyn z).cls = true) (hfit : xsum as ≤ xml z) (hok : XSt M.2.2.2.1 as) (hfl : l.flags = flags0) (htab : xtab z = []) :
    MetFree l (xyn z) (headSpec (xws z) { frames := xdp z, cells := M1.2.2.2.2.2.1 - M.2.2.2.2.2.1, slots := M1.2.2.2.2.2.2 - M.2.2.2.2.2.2, locals := xlo z }) (va_Pc (as.map (tv ad)) (XPre D K ad M sz)) (fun _ _ _ _ _ => True) (XQT D K (XA ad M sz) ad M.2.2.2.1 ex M1 (M1.2.2.2.2.2.1 - M.2.2.2.2.2.1) (M1.2.2.2.2.2.2 - M.2.2.2.2.2.2)) := by
  refine MetFree.of_bodyS (code := xby z) (maxLocals := xml z) (ret := xrty z) hp ?_ ?_
  · intro args s m h hn
    obtain ⟨meth, c, h1, h2, h3, h4, h5, h6, -, -⟩ := Cond.code_spec hn (atoms_spec (ws := xws z) h _ List.mem_cons_self)
    exact ⟨meth, c, h1, h2, h3, h4, h5, h6⟩
  · intro p e s m args below meth c s₁ B hml hv _
    obtain ⟨rfl, hsz, X, hK, hN, hSx, hZt⟩ := hv
    subst hsz
    have hA : ∀ q : Nat, s.heap.size ≤ q → XA ad M s.heap.size q := fun q hq => Or.inr hq
    have hts : ∀ w ∈ xall, w.before (as.map (tv ad)).toArray s = true := fun w hw => atoms_spec (ws := xws z) B.pre w (List.mem_cons_of_mem _ hw)
    have htb : c.exceptionTable.toList = tableOf (xtab z) := by
      have h1 := B.noHandlers (atoms_spec (ws := xws z) B.pre _ List.mem_cons_self)
      have h2 : c.exceptionTable = #[] := by simpa using h1
      rw [h2, htab]
      rfl
    have hown : s.vm.findClass (xyn z).cls = some m.cls := findClass_of_methodNamed B.named
    have hin : xini z = true → meth.name = "<init>" := fun hz => ((name_of_methodNamed B.named B.method).1).trans (of_decide_eq_true hz)
    have hl := lv_entry (as.map (tv ad)) (n := xml z) (by rw [sl_len]; exact hfit)
    rw [lg_entry_eq]
    generalize (lg_sl (as.map (tv ad)) ++ List.replicate (xml z - (lg_sl (as.map (tv ad))).length) Slot.unset).toArray = ls at hl ⊢
    have hL : XLs ad M.2.2.2.1 (xent (xml z) as) ls := by
      refine ⟨by rw [xent_len _ _ hfit]; exact hl.1, hl.2.1, fun i v hi => ?_⟩
      obtain ⟨g1, g2⟩ := xent_get ad as (xml z) 0 i v hi
      rw [Nat.zero_add] at g1
      exact ⟨hl.2.2 _ g1, hok v g2⟩
    have k := hG.2 p l e (headSpec (xws z) { frames := xdp z, cells := M1.2.2.2.2.2.1 - M.2.2.2.2.2.1, slots := M1.2.2.2.2.2.2 - M.2.2.2.2.2.2, locals := xlo z }).room s m (as.map (tv ad)).toArray below meth c D K (XA ad M s.heap.size) ad M.2.2.2.1 M.2.2.2.2.2.1 M.2.2.2.2.2.2 ad s.heap [] ls
      ⟨⟨B.exec, B.bytes, hml, B.returns, hts, hown, B.notSynchronized, hin, hK, hN, Nat.le_refl _, Nat.le_refl _, hA, fun q cell h1 h2 => xA_stat X h1 h2, hSx, hZt, hfl, fun _ => htb⟩, X, va_S.rf, hL, fun v hv => (by cases hv), xent_len _ _ hfit, ⟨fun _ _ => rfl, fun _ => Nat.le_refl _, fun _ _ => rfl⟩, ⟨Nat.le_refl _, Nat.le_refl _, Nat.le_refl _, Nat.le_refl _⟩⟩
    rw [Nat.sub_self, Nat.sub_self] at k
    have hh0 : s₁.heap = s.heap := by rw [B.state]; rfl
    obtain ⟨t, a1, x, ce, kc, ad', r1, r2, r3⟩ := k s₁ hh0 (Stand.of_body B)
    exact ⟨t, .threw x, a1, r1, r2, x, ce, kc, ad', rfl, r3⟩
section XCT
variable {p : Program} {l : Launch} {e : Env} {R : Room} {s : State} {m : MethodId} {args : Array Value} {below : List Frame} {meth : Method} {c : Code} {T : State} {locs : List Loc} {cells slots : Nat}
theorem x_callT (X : Stand p l e R s m args below meth c T locs cells slots) (hexec : p.tables.exec = Jvm.exec) {own C : String} {index : Nat} {y : MethodName} {bytes : ByteArray} {maxL : Nat} {ret : Option FieldType} {ws : List Cond} {rm : Room} {Pc : Array Value → State → Prop} {Q : Array Value → State → Outcome → State → Prop}
    (hown : s.vm.findClass own = some m.cls) (hlink : (Cond.methodLink own index y).before args s = true) (hinst : (Cond.instanceMethod y).before args s = true) (hsel : (Cond.selects C y y).before args s = true) (hcode : (Cond.code y bytes maxL ret).before args s = true) (hcode2 : Cond.code y bytes maxL ret ∈ ws) (hini : (Cond.initialized y.cls).before args s = true) (hy : y.cls ≠ "java/lang/invoke/MethodHandle" ∧ y.cls ≠ "java/lang/invoke/VarHandle")
    (hM : MetFree l y (headSpec ws rm) Pc (fun _ _ _ _ _ => True) Q) (hws : ∀ w ∈ ws, ∀ (a' : Array Value) (U : State), s.WarmedH U.vm → w.before a' U = true) (hR : rm.frames + 1 ≤ R.frames ∧ 8 + (maxL + 11) + rm.locals ≤ R.locals) (hc : cells + rm.cells ≤ R.cells) (hs : slots + rm.slots ≤ R.slots)
    {b : Addr} {cellB : Cell} (hcell : T.heap[b]? = some cellB) (hobj : cellB.vm.isStatics = false) (hcls : s.vm.findClass C = some cellB.cls) {g : JFrame} (hg : g.method = m) (hsize : g.locals.size = c.maxLocals) {argsL rest : List Value} (hlen : ∀ sig, parseMethodDescriptor y.desc = some sig → argsL.length = sig.parameters.length)
    (hstack : g.stack = argsL.reverse ++ .ref b :: rest) (hW : 2 * g.monitorRoom + (rest.map fun v => v.category).sum ≤ 8) (hdg : decode c.code g.pc = .ok (.invokevirtual index, 3)) (hblind : FrameBlind Pc) (hpre : ∀ U : State, U.heap = T.heap → s.WarmedH U.vm → Pc (Value.ref b :: argsL).toArray U) :
    ∃ (mk : MethodId) (vm₁ : Vm) (o : Outcome) (s₂ : State), Stand p l e R s m args below meth c (T.setVm vm₁) locs cells slots ∧ Q (Value.ref b :: argsL).toArray ((T.setVm vm₁).calling { g with stack := rest } mk (Value.ref b :: argsL).toArray) o s₂ ∧ Ended s₂ (.java { g with stack := rest } :: below) o ∧ ∀ target, Steps p.tables e below s₂ target → Steps p.tables e below (T.setTop g) target := by
  obtain ⟨mk, methM, hnamed, hmethM, hstM, habM⟩ := Cond.instanceMethod_spec hinst
  obtain ⟨methM', cM, hmethM', -, -, -, -, -, -, hsigM⟩ := Cond.code_spec hnamed hcode
  cases hmethM.symm.trans hmethM'
  obtain ⟨c2, r2, m2, q1, q2, q3, q4, kP, hkP, hkPi⟩ := Cond.selects_spec hsel
  cases hcls.symm.trans q1
  cases (State.methodFound?_of_named hnamed hy).symm.trans q2
  cases hnamed.symm.trans q3
  have hselP : selectMethod e.platform s.vm cellB.cls mk = .method mk := by rw [Launch.admits_selectMethod X.admits]; exact q4
  obtain ⟨vm₁, X₁, hstep₁⟩ := X.invokevirtual hexec hown hlink hnamed hmethM hstM hkP hkPi hy (a := b) (cell := cellB) hcell
    (fun z h => by rw [h] at hobj; cases hobj) hselP hmethM habM hkP hkPi (g := g) hg (argsL := argsL) (rest := rest) (hlen _ hsigM) hstack hdg
  have hn := X₁.named hnamed
  have h2 := hws _ hcode2 (Value.ref b :: argsL).toArray (T.setVm vm₁) X₁.warmed
  obtain ⟨methY, cY, hmY, hcY, -, hlY, -, -, -, -⟩ := Cond.code_spec hn h2
  obtain ⟨kY, hkY, -⟩ := className_of_methodNamed hn
  have hini' : (Cond.initialized y.cls).before (Value.ref b :: argsL).toArray (T.setVm vm₁) = true := word_at X₁.warmed (Or.inl rfl) hini
  have hinitY : kY.init = .initialized := Cond.initialized_spec (findClass_of_methodNamed hn) hkY hini'
  have h : At (T.setVm vm₁) ({ g with stack := rest } : JFrame).method c below := by rw [show ({ g with stack := rest } : JFrame).method = m from hg]; exact X₁.here
  have happ : (headSpec ws rm).appliesLoose y e.platform ((T.setVm vm₁).calling { g with stack := rest } mk (Value.ref b :: argsL).toArray) = true :=
    Spec.appliesLoose_calling (g := { g with stack := rest }) h hdg hn hkY hinitY (X₁.room_calling (g := { g with stack := rest }) (R' := rm) hsize hmY hcY hR.1 (by rw [hlY]; have := hR.2; show 2 * g.monitorRoom + (rest.map fun v => v.category).sum + (maxL + 11) + rm.locals ≤ R.locals; omega) hc hs) (atoms_intro fun w hw => hws w hw _ _ X₁.warmed)
  obtain ⟨mid, hmid⟩ := h.above
  have hfr : ((T.setVm vm₁).setTop { g with stack := rest }).frames = (.java { g with stack := rest } :: mid) ++ below := by rw [State.frames_setTop' _ h.top, hmid]; rfl
  obtain ⟨o, s₂, hsteps, -, hend, hq⟩ := Steps.callFree hM p X.admits X.cas X.clock (acts := []) hfr happ (hblind _ _ _ _ (hpre (T.setVm vm₁) rfl X₁.warmed)) trivial
  rw [State.frames_setTop' _ h.top, X₁.tail] at hend
  exact ⟨mk, vm₁, o, s₂, X₁, hq, hend, fun target ht => hstep₁ _ fun acts => by rw [doInvoke_state]; exact hsteps.trans ht⟩
end XCT
