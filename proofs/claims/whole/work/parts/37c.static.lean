def xwsW (z : Nat) : List Cond := Cond.codeWith (xyn z) (xby z) (xml z) (xrty z) (xtab z) :: xall
def XZW (z : Nat) : Prop := plainName (xyn z).cls = true ∧ Cond.codeWith (xyn z) (xby z) (xml z) (xrty z) (xtab z) ∈ xall ∧ (xyn z).cls ≠ "java/lang/invoke/MethodHandle" ∧ (xyn z).cls ≠ "java/lang/invoke/VarHandle"
theorem xmetW {z : Nat} {as : List XV} {M M1 : XM} {rv : Option XV} {l : Launch} {D : va_G} {K : Nat → ClassId} {ad : Nat → Nat → Nat} {sz : Nat} (hG : XG z 0 (xent (xml z) as) [] M (.inl rv) M1) (hp : plainName (xyn z).cls = true) (hfit : xsum as ≤ xml z) (hok : XSt M.2.2.2.1 as) (hfl : l.flags = flags0) :
    MetFree l (xyn z) (headSpec (xwsW z) { frames := xdp z, cells := M1.2.2.2.2.2.1 - M.2.2.2.2.2.1, slots := M1.2.2.2.2.2.2 - M.2.2.2.2.2.2, locals := xlo z }) (va_Pc (as.map (tv ad)) (XPre D K ad M sz)) (fun _ _ _ _ _ => True)
      (fun a st o t => XQ D K (XA ad M sz) ad M.2.2.2.1 rv M1 a st o t ∧ ∃ L, FrameEnd st o t L (M1.2.2.2.2.2.1 - M.2.2.2.2.2.1) (M1.2.2.2.2.2.2 - M.2.2.2.2.2.2) ∧ ∀ q ∈ L, XA ad M sz q.base) := by
  refine MetFree.of_bodyS (code := xby z) (maxLocals := xml z) (ret := xrty z) hp ?_ ?_
  · intro args s m h hn
    obtain ⟨m', meth, c, h0, h1, h2, h3, h4, -, h5, h6, -⟩ := Cond.codeWith_spec (atoms_spec (ws := xwsW z) h _ List.mem_cons_self)
    cases hn.symm.trans h0
    exact ⟨meth, c, h1, h2, h3, h4, h5, h6⟩
  · intro p e s m args below meth c s₁ B hml hv _
    obtain ⟨rfl, hsz, X, hK, hN, hSx, hZt⟩ := hv
    subst hsz
    have hA : ∀ q : Nat, s.heap.size ≤ q → XA ad M s.heap.size q := fun q hq => Or.inr hq
    have hts : ∀ w ∈ xall, w.before (as.map (tv ad)).toArray s = true := fun w hw => atoms_spec (ws := xwsW z) B.pre w (List.mem_cons_of_mem _ hw)
    have htb : c.exceptionTable.toList = tableOf (xtab z) := by
      obtain ⟨m', meth', c', h0, h1, h2, -, -, h3, -, -, -⟩ := Cond.codeWith_spec (atoms_spec (ws := xwsW z) B.pre _ List.mem_cons_self)
      cases B.named.symm.trans h0
      cases B.method.symm.trans h1
      cases (Stand.of_body B).code.symm.trans h2
      rw [← h3, table_eq]
    have hown : s.vm.findClass (xyn z).cls = some m.cls := findClass_of_methodNamed B.named
    have hin : xini z = true → meth.name = "<init>" := fun hz => ((name_of_methodNamed B.named B.method).1).trans (of_decide_eq_true hz)
    have hl := lv_entry (as.map (tv ad)) (n := xml z) (by rw [sl_len]; exact hfit)
    rw [lg_entry_eq]
    generalize (lg_sl (as.map (tv ad)) ++ List.replicate (xml z - (lg_sl (as.map (tv ad))).length) Slot.unset).toArray = ls at hl ⊢
    have hL : XLs ad M.2.2.2.1 (xent (xml z) as) ls := by
      refine ⟨by rw [xent_len _ _ hfit]; exact hl.1, hl.2.1, fun i v hi => ?_⟩
      obtain ⟨g1, g2⟩ := xent_get ad as (xml z) 0 i v hi
      rw [Nat.zero_add] at g1
      exact ⟨hl.2.2 _ g1, hok v g2⟩
    have k := hG.2 p l e (headSpec (xwsW z) { frames := xdp z, cells := M1.2.2.2.2.2.1 - M.2.2.2.2.2.1, slots := M1.2.2.2.2.2.2 - M.2.2.2.2.2.2, locals := xlo z }).room s m (as.map (tv ad)).toArray below meth c D K (XA ad M s.heap.size) ad M.2.2.2.1 M.2.2.2.2.2.1 M.2.2.2.2.2.2 ad s.heap [] ls
      ⟨⟨B.exec, B.bytes, hml, B.returns, hts, hown, B.notSynchronized, hin, hK, hN, Nat.le_refl _, Nat.le_refl _, hA, fun q cell h1 h2 => xA_stat X h1 h2, hSx, hZt, hfl, fun _ => htb⟩, X, va_S.rf, hL, fun v hv => (by cases hv), xent_len _ _ hfit, ⟨fun _ _ => rfl, fun _ => Nat.le_refl _, fun _ _ => rfl⟩, ⟨Nat.le_refl _, Nat.le_refl _, Nat.le_refl _, Nat.le_refl _⟩⟩
    rw [Nat.sub_self, Nat.sub_self] at k
    have hh0 : s₁.heap = s.heap := by rw [B.state]; rfl
    obtain ⟨t, a1, o, r1, r2, r3, r4⟩ := k s₁ hh0 (Stand.of_body B)
    exact ⟨t, o, a1, r1, r2, r3, r4⟩
section XCS
variable {p : Program} {l : Launch} {e : Env} {R : Room} {s : State} {m : MethodId} {args : Array Value} {below : List Frame} {meth : Method} {c : Code} {T : State} {locs : List Loc} {cells slots : Nat}
theorem x_callSW (X : Stand p l e R s m args below meth c T locs cells slots) (hexec : p.tables.exec = Jvm.exec) {own : String} {index : Nat} {y : MethodName} {bytes : ByteArray} {maxL : Nat} {ret : Option FieldType} {hd0 : List (Nat × Nat × Nat × Nat)} {ws : List Cond} {rm : Room} {Pc : Array Value → State → Prop} {Q : Array Value → State → Outcome → State → Prop}
    (hown : s.vm.findClass own = some m.cls) (hlink : (Cond.methodLink own index y).before args s = true) (hstat : (Cond.static y).before args s = true) (hcode : (Cond.codeWith y bytes maxL ret hd0).before args s = true) (hcode2 : Cond.codeWith y bytes maxL ret hd0 ∈ ws) (hini : (Cond.initialized y.cls).before args s = true) (hy : y.cls ≠ "java/lang/invoke/MethodHandle" ∧ y.cls ≠ "java/lang/invoke/VarHandle")
    (hM : MetFree l y (headSpec ws rm) Pc (fun _ _ _ _ _ => True) Q) (hws : ∀ w ∈ ws, ∀ (a' : Array Value) (U : State), s.WarmedH U.vm → w.before a' U = true) (hR : rm.frames + 1 ≤ R.frames ∧ 8 + (maxL + 11) + rm.locals ≤ R.locals) (hc : cells + rm.cells ≤ R.cells) (hs : slots + rm.slots ≤ R.slots)
    {g : JFrame} (hg : g.method = m) (hsize : g.locals.size = c.maxLocals) {argsL rest : List Value} (hlen : ∀ sig, parseMethodDescriptor y.desc = some sig → argsL.length = sig.parameters.length)
    (hstack : g.stack = argsL.reverse ++ rest) (hW : 2 * g.monitorRoom + (rest.map fun v => v.category).sum ≤ 8) (hdg : decode c.code g.pc = .ok (.invokestatic index, 3)) (hblind : FrameBlind Pc) (hpre : ∀ U : State, U.heap = T.heap → s.WarmedH U.vm → Pc argsL.toArray U) :
    ∃ (mk : MethodId) (vm₁ : Vm) (o : Outcome) (s₂ : State), Stand p l e R s m args below meth c (T.setVm vm₁) locs cells slots ∧ Q argsL.toArray ((T.setVm vm₁).calling { g with stack := rest } mk argsL.toArray) o s₂ ∧ Ended s₂ (.java { g with stack := rest } :: below) o ∧ ∀ target, Steps p.tables e below s₂ target → Steps p.tables e below (T.setTop g) target := by
  obtain ⟨mk, methM, cM, hnamed, hmethM, -, -, -, -, -, -, hsigM⟩ := Cond.codeWith_spec hcode
  have hstatic : methM.isStatic = true := Cond.static_spec hnamed hmethM hstat
  obtain ⟨kP, hkP, -⟩ := className_of_methodNamed hnamed
  have hinitP : kP.init = .initialized := Cond.initialized_spec (findClass_of_methodNamed hnamed) hkP hini
  obtain ⟨vm₁, X₁, hstep₁⟩ := X.invokestatic hexec hown hlink hnamed hmethM hstatic hkP hinitP hy (g := g) hg (argsL := argsL) (rest := rest) (hlen _ hsigM) hstack hdg
  have hn := X₁.named hnamed
  have h2 := hws _ hcode2 argsL.toArray (T.setVm vm₁) X₁.warmed
  obtain ⟨m', methY, cY, h0, hmY, hcY, -, hlY, -, -, -, -⟩ := Cond.codeWith_spec h2
  cases hn.symm.trans h0
  obtain ⟨kY, hkY, -⟩ := className_of_methodNamed hn
  have hini' : (Cond.initialized y.cls).before argsL.toArray (T.setVm vm₁) = true := word_at X₁.warmed (Or.inl rfl) hini
  have hinitY : kY.init = .initialized := Cond.initialized_spec (findClass_of_methodNamed hn) hkY hini'
  have h : At (T.setVm vm₁) ({ g with stack := rest } : JFrame).method c below := by rw [show ({ g with stack := rest } : JFrame).method = m from hg]; exact X₁.here
  have happ : (headSpec ws rm).appliesLoose y e.platform ((T.setVm vm₁).calling { g with stack := rest } mk argsL.toArray) = true :=
    Spec.appliesLoose_calling (g := { g with stack := rest }) h hdg hn hkY hinitY (X₁.room_calling (g := { g with stack := rest }) (R' := rm) hsize hmY hcY hR.1 (by rw [hlY]; have := hR.2; show 2 * g.monitorRoom + (rest.map fun v => v.category).sum + (maxL + 11) + rm.locals ≤ R.locals; omega) hc hs) (atoms_intro fun w hw => hws w hw _ _ X₁.warmed)
  obtain ⟨mid, hmid⟩ := h.above
  have hfr : ((T.setVm vm₁).setTop { g with stack := rest }).frames = (.java { g with stack := rest } :: mid) ++ below := by rw [State.frames_setTop' _ h.top, hmid]; rfl
  obtain ⟨o, s₂, hsteps, -, hend, hq⟩ := Steps.callFree hM p X.admits X.cas X.clock (acts := []) hfr happ (hblind _ _ _ _ (hpre (T.setVm vm₁) rfl X₁.warmed)) trivial
  rw [State.frames_setTop' _ h.top, X₁.tail] at hend
  exact ⟨mk, vm₁, o, s₂, X₁, hq, hend, fun target ht => hstep₁ _ fun acts => by rw [doInvoke_state]; exact hsteps.trans ht⟩
end XCS
theorem sd_callSW {y pc index z n : Nat} (hd : decode (xby y) pc = .ok (.invokestatic index, 3)) (hZ : XZW z) (hl : Cond.methodLink (xown y) index (xyn z) ∈ xall) (hi : Cond.static (xyn z) ∈ xall) (hini : Cond.initialized (xyn z).cls ∈ xall) (hn : xmn z = n) (hdn : (parseMethodDescriptor (xyn z).desc).map (fun d => d.parameters.length) = some n) (hnh : ∀ e, xhd y pc e = none) : Snd y pc (fun _ st _ => xo_call false y z st) := by
  intro f lv st M o M' h IH
  obtain ⟨as, r, rv, M1, ha, hdp, hlo, hr8, hfit, hrec, hz, hnx⟩ := xcall_split h hnh
  have GZ := IH _ _ _ _ _ _ _ hz
  have GN := IH _ _ _ _ _ _ _ hnx
  have m1 := GZ.1
  have m2 := GN.1
  refine ⟨⟨by omega, by omega⟩, ?_⟩
  intro p l e R s m args below meth c D K A ad0 k0 c0 w0 ad H locs ls B
  have B0 := B
  obtain ⟨C0, X, hS, hL, hst, hlen, hag, hcw⟩ := B0
  obtain ⟨pre, e1, e2, e3⟩ := xargs_spec _ _ _ _ _ ha
  rw [List.append_nil] at e2
  have hok : XSt M.2.2.2.1 as := fun v hv => hst v (by rw [e1]; exact List.mem_append_left _ (by rw [e2] at hv; exact List.mem_reverse.mp hv))
  have hrok : XSt M.2.2.2.1 r := fun v hv => hst v (by rw [e1]; exact List.mem_append_right _ hv)
  have hM := xmetW (l := l) (D := D) (K := K) (ad := ad) (sz := H.size) GZ hZ.1 hfit hok C0.2.2.2.2.2.2.2.2.2.2.2.2.2.2.2.2.1
  have hts := C0.2.2.2.2.1
  have hA := C0.2.2.2.2.2.2.2.2.2.2.2.2.1
  have hR1 := C0.2.2.2.2.2.2.2.2.2.2.1
  have hR2 := C0.2.2.2.2.2.2.2.2.2.2.2.1
  have epre : pre = as.reverse := by rw [e2, List.reverse_reverse]
  have hlenA : as.length = n := by
    have h3 : pre.length = as.length := by rw [epre]; simp
    omega
  have hG : GoodIn xall (xwsW z) := by
    intro w hw
    rcases List.mem_cons.mp hw with rfl | hw
    · exact ⟨hZ.2.1, xall_good _ hZ.2.1⟩
    · exact ⟨hw, xall_good _ hw⟩
  intro T0 hT S
  obtain ⟨mk, vm₁, oc, s₂, S₁, ⟨hQ, L, ⟨⟨v, rfl⟩, hW2, hsame⟩, hLf⟩, hend, hgo⟩ := x_callSW S C0.1 (own := xown y) (bytes := xby z) (maxL := xml z) (ret := xrty z) (hd0 := xtab z) (ws := xwsW z) C0.2.2.2.2.2.1 (hts _ hl) (hts _ hi) (hts _ hZ.2.1) List.mem_cons_self (hts _ hini) ⟨hZ.2.2.1, hZ.2.2.2⟩ hM (pay_in hts hG) ⟨by show xdp z + 1 ≤ R.frames; omega, by show 8 + (xml z + 11) + xlo z ≤ R.locals; omega⟩ (by show _ + (M1.2.2.2.2.2.1 - M.2.2.2.2.2.1) ≤ R.cells; omega) (by show _ + (M1.2.2.2.2.2.2 - M.2.2.2.2.2.2) ≤ R.slots; omega) (g := F0 m pc ls (st.map (tv ad))) rfl (by show ls.size = _; rw [C0.2.2.1, ← hlen]; exact hL.1) (argsL := as.map (tv ad)) (rest := r.map (tv ad))
    (fun sig hsig => by rw [hsig] at hdn; rw [List.length_map, hlenA]; exact (Option.some.inj hdn).symm) (by show st.map (tv ad) = _; rw [e1, epre]; simp) (lv_room (m := m) (pc := pc) (ls := ls) (rest := st.map (tv ad)) (by rw [xsum_cat]; exact hr8)) (by rw [C0.2.1]; exact hd) xblind (fun U hU hW => ⟨rfl, xpre_at X hS C0.2.2.2.2.2.2.2.2.1 C0.2.2.2.2.2.2.2.2.2.1 hA C0.2.2.2.2.2.2.2.2.2.2.2.2.2.2.1 C0.2.2.2.2.2.2.2.2.2.2.2.2.2.2.2.1 (hU.trans hT) hW⟩)
  obtain ⟨⟨ad', g1, g2, g6, X2, g4, g5⟩, hF⟩ := hQ
  cases g5
  obtain ⟨T', S', hW3, -, ht⟩ := S₁.outOf (g := { F0 m pc ls (st.map (tv ad)) with stack := r.map (tv ad) }) rfl (ig := .invokestatic index) (len := 3) (by rw [C0.2.1]; exact hd) hend hW2 hsame
  have hheap : s₂.heap = T'.heap := by rw [ht]; simp [State.setTop, State.modifyTopJava]
  have hvm : s₂.vm = T'.vm := by rw [ht]; simp [State.setTop, State.modifyTopJava]
  have hal : s.vm.Alike s₂.vm := by rw [hvm]; exact S'.warmed.alike
  have hsub : ∀ q, XA ad M H.size q → A q := fun q hq => xA_sub X (fun q hq => hA q (Nat.le_trans hS.1 hq)) hq
  have hz0 : H.size ≤ T'.heap.size := by
    have := hF.1
    rw [hheap] at this
    rw [← hT]
    exact this
  have hk0 : ∀ q : Nat, q < H.size → ¬ XA ad M H.size q → T'.heap[q]? = H[q]? := fun q h1 h2 => by
    have := hF.2 q (by show q < T0.heap.size; rw [hT]; exact h1) h2
    rw [hheap] at this
    rw [← hT]
    exact this
  have X3 : XRel D K s A ad' M1 T'.heap := by
    rw [← hheap]
    obtain ⟨⟨ob2, hob2, hP2, hD2⟩, hc2, hs2⟩ := X2.moved hal.symm
    refine ⟨⟨ob2, hob2, hP2, hD2.weaken (fun k q _ h => hsub _ h)⟩, hc2, fun t1 n1 h5 hn1 => ⟨(hs2 t1 n1 h5 hn1).1, ?_⟩⟩
    have hn' : n1 < M.2.2.2.1 t1 := by rw [g6 t1 h5] at hn1; exact hn1
    rw [g1 (t1, n1) hn']
    exact (X.2.2 t1 n1 h5 hn').2
  have hS3 : va_S A s.heap T'.heap (locs ++ L) := ⟨Nat.le_trans hS.1 hz0, fun q h1 h2 => by rw [hk0 q (Nat.lt_of_lt_of_le h1 hS.1) (fun z => h2 (hsub q z))]; exact hS.2.1 q h1 h2, fun q hq => by
    rcases List.mem_append.mp hq with h | h
    · exact hS.2.2 q h
    · exact hsub _ (hLf q h)⟩
  obtain ⟨t2, a1, b1⟩ := xback GN GZ.1 B hrok g1 g2 g6 X3 g4 hS3 T' rfl S'
  exact ⟨t2, hgo _ (by rw [ht]; exact a1), b1⟩
