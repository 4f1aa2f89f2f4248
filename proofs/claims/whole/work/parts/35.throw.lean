/-! a throw: the walk is begun anew where it stands -/
theorem x_rebase {p : Program} {l : Launch} {e : Env} {R : Room} {s : State} {m : MethodId} {args : Array Value} {below : List Frame} {meth : Method} {c : Code} {T : State} {locs : List Loc} {cells slots : Nat} (X : Stand p l e R s m args below meth c T locs cells slots) (hc : cells ≤ R.cells) (hs : slots ≤ R.slots) :
    Stand p l e { frames := R.frames, cells := R.cells - cells, slots := R.slots - slots, locals := R.locals } (T.setFrames (.invoking m args :: below)) m args below meth c T [] 0 0 := by
  obtain ⟨g₀, hfr⟩ := X.frames_eq
  have hcur : T.cur < T.threads.size := State.cur_lt_of_frames hfr
  have hF : (T.setFrames (.invoking m args :: below)).frames = .invoking m args :: below := State.frames_setFrames _ hcur
  have hal := X.warmed.alike
  obtain ⟨th, hth, hthf⟩ := State.frames_cons hfr
  obtain ⟨th2, hth2, -⟩ := State.frames_cons hF
  have hback : (T.setFrames (.invoking m args :: below)).setFrames T.frames = T := by rw [State.setFrames_setFrames, State.setFrames_self hth]
  refine ⟨X.admits, X.cas, X.clock, hF, ?_, ?_, X.method', X.code, X.here, X.tail, State.WarmedH.refl _, (State.stackLimits_setFrames _ _ _).symm, (State.stackBytes_setFrames _ _).symm, ?_⟩
  · have hr := X.room
    have hin1 : s.localsInUse = stackWeight below + vmFrameWords + (c.maxLocals + 11) := State.localsInUse_invoking X.frames X.method X.code
    have hin2 : (T.setFrames (.invoking m args :: below)).localsInUse = stackWeight below + vmFrameWords + (c.maxLocals + 11) := State.localsInUse_invoking hF X.method' X.code
    have h1 := X.heapSize
    have h2 := X.used
    have hl : e.platform.stackLimits (T.setFrames (.invoking m args :: below)).me = e.platform.stackLimits s.me := (State.stackLimits_setFrames _ _ _).trans X.limits
    have hby : (T.setFrames (.invoking m args :: below)).me.stackBytes = s.me.stackBytes := (State.stackBytes_setFrames _ _).trans X.bytes
    have hbk : (T.setFrames (.invoking m args :: below)).slotsTrue = true := X.book
    simp only [State.hasRoom, Bool.and_eq_true, decide_eq_true_eq] at hr ⊢
    rw [X.frames] at hr
    rw [hF, hin2, hl, hby, hbk]
    rw [hin1] at hr
    have h3 : (T.setFrames (.invoking m args :: below)).heap.size = T.heap.size := rfl
    have h4 : (T.setFrames (.invoking m args :: below)).slotsUsed = T.slotsUsed := rfl
    rw [h3, h4]
    refine ⟨⟨⟨⟨hr.1.1.1.1, hr.1.1.1.2⟩, ?_⟩, ?_⟩, rfl⟩
    · have := hr.1.1.2
      show T.heap.size + (R.cells - cells) ≤ _
      omega
    · have := hr.1.2
      show T.slotsUsed + (R.slots - slots) ≤ _
      omega
  · have hh := X.hears
    have hcd : ∀ (fs : List Frame) (mm : MethodId), (T.setFrames fs).code? mm = s.code? mm := fun fs mm => by
      rw [State.code?_eq, State.code?_eq]
      show (T.vm.method? mm).bind _ = _
      rw [hal.method?]
    unfold State.hears at hh ⊢
    split at hh
    · simp only [hcd]
      exact hh
    · rfl
    · rfl
    · show (T.vm.method? m).any _ = true
      rw [hal.method?]
      exact hh
  · have h := (State.sameButNew.refl (T.setFrames (.invoking m args :: below)) hth2).setFrames T.frames (by exact State.cur_lt_of_frames hF)
    rw [hback] at h
    exact h
def xup : List String := ["java/lang/RuntimeException", "java/lang/Exception"]
def x4 : List Cond := [.laysStatic Bundle.tN "UNASSIGNED_STACK" Bundle.steD, .laysStatic Bundle.tN "SUPPRESSED_SENTINEL" Bundle.listD, .isRef (.static Bundle.tN "UNASSIGNED_STACK" Bundle.steD), .isRef (.static Bundle.tN "SUPPRESSED_SENTINEL" Bundle.listD)]
def xoc (ic : Nat) (cls : String) : Bool := (Bundle.ownAtoms "ChartKnitter" ic cls xup).all (fun w => (goodWord w && decide (w ∈ lw_tbl)) || decide (w ∈ xnw) || decide (w ∈ x4))
theorem xnw_use {U : State} {args : Array Value} : ∀ w ∈ xnw, va_Nw w U → w.before args U = true := by
  intro w hw h
  simp only [xnw, List.mem_cons, List.not_mem_nil, or_false] at hw
  rcases hw with rfl | rfl | rfl | rfl | rfl | rfl | rfl | rfl | rfl | rfl | rfl | rfl | rfl | rfl <;> first | exact va_Nw.use rfl h | exact h
theorem XZs.lays {n d : String} {A : Nat → Prop} {U : State} {args : Array Value} (h : XZs n d A U U.heap) : (Cond.laysStatic Bundle.tN n d).before args U = true := by
  obtain ⟨c, i, a, k, f, cell, v, h1, h2, h3, h4, h5, h6, h7, h8, h9, h10, h11, h12⟩ := h
  exact Cond.laysStatic_of h1 h2 h3 h4 h5 h6 h7 h8 h9
theorem XZs.isRef {n d : String} {A : Nat → Prop} {U : State} {args : Array Value} (h : XZs n d A U U.heap) : (Cond.isRef (.static Bundle.tN n d)).before args U = true := by
  obtain ⟨c, i, a, k, f, cell, v, h1, h2, h3, h4, h5, h6, h7, h8, h9, h10, h11, h12⟩ := h
  have hv := Term.static_eval (args := args) (first := U) (o := none) (idx := []) h2 h3 h4 h5 h6 h10
  cases v with
  | null => simp [Cond.before, Cond.holds, Cond.value, hv]
  | ref t => simp [Cond.before, Cond.holds, Cond.value, hv]
  | _ => cases h11
theorem x_own {U : State} {args : Array Value} {A : Nat → Prop} {ic : Nat} {cls : String} (hts : ∀ w ∈ xall, w.before args U = true) (hN : ∀ w ∈ xnw, va_Nw w U) (hZ : XZt A U U.heap) (h : xoc ic cls = true) : ∀ a ∈ Bundle.ownAtoms "ChartKnitter" ic cls xup, a.before args U = true := by
  intro a ha
  have h1 := List.all_eq_true.mp h a ha
  simp only [Bool.or_eq_true, Bool.and_eq_true, decide_eq_true_eq] at h1
  rcases h1 with (h1 | h1) | h1
  · exact hts a (List.mem_filter.mpr ⟨h1.2, h1.1⟩)
  · exact xnw_use a h1 (hN a h1)
  · simp only [x4, List.mem_cons, List.not_mem_nil, or_false] at h1
    rcases h1 with rfl | rfl | rfl | rfl
    · exact hZ.1.lays
    · exact hZ.2.lays
    · exact hZ.1.isRef
    · exact hZ.2.isRef
theorem x_throw {p : Program} {l : Launch} {e : Env} {R : Room} {s : State} {m : MethodId} {args : Array Value} {below : List Frame} {meth : Method} {c : Code} {cc : ByteArray} {pc : Nat} {ls : Array Slot} {st : List Value} {cls tx : String} {idx si ic q : Nat} (hx : p.tables.exec = Jvm.exec) (hb : c.code = cc) (hml : ls.size = c.maxLocals) (hown : s.vm.findClass "ChartKnitter" = some m.cls) (hlocks : meth.locks = false) (hnoh : c.exceptionTable.isEmpty = true) (hfl : l.flags = flags0)
    (w1 : (Cond.classLink "ChartKnitter" idx cls).before args s = true) (w2 : (Cond.instantiable cls 6).before args s = true) (w3 : (Cond.initialized cls).before args s = true) (hat : ∀ a ∈ Bundle.ownAtoms "ChartKnitter" ic cls xup, a.before args s = true) (hfit : Bundle.fit cls = true) (hq : vk_R "ChartKnitter" si tx q s)
    (d0 : decode cc pc = .ok (.new idx, 3)) (d3 : decode cc (pc + 3) = .ok (.dup, 1)) (d4 : decode cc (pc + 4) = .ok (.ldc si, 2)) (d6 : decode cc (pc + 6) = .ok (.invokespecial ic, 3)) (d9 : decode cc (pc + 9) = .ok (.athrow, 1)) (hR : 5 < R.frames) (hRl : (st.map fun v => v.category).sum + 82 ≤ R.locals) (hc1 : 1 ≤ R.cells) (hs6 : 6 ≤ R.slots) :
    W p l e R s m args below meth c s.heap [] 0 0 (fun t => ∃ ce : Cell, t.status = .running ∧ Ended t below (.threw s.heap.size) ∧ t.heap[s.heap.size]? = some ce ∧ Bundle.OwnCell args s cls s.heap.size (.ref q) ce ∧ s.WarmedH t.vm ∧ s.sameButNew ({ t with vm := s.vm } : State) [] 1 6) (F0 m pc ls st) := by
  refine W.newc hx hb hown w1 w2 w3 rfl d0 (by omega) (by omega) (fun cC kC f1 f2 f3 f4 => ?_)
  refine W.eq (g2 := F0 m (pc + 3) ls (.ref s.heap.size :: st)) rfl ?_
  refine lv_dup hx hb d3 rfl ?_
  refine va_ldcS hx hb hown hq d4 ?_
  intro T hT X
  have htr : e.platform.stackTraces = false := Launch.traces_off hfl X.admits
  have hcell : T.heap[s.heap.size]? = some (freshCell cC kC) := by rw [hT]; simp
  have hout : ∀ x ∈ c.exceptionTable.toList, covers x (pc + 6 + 3) = false := by
    intro x hx
    have : c.exceptionTable = #[] := by simpa using hnoh
    rw [this] at hx
    cases hx
  obtain ⟨U, hsteps, hrun, hend, hWU, hsame, ce, hce, O⟩ := X.ctorThrowS hx htr (own := "ChartKnitter") (cls := cls) (names := xup) (ic := ic) hown hfit (by decide +kernel) hat (fun x hx => by cases hx) f1 f2 hcell (Nat.le_refl _) (msg := .ref q) rfl (g := F0 m (pc + 4 + 2) ls (.ref q :: .ref s.heap.size :: .ref s.heap.size :: st)) rfl hml rfl rfl rfl (by rw [hb]; exact d6) (by rw [hb]; exact d9) hout (by show 2 + 3 < R.frames; omega) (by
    simp only [List.map_cons, List.sum_cons]
    show 2 * 0 + (1 + _) + (13 * (2 + 1) + 42) ≤ R.locals
    omega) hlocks
  exact ⟨U, hsteps, ce, hrun, hend, hce, O, hWU, hsame⟩
theorem sd_throw {y pc idx si ic e : Nat} {tx : String} (d0 : decode (xby y) pc = .ok (.new idx, 3)) (d3 : decode (xby y) (pc + 3) = .ok (.dup, 1)) (d4 : decode (xby y) (pc + 4) = .ok (.ldc si, 2)) (d6 : decode (xby y) (pc + 6) = .ok (.invokespecial ic, 3)) (d9 : decode (xby y) (pc + 9) = .ok (.athrow, 1)) (hown : xown y = "ChartKnitter") (hy : y ≠ 117) (htab : xtab y = [])
    (w1 : Cond.classLink "ChartKnitter" idx (xex e) ∈ xall) (w2 : Cond.instantiable (xex e) 6 ∈ xall) (w3 : Cond.initialized (xex e) ∈ xall) (hq : xoc ic (xex e) = true) (hs : (si, tx) ∈ xstr) (hfit : Bundle.fit (xex e) = true) (hd : 6 ≤ xdp y ∧ 100 ≤ xlo y) : Snd y pc (fun _ st M => bif Nat.ble (xsum st) 8 then xo_throw e M else none) := by
  intro f lv st M o M' h IH
  cases hb : Nat.ble (xsum st) 8 with
  | false => dsimp only at h; rw [hb] at h; cases h
  | true =>
    dsimp only at h
    rw [hb, cond_true] at h
    have hst8 : xsum st ≤ 8 := Nat.le_of_ble_eq_true hb
    cases h
    refine ⟨⟨Nat.le_add_right _ _, Nat.le_add_right _ _⟩, ?_⟩
    intro p l e' R s m args below meth c D K A ad0 k0 c0 w0 ad H locs ls B
    obtain ⟨C0, X, hS, hL, hst, hlen, hag, hcw⟩ := B
    have hcw3 : M.2.2.2.2.2.1 + 1 - c0 ≤ R.cells := hcw.2.2.1
    have hcw4 : M.2.2.2.2.2.2 + 6 - w0 ≤ R.slots := hcw.2.2.2
    intro T hT S
    have hcells : M.2.2.2.2.2.1 - c0 ≤ R.cells := by omega
    have hslots : M.2.2.2.2.2.2 - w0 ≤ R.slots := by omega
    have S2 := x_rebase S hcells hslots
    generalize hs2 : T.setFrames (.invoking m args :: below) = s2 at S2
    have hvm2 : s2.vm = T.vm := by rw [← hs2]; rfl
    have hh2 : s2.heap = H := by rw [← hs2]; exact hT
    have hW2 : s.WarmedH s2.vm := by rw [hvm2]; exact S.warmed
    have hts2 : ∀ w ∈ xall, w.before args s2 = true := fun w hw => word_at hW2 (xall_good w hw) (C0.2.2.2.2.1 w hw)
    have hN2 : ∀ w ∈ xnw, va_Nw w s2 := fun w hw => xnw_warm hW2 w hw (C0.2.2.2.2.2.2.2.2.2.1 w hw)
    have hZ2 : XZt A s2 s2.heap := by
      rw [hh2]
      exact (C0.2.2.2.2.2.2.2.2.2.2.2.2.2.2.2.1.kept (fun a ha hn => hS.2.1 a ha hn) (fun q hq => hq)).moved hW2.alike
    obtain ⟨qa, hqa⟩ := C0.2.2.2.2.2.2.2.2.2.2.2.2.2.2.1.1 (si, tx) hs
    have hown2 : s2.vm.findClass "ChartKnitter" = some m.cls := by
      rw [hW2.alike.findClass, ← hown]
      exact C0.2.2.2.2.2.1
    have q7 : c.exceptionTable.isEmpty = true := by
      have h1 := C0.2.2.2.2.2.2.2.2.2.2.2.2.2.2.2.2.2 hy
      rw [htab] at h1
      have h2 : c.exceptionTable.toList = [] := h1
      simpa using h2
    have hR1 := C0.2.2.2.2.2.2.2.2.2.2.1
    have hR2 := C0.2.2.2.2.2.2.2.2.2.2.2.1
    have K1 := x_throw (R := { frames := R.frames, cells := R.cells - (M.2.2.2.2.2.1 - c0), slots := R.slots - (M.2.2.2.2.2.2 - w0), locals := R.locals }) (l := l) (e := e') (below := below) (ls := ls) (st := st.map (tv ad)) C0.1 C0.2.1 (hL.1.trans (hlen.trans C0.2.2.1.symm)) hown2 C0.2.2.2.2.2.2.1 q7 C0.2.2.2.2.2.2.2.2.2.2.2.2.2.2.2.2.1 (hts2 _ w1) (hts2 _ w2) (hts2 _ w3) (x_own hts2 hN2 hZ2 hq) hfit (hqa.warm hW2) d0 d3 d4 d6 d9 (by show 5 < R.frames; omega) (by rw [xsum_cat]; show xsum st + 82 ≤ R.locals; omega) (by show 1 ≤ R.cells - _; omega) (by show 6 ≤ R.slots - _; omega)
    obtain ⟨t, hsteps, ce, hrun, hend, hce, O, hWt, hsame⟩ := K1 T (by rw [hh2]; exact hT) S2
    have hWst : s.WarmedH t.vm := State.WarmedH.trans hW2 hWt
    have hold : ∀ (a : Nat) (cell : Cell), H[a]? = some cell → t.heap[a]? = some cell := fun a cell ha => hsame.old_cell (by rw [hh2]; exact ha)
    have hold2 : ∀ a : Nat, a < H.size → t.heap[a]? = H[a]? := fun a ha => by
      obtain ⟨cell, hcell⟩ : ∃ cell, H[a]? = some cell := ⟨H[a], by simp [ha]⟩
      rw [hcell]
      exact hold a cell hcell
    have hsz : H.size ≤ t.heap.size := by
      have := hsame.2.1
      rw [hh2] at this
      exact this
    obtain ⟨c1, k1, hc1, hk1, -, -, -, -⟩ := Cond.instantiable_spec (hts2 _ w2)
    have hcls : c1 = ce.cls := Option.some.inj (hc1.symm.trans O.cls)
    subst hcls
    obtain ⟨k2, hk2, -⟩ := hWt.alike.2.2 _ _ hk1
    refine ⟨t, hsteps, s2.heap.size, ce, k2, ad, hrun, hend, hce, fun z hz => (by rw [O.vm] at hz; cases hz), by rw [hWt.alike.findClass]; exact O.cls, hk2, hag, ?_, ⟨Nat.le_trans hS.1 hsz, fun q h1 h2 => (hold2 q (Nat.lt_of_lt_of_le h1 hS.1)).trans (hS.2.1 q h1 h2)⟩, hWst, locs, ?_, hS.2.2⟩
    · obtain ⟨⟨ob, hob, hP, hD⟩, hcl, hsc⟩ := X.moved hWst.alike
      refine ⟨⟨ob, hob, ?_, hD⟩, hcl, fun t1 n1 h5 hn => ?_⟩
      · exact hP.kept (fun k q hq => hold2 _ (hP k q hq).lt)
      · obtain ⟨x1, x3⟩ := hsc t1 n1 h5 hn
        have x2 : ad t1 n1 < s.heap.size := Nat.lt_of_not_le (fun hz => x3 (C0.2.2.2.2.2.2.2.2.2.2.2.2.1 _ hz))
        exact ⟨x1.kept (hold2 _ (Nat.lt_of_lt_of_le x2 hS.1)), x3⟩
    · have h1 : T.sameButNew (({ t with vm := T.vm } : State)) [] 1 6 := by
        obtain ⟨g1, g2, g3, g4, g5, g6⟩ := hsame
        subst hs2
        refine ⟨?_, g2, g3, g4, g5, g6⟩
        rw [State.setFrames_setFrames] at g1
        exact g1
      have h2 := S.same.trans (h1.setVm s.vm)
      rw [List.append_nil] at h2
      have eq1 : M.2.2.2.2.2.1 + 1 - c0 = M.2.2.2.2.2.1 - c0 + 1 := by omega
      have eq2 : M.2.2.2.2.2.2 + 6 - w0 = M.2.2.2.2.2.2 - w0 + 6 := by omega
      show s.sameButNew _ locs (M.2.2.2.2.2.1 + 1 - c0) (M.2.2.2.2.2.2 + 6 - w0)
      rw [eq1, eq2]
      exact h2
