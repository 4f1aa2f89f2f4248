/-! the start of the law -/
theorem z_nw {s : State} {args : Array Value} (hts : ∀ w ∈ lw_tbl, w.before args s = true) : ∀ w ∈ xnw, va_Nw w s := by
  intro w hw
  simp only [xnw, List.mem_cons, List.not_mem_nil, or_false] at hw
  rcases hw with rfl | rfl | rfl | rfl | rfl | rfl | rfl | rfl | rfl | rfl | rfl | rfl | rfl | rfl
  · exact va_AO.of (hts _ (List.mem_append_right _ (List.mem_of_getElem? (i := 32) (by decide +kernel))))
  · exact va_Nw.of rfl (hts _ (List.mem_append_right _ (List.mem_of_getElem? (i := 34) (by decide +kernel))))
  · exact va_Nw.of rfl (hts _ (List.mem_append_right _ (List.mem_of_getElem? (i := 109) (by decide +kernel))))
  · exact va_Nw.of rfl (hts _ (List.mem_append_right _ (List.mem_of_getElem? (i := 137) (by decide +kernel))))
  · exact va_Nw.of rfl (hts _ (List.mem_append_right _ (List.mem_of_getElem? (i := 155) (by decide +kernel))))
  · exact va_Nw.of rfl (hts _ (List.mem_append_right _ (List.mem_of_getElem? (i := 186) (by decide +kernel))))
  · exact va_AO.of (hts _ (List.mem_append_right _ (List.mem_of_getElem? (i := 204) (by decide +kernel))))
  · exact va_Nw.of rfl (hts _ (List.mem_append_right _ (List.mem_of_getElem? (i := 206) (by decide +kernel))))
  · exact va_Nw.of rfl (hts _ (List.mem_append_right _ (List.mem_of_getElem? (i := 348) (by decide +kernel))))
  · exact va_Nw.of rfl (hts _ (List.mem_append_right _ (List.mem_of_getElem? (i := 350) (by decide +kernel))))
  · exact va_Nw.of rfl (hts _ (List.mem_append_right _ (List.mem_of_getElem? (i := 352) (by decide +kernel))))
  · exact va_Nw.of rfl (hts _ (List.mem_append_right _ (List.mem_of_getElem? (i := 354) (by decide +kernel))))
  · exact va_Nw.of rfl (hts _ (List.mem_append_right _ (List.mem_of_getElem? (i := 436) (by decide +kernel))))
  · exact va_Nw.of rfl (hts _ (List.mem_append_right _ (List.mem_of_getElem? (i := 616) (by decide +kernel))))
theorem z_str {s : State} {args : Array Value} {k : Nat} {tx : String} (h : (Cond.stringRef "ChartKnitter" k tx).before args s = true) : ∃ a, vk_R "ChartKnitter" k tx a s := by
  have h0 := h
  simp only [Cond.before, Cond.holds, Cond.value] at h
  cases hc : s.vm.findClass "ChartKnitter" with
  | none => simp [hc] at h
  | some c =>
    simp only [hc, Option.map_some, beq_iff_eq, Option.some.injEq, Bool.and_eq_true] at h
    have h2 := h.2
    unfold State.resolvedAt? at h2
    split at h2
    · rename_i a ha
      refine ⟨a, h0, ?_⟩
      simp only [Term.eval, Option.bind_eq_bind]
      simp only [hc, Option.bind_some] at ha ⊢
      cases hk : s.vm.classes[c]? with
      | none => simp [hk] at ha
      | some kk => simp [hk] at ha ⊢; simp [ha]
    · cases h2
theorem z_nc {s : State} {args : Array Value} {a b : String} (h : (Cond.not (.castable a b)).before args s = true) : ∀ c d, s.vm.findClass a = some c → s.vm.findClass b = some d → s.vm.assignable c d = false := by
  intro c d hc hd
  simp only [Cond.before, Cond.holds, Cond.value, hc, hd] at h
  cases hz : s.vm.assignable c d with
  | false => rfl
  | true => simp [hz] at h
theorem z_stat {s : State} {args : Array Value} {n d : String} (hl : (Cond.laysStatic Bundle.tN n d).before args s = true) (h : (Cond.isRef (.static Bundle.tN n d)).before args s = true) : XZs n d (fun q => s.heap.size ≤ q) s s.heap := by
  obtain ⟨c, k, i, f, a, cell, hc, hi, hst, ha, hcell, hs, hcls, hlt, hty⟩ := Cond.laysStatic_spec hl
  cases hv : (Term.static Bundle.tN n d).eval args s none [] s with
  | none => simp [Cond.before, Cond.holds, Cond.value, hv] at h
  | some w =>
    obtain ⟨hst', a', cell', ha', hcell', -, hslot⟩ := Term.static_spec hi hv
    cases ha.symm.trans ha'
    cases hcell.symm.trans hcell'
    refine ⟨c, i, a, k, f, cell, w, hc, hi, hst, ha, hcell, hs, hcls, hlt, hty, hslot, ?_, Nat.not_le.mpr (Array.getElem?_eq_some_iff.mp hcell).1⟩
    simp only [Cond.before, Cond.holds, Cond.value, hv] at h
    cases w <;> simp at h <;> rfl
theorem z_arr {s : State} {args : Array Value} {ty : FieldType} (h : (Cond.arrayClass ty).before args s = true) (hty : ∀ c, s.vm.findClass ("[" ++ ty.toString) = some c → va_RA s c ty) : ∃ c, ArrOfT s c ty ∧ va_RA s c ty := by
  obtain ⟨c, k, comp, h1, h2, h3⟩ := Cond.arrayClass_spec h
  exact ⟨c, fun n z => ⟨fun k h => (by cases h), k, h2, comp, h3⟩, hty c h1⟩
theorem z_arrq {s : State} {C : String} (h : va_AO C s) : ∃ c, ArrOfT s c (.object C) ∧ va_RA s c (.object C) := by
  obtain ⟨comp, c, k, h1, h2, h3, h4, h5⟩ := Cond.arrayOver_spec h
  exact ⟨c, fun n z => ⟨fun k h => (by cases h), k, h3, comp, h4⟩, k, comp, h3, h4, h1, h5⟩
theorem z_K {s : State} {args : Array Value} (hts : ∀ w ∈ lw_tbl, w.before args s = true) : ∃ (D : va_G) (K : Nat → ClassId), va_K D xcl (xtys K) s := by
  have hx : ∀ w ∈ xall, w.before args s = true := fun w hw => hts w (List.mem_filter.mp hw).1
  obtain ⟨c0, i0, h0⟩ := u_known (n := 8) hx lay0 (hts _ (List.mem_append_right _ (List.mem_of_getElem? (i := 18) (by decide +kernel))))
  obtain ⟨c1, i1, h1⟩ := u_known (n := 7) hx lay1 (hts _ (List.mem_append_right _ (List.mem_of_getElem? (i := 26) (by decide +kernel))))
  obtain ⟨c2, i2, h2⟩ := u_known (n := 4) hx lay2 (hts _ (List.mem_append_right _ (List.mem_of_getElem? (i := 185) (by decide +kernel))))
  obtain ⟨c3, i3, h3⟩ := u_known (n := 6) hx lay3 (hts _ (List.mem_append_right _ (List.mem_of_getElem? (i := 154) (by decide +kernel))))
  obtain ⟨c4, i4, h4⟩ := u_known (n := 3) hx lay4 (hts _ (List.mem_append_right _ (List.mem_of_getElem? (i := 136) (by decide +kernel))))
  obtain ⟨c5, i5, h5⟩ := u_known (n := 5) hx lay5 (hts _ (List.mem_append_right _ (List.mem_of_getElem? (i := 103) (by decide +kernel))))
  obtain ⟨c6, i6, h6⟩ := u_known (n := 13) hx lay6 (hts _ (List.mem_append_right _ (List.mem_of_getElem? (i := 205) (by decide +kernel))))
  obtain ⟨c7, i7, h7⟩ := u_known (n := 6) hx lay7 (hts _ (List.mem_append_right _ (List.mem_of_getElem? (i := 33) (by decide +kernel))))
  obtain ⟨c8, i8, h8⟩ := u_known (n := 35) hx lay8 (hts _ (List.mem_append_right _ (List.mem_of_getElem? (i := 669) (by decide +kernel))))
  obtain ⟨a0, g0⟩ := z_arr (ty := .int) (hts _ (List.mem_append_right _ (List.mem_of_getElem? (i := 69) (by decide +kernel)))) (fun _ h => h)
  obtain ⟨a1, g1⟩ := z_arr (ty := .boolean) (hts _ (List.mem_append_right _ (List.mem_of_getElem? (i := 134) (by decide +kernel)))) (fun _ h => h)
  obtain ⟨a2, g2⟩ := z_arr (ty := .long) (hts _ (List.mem_append_right _ (List.mem_of_getElem? (i := 944) (by decide +kernel)))) (fun _ h => h)
  obtain ⟨a3, g3⟩ := z_arrq (C := CR7) (va_AO.of (hts _ (List.mem_append_right _ (List.mem_of_getElem? (i := 32) (by decide +kernel)))))
  obtain ⟨a4, g4⟩ := z_arrq (C := CR6) (va_AO.of (hts _ (List.mem_append_right _ (List.mem_of_getElem? (i := 204) (by decide +kernel)))))
  refine ⟨(fun c => match c with | 0 => c0 | 1 => c1 | 2 => c2 | 3 => c3 | 4 => c4 | 5 => c5 | 6 => c6 | 7 => c7 | _ => c8, fun c => match c with | 0 => i0 | 1 => i1 | 2 => i2 | 3 => i3 | 4 => i4 | 5 => i5 | 6 => i6 | 7 => i7 | _ => i8), fun j => match j with | 0 => a0 | 1 => a1 | 2 => a2 | 3 => a3 | _ => a4, ?_, ?_⟩
  · intro c q hq
    match c, hq with
    | 0, hq => cases hq; exact h0
    | 1, hq => cases hq; exact h1
    | 2, hq => cases hq; exact h2
    | 3, hq => cases hq; exact h3
    | 4, hq => cases hq; exact h4
    | 5, hq => cases hq; exact h5
    | 6, hq => cases hq; exact h6
    | 7, hq => cases hq; exact h7
    | 8, hq => cases hq; exact h8
    | n + 9, hq => cases hq
  · intro k q hq
    match k, hq with
    | 0, hq => cases hq; exact g0
    | 1, hq => cases hq; exact g1
    | 2, hq => cases hq; exact g2
    | 3, hq => cases hq; exact g3
    | 4, hq => cases hq; exact g4
    | n + 5, hq => cases hq
/-- the memory at the law's start: the script alone -/
def xM0 (L : Nat) (xs : Nat → Int32) : XM := (fun t _ k => if t = 0 then xs k else 0, fun _ _ _ => 0, fun _ _ _ => none, fun t => if t = 0 then 1 else 0, L, 0, 0)
def XPure : Prop := ∀ (L : Nat) (xs : Nat → Int32), L ≤ 1536 → ∃ (f : Nat) (M1 : XM), xrun f 117 0 (xent 7 [.inr (.inr (some (0, 0)))]) [] (xM0 L xs) = some (.inl (some (.inl 1)), M1) ∧ M1.2.2.2.2.2.1 ≤ 601024 ∧ M1.2.2.2.2.2.2 ≤ 7293034
set_option maxHeartbeats 4000000 in
theorem z_start (hpure : XPure) {p : Program} {e : Env} {s : State} {m : MethodId} {below : List Frame} {meth : Method} {c : Code} (l : Launch) (hfl : l.flags = flags0) {b L : Nat} {xs : Nat → Int32} (hL : L ≤ 1536) (hx : p.tables.exec = Jvm.exec) (hb : c.code = code) (hr : meth.sig.returnType = ret) (hml : c.maxLocals = 7) (hown : s.vm.findClass "ChartKnitterLaw" = some m.cls) (hts : ∀ w ∈ lw_tbl, w.before #[Value.ref b] s = true) (hX : va_X b L xs s s.heap) (hbl : b < s.heap.size) (hlocks : meth.locks = false) (hgv : (Jvm.Cond.and given_1 narrow_1).before #[Value.ref b] s = true) :
    W p l e room_1 s m #[Value.ref b] below meth c s.heap [] 0 0 (fun t => ∃ o, t.status = .running ∧ Ended t below o ∧ o = .returned (some (.int 1)) ∧ Framed s o t [] 601024 7293034) (entryFrame m ([Value.ref b] : List Value).toArray 7) := by
  obtain ⟨f, M1, hrun, hc1, hw1⟩ := hpure L xs hL
  have hG := snd_all f _ _ _ _ _ _ _ hrun
  have hf := flat_of_before _ hgv
  obtain ⟨D, K, hK⟩ := z_K hts
  have hSx : XSx s := by
    refine ⟨fun q hq => ?_, fun q hq => ?_⟩
    · simp only [xstr, List.mem_cons, List.not_mem_nil, or_false] at hq
      rcases hq with rfl | rfl | rfl | rfl | rfl | rfl
      · exact z_str (hts _ (List.mem_append_right _ (List.mem_of_getElem? (i := 387) (by decide +kernel))))
      · exact z_str (hts _ (List.mem_append_right _ (List.mem_of_getElem? (i := 443) (by decide +kernel))))
      · exact z_str (hts _ (List.mem_append_right _ (List.mem_of_getElem? (i := 450) (by decide +kernel))))
      · exact z_str (hts _ (List.mem_append_right _ (List.mem_of_getElem? (i := 623) (by decide +kernel))))
      · exact z_str (hts _ (List.mem_append_right _ (List.mem_of_getElem? (i := 630) (by decide +kernel))))
      · exact z_str (hts _ (List.mem_append_right _ (List.mem_of_getElem? (i := 642) (by decide +kernel))))
    · simp only [xnc, List.mem_cons, List.not_mem_nil, or_false] at hq
      rcases hq with rfl | rfl
      · exact z_nc (hf _ (by decide +kernel))
      · exact z_nc (hf _ (by decide +kernel))
  have hZ : XZt (fun q => s.heap.size ≤ q) s s.heap := ⟨z_stat (hts _ (List.mem_append_right _ (List.mem_of_getElem? (i := 373) (by decide +kernel)))) (hf _ (by decide +kernel)), z_stat (hts _ (List.mem_append_right _ (List.mem_of_getElem? (i := 375) (by decide +kernel)))) (hf _ (by decide +kernel))⟩
  have hl := lv_entry ([Value.ref b]) (n := 7) (Nat.le_of_ble_eq_true rfl)
  rw [lg_entry_eq]
  generalize (lg_sl ([Value.ref b]) ++ List.replicate (7 - (lg_sl ([Value.ref b])).length) Slot.unset).toArray = ls at hl ⊢
  have hLs : XLs (fun _ _ => b) (xM0 L xs).2.2.2.1 (xent 7 [.inr (.inr (some (0, 0)))]) ls := by
    refine ⟨hl.1, hl.2.1, fun i v hi => ?_⟩
    obtain ⟨g1, g2⟩ := xent_get (fun _ _ => b) [.inr (.inr (some (0, 0)))] 7 0 i v hi
    rw [Nat.zero_add] at g1
    refine ⟨hl.2.2 _ g1, ?_⟩
    rw [List.mem_singleton.mp g2]
    show (0 : Nat) < if (0 : Nat) = 0 then 1 else 0
    decide
  have hX0 : XRel D K s (fun q => s.heap.size ≤ q) (fun _ _ => b) (xM0 L xs) s.heap := by
    refine ⟨⟨[], fun q => ?_, fun k q hq => (by cases hq), fun i j p q hi => (by cases hi), fun k q hq => (by cases hq)⟩, fun t n k q hq => (by cases hq), fun t n h5 hn => ?_⟩
    · constructor
      · intro h; cases h
      · rintro ⟨h1, h2⟩
        have h3 : q.2 < if q.1 = 0 then 1 else 0 := h2
        by_cases h0 : q.1 = 0
        · rw [h0] at h1; exact absurd rfl h1
        · rw [if_neg h0] at h3; cases h3
    · have h3 : n < if t = 0 then 1 else 0 := hn
      by_cases h0 : t = 0
      · subst h0
        exact ⟨hX, Nat.not_le.mpr hbl⟩
      · rw [if_neg h0] at h3; cases h3
  have k := hG.2 p l e room_1 s m #[Value.ref b] below meth c D K (fun q => s.heap.size ≤ q) (fun _ _ => b) (xM0 L xs).2.2.2.1 0 0 (fun _ _ => b) s.heap [] ls
    ⟨⟨hx, hb, hml, hr, fun w hw => hts w (List.mem_filter.mp hw).1, hown, hlocks, fun h => absurd h (by decide +kernel), hK, z_nw hts, by decide, by decide, fun q hq => hq, fun q cell h1 h2 => absurd (Array.getElem?_eq_some_iff.mp h2).1 (Nat.not_lt.mpr h1), hSx, hZ, hfl, fun h => absurd rfl h⟩, hX0, va_S.rf, hLs, fun v hv => (by cases hv), rfl, ⟨fun _ _ => rfl, fun _ => Nat.le_refl _, fun _ _ => rfl⟩, ⟨Nat.le_refl _, Nat.le_refl _, hc1, hw1⟩⟩
  intro T hT S
  obtain ⟨t, a1, o, r1, r2, ⟨⟨ad', -, -, -, -, -, r3⟩, -⟩, L0, ⟨⟨v, rfl⟩, hWt, hsame⟩, hLf⟩ := k T hT S
  refine ⟨t, a1, _, r1, r2, r3, ⟨_, rfl⟩, hWt, ?_⟩
  have h1 := hsame.weaken (l' := []) (fun y hy hlt => absurd hlt (Nat.not_lt.mpr (hLf y hy))) (Nat.le_refl _) (Nat.le_refl _)
  exact h1.mono hc1 hw1
