theorem xent_len : ∀ (as : List XV) (n : Nat), xsum as ≤ n → (xent n as).length = n
  | [], n, _ => by simp [xent]
  | .inl x :: r, n, h => by
    have h1 : 1 + xsum r ≤ n := h
    show (some (.inl x) :: xent (n - 1) r : XL).length = n
    rw [List.length_cons, xent_len r (n - 1) (by omega)]
    omega
  | .inr (.inl x) :: r, n, h => by
    have h1 : 2 + xsum r ≤ n := h
    show (some (.inr (.inl x)) :: none :: xent (n - 2) r : XL).length = n
    rw [List.length_cons, List.length_cons, xent_len r (n - 2) (by omega)]
    omega
  | .inr (.inr x) :: r, n, h => by
    have h1 : 1 + xsum r ≤ n := h
    show (some (.inr (.inr x)) :: xent (n - 1) r : XL).length = n
    rw [List.length_cons, xent_len r (n - 1) (by omega)]
    omega
theorem xent_get (ad : Nat → Nat → Nat) : ∀ (as : List XV) (n off i : Nat) (v : XV), (xent n as)[i]? = some (some v) → (off + i, tv ad v) ∈ lv_args off (as.map (tv ad)) ∧ v ∈ as
  | [], n, off, i, v, h => by
    unfold xent at h
    rw [List.getElem?_replicate] at h
    split at h <;> cases h
  | .inl x :: r, n, off, 0, v, h => by
    cases h
    exact ⟨List.mem_cons_self, List.mem_cons_self⟩
  | .inl x :: r, n, off, i + 1, v, h => by
    have h1 : (xent (n - 1) r)[i]? = some (some v) := h
    obtain ⟨g1, g2⟩ := xent_get ad r (n - 1) (off + 1) i v h1
    refine ⟨List.mem_cons_of_mem _ ?_, List.mem_cons_of_mem _ g2⟩
    have e : off + (i + 1) = off + 1 + i := by omega
    rw [e]
    exact g1
  | .inr (.inl x) :: r, n, off, 0, v, h => by
    cases h
    exact ⟨List.mem_cons_self, List.mem_cons_self⟩
  | .inr (.inl x) :: r, n, off, 1, v, h => by
    have h1 : (some (none : Option XV)) = some (some v) := h
    cases h1
  | .inr (.inl x) :: r, n, off, i + 2, v, h => by
    have h1 : (xent (n - 2) r)[i]? = some (some v) := h
    obtain ⟨g1, g2⟩ := xent_get ad r (n - 2) (off + 2) i v h1
    refine ⟨List.mem_cons_of_mem _ ?_, List.mem_cons_of_mem _ g2⟩
    have e : off + (i + 2) = off + 2 + i := by omega
    rw [e]
    exact g1
  | .inr (.inr x) :: r, n, off, 0, v, h => by
    cases h
    exact ⟨List.mem_cons_self, List.mem_cons_self⟩
  | .inr (.inr x) :: r, n, off, i + 1, v, h => by
    have h1 : (xent (n - 1) r)[i]? = some (some v) := h
    obtain ⟨g1, g2⟩ := xent_get ad r (n - 1) (off + 1) i v h1
    refine ⟨List.mem_cons_of_mem _ ?_, List.mem_cons_of_mem _ g2⟩
    have e : off + (i + 1) = off + 1 + i := by omega
    have e2 : (tv ad (.inr (.inr x))).category = 1 := by rw [tv_cat]; rfl
    rw [e, e2]
    exact g1
theorem sl_len {ad : Nat → Nat → Nat} : ∀ (as : List XV), (lg_sl (as.map (tv ad))).length = xsum as
  | [] => rfl
  | v :: r => by
    have ih := sl_len (ad := ad) r
    unfold lg_sl at ih ⊢
    rw [List.map_cons, List.flatMap_cons, List.length_append, ih]
    show _ = xcat v + xsum r
    rw [← tv_cat (ad := ad)]
    rcases lv_cat (tv ad v) with h | h
    · simp [h]
    · simp [h]
/-- which cells a call may change: the world's, and those that it makes -/
def XA (ad : Nat → Nat → Nat) (M : XM) (sz : Nat) : Nat → Prop := fun q => (∃ t n, xkt t ≠ 5 ∧ n < M.2.2.2.1 t ∧ q = ad t n) ∨ sz ≤ q
theorem xA_stat {D : va_G} {K : Nat → ClassId} {U : State} {A : Nat → Prop} {ad : Nat → Nat → Nat} {M : XM} {H : Heap} (X : XRel D K U A ad M H) {q : Nat} {cell : Cell} (hq : XA ad M H.size q) (hc : H[q]? = some cell) : cell.vm.isStatics = false := by
  rcases hq with ⟨t, n, h5, hn, rfl⟩ | hq
  · obtain ⟨ob, k, -, hP, -, -, hk⟩ := X.at h5 hn
    have h1 := hP k _ hk
    unfold xce at h1
    split at h1
    · obtain ⟨r, h2, cell', h3, -, h4, -⟩ := h1
      cases Option.some.inj (h3.symm.trans hc)
      rw [h4]
      rfl
    · have key : ∀ (cA : ClassId) (x : vp_A), H[ad t n]? = some (vp_cell cA x) → cell.vm.isStatics = false := by
        intro cA x hx
        cases Option.some.inj (hx.symm.trans hc)
        obtain ⟨n, f | f | f | f | f⟩ := x <;> rfl
      split at h1
      · exact key _ _ h1
      · split at h1
        · exact key _ _ h1
        · split at h1
          · exact key _ _ h1
          · exact key _ _ h1
  · have := (Array.getElem?_eq_some_iff.mp hc).1
    omega
theorem XRel.self {D : va_G} {K : Nat → ClassId} {U : State} {A : Nat → Prop} {ad : Nat → Nat → Nat} {M : XM} {H : Heap} {sz : Nat} (X : XRel D K U A ad M H) (hsz : H.size = sz) (hA : ∀ q : Nat, sz ≤ q → A q) : XRel D K U (XA ad M sz) ad M H := by
  obtain ⟨⟨ob, hob, hP, hD⟩, hc, hs⟩ := X
  refine ⟨⟨ob, hob, hP, hD.1, fun k q hq => ?_⟩, hc, fun t n h5 hn => ⟨(hs t n h5 hn).1, fun hz => ?_⟩⟩
  · rw [List.getElem?_map] at hq
    cases ho : ob[k]? with
    | none => rw [ho] at hq; cases hq
    | some r =>
      rw [ho] at hq
      cases hq
      have h1 := (hob r).mp (List.mem_of_getElem? ho)
      exact Or.inl ⟨r.1, r.2, h1.1, h1.2, rfl⟩
  · rcases hz with ⟨t', n', h5', hn', e⟩ | hz
    · obtain ⟨k, hk⟩ := List.getElem?_of_mem ((hob (t', n')).mpr ⟨h5', hn'⟩)
      have h1 := hD.2 k _ (by rw [List.getElem?_map, hk]; rfl)
      have h2 : A (ad t' n') := h1
      rw [← e] at h2
      exact (hs t n h5 hn).2 h2
    · exact (hs t n h5 hn).2 (hA _ hz)
theorem xA_sub {D : va_G} {K : Nat → ClassId} {U : State} {A : Nat → Prop} {ad : Nat → Nat → Nat} {M : XM} {H : Heap} {sz : Nat} (X : XRel D K U A ad M H) (hA : ∀ q : Nat, sz ≤ q → A q) {q : Nat} (hq : XA ad M sz q) : A q := by
  rcases hq with ⟨t, n, h5, hn, rfl⟩ | hq
  · obtain ⟨ob, k, -, -, hD, -, hk⟩ := X.at h5 hn
    exact hD.2 k _ hk
  · exact hA q hq
/-- what a method called in the memory M needs of the state -/
def XPre (D : va_G) (K : Nat → ClassId) (ad : Nat → Nat → Nat) (M : XM) (sz : Nat) (U : State) : Prop := U.heap.size = sz ∧ XRel D K U (XA ad M sz) ad M U.heap ∧ va_K D xcl (xtys K) U ∧ (∀ w ∈ xnw, va_Nw w U) ∧ XSx U ∧ XZt (XA ad M sz) U U.heap
theorem xmet {z : Nat} {as : List XV} {M M1 : XM} {rv : Option XV} {l : Launch} {D : va_G} {K : Nat → ClassId} {ad : Nat → Nat → Nat} {sz : Nat} (hG : XG z 0 (xent (xml z) as) [] M (.inl rv) M1) (hp : plainName (xyn z).cls = true) (hfit : xsum as ≤ xml z) (hok : XSt M.2.2.2.1 as) (hfl : l.flags = flags0) (htab : xtab z = []) :
    Met l (xyn z) (xws z) ({ frames := xdp z, cells := M1.2.2.2.2.2.1 - M.2.2.2.2.2.1, slots := M1.2.2.2.2.2.2 - M.2.2.2.2.2.2, locals := xlo z }) (va_Pc (as.map (tv ad)) (XPre D K ad M sz)) (XQ D K (XA ad M sz) ad M.2.2.2.1 rv M1) (M1.2.2.2.2.2.1 - M.2.2.2.2.2.1) (M1.2.2.2.2.2.2 - M.2.2.2.2.2.2) (XA ad M sz) := by
  refine Met.ofW (cc := xby z) (maxL := xml z) (ret := xrty z) hp rfl ?_
  intro p e s m args below meth c s₁ B hml hv
  obtain ⟨rfl, hsz, X, hK, hN, hSx, hZt⟩ := hv
  subst hsz
  have hA : ∀ q : Nat, s.heap.size ≤ q → XA ad M s.heap.size q := fun q hq => Or.inr hq
  have hts : ∀ w ∈ xall, w.before (as.map (tv ad)).toArray s = true := fun w hw => atoms_spec (ws := xws z) B.pre w (List.mem_cons_of_mem _ hw)
  have htb : c.exceptionTable.toList = tableOf (xtab z) := by
    have h1 := B.noHandlers (atoms_spec (ws := xws z) B.pre _ List.mem_cons_self)
    have h2 : c.exceptionTable = #[] := by simpa using h1
    rw [h2, htab]
    rfl
  have hown : s.vm.findClass (xyn z).cls = some m.cls := findClass_of_methodNamed B.named
  have hin : xini z = true → meth.name = "<init>" := fun hz => ((name_of_methodNamed B.named B.method).1).trans (of_decide_eq_true hz)
  have hl := lv_entry (as.map (tv ad)) (n := xml z) (by rw [sl_len]; exact hfit)
  rw [lg_entry_eq]
  generalize (lg_sl (as.map (tv ad)) ++ List.replicate (xml z - (lg_sl (as.map (tv ad))).length) Slot.unset).toArray = ls at hl ⊢
  have hL : XLs ad M.2.2.2.1 (xent (xml z) as) ls := by
    refine ⟨by rw [xent_len _ _ hfit]; exact hl.1, hl.2.1, fun i v hi => ?_⟩
    obtain ⟨g1, g2⟩ := xent_get ad as (xml z) 0 i v hi
    rw [Nat.zero_add] at g1
    exact ⟨hl.2.2 _ g1, hok v g2⟩
  have k := hG.2 p l e (headSpec (xws z) { frames := xdp z, cells := M1.2.2.2.2.2.1 - M.2.2.2.2.2.1, slots := M1.2.2.2.2.2.2 - M.2.2.2.2.2.2, locals := xlo z }).room s m (as.map (tv ad)).toArray below meth c D K (XA ad M s.heap.size) ad M.2.2.2.1 M.2.2.2.2.2.1 M.2.2.2.2.2.2 ad s.heap [] ls
    ⟨⟨B.exec, B.bytes, hml, B.returns, hts, hown, B.notSynchronized, hin, hK, hN, Nat.le_refl _, Nat.le_refl _, hA, fun q cell h1 h2 => xA_stat X h1 h2, hSx, hZt, hfl, fun _ => htb⟩, X, va_S.rf, hL, fun v hv => (by cases hv), xent_len _ _ hfit, ⟨fun _ _ => rfl, fun _ => Nat.le_refl _, fun _ _ => rfl⟩, ⟨Nat.le_refl _, Nat.le_refl _, Nat.le_refl _, Nat.le_refl _⟩⟩
  rw [Nat.sub_self, Nat.sub_self] at k
  exact k
theorem tv_ag {ad ad' : Nat → Nat → Nat} {k : Nat → Nat} {v : XV} (h : ∀ q : XR, q.2 < k q.1 → ad' q.1 q.2 = ad q.1 q.2) (hv : vok k v) : tv ad' v = tv ad v := by
  rcases v with x | x | x
  · rfl
  · rfl
  · cases x with
    | none => rfl
    | some q => show Value.ref _ = Value.ref _; rw [h q hv]
theorem vok_mono {k k' : Nat → Nat} {v : XV} (h : ∀ i, k i ≤ k' i) (hv : vok k v) : vok k' v := by
  rcases v with x | x | x
  · trivial
  · trivial
  · cases x with
    | none => trivial
    | some q => exact Nat.lt_of_lt_of_le hv (h _)
section XGO
variable {p : Program} {l : Launch} {e : Env} {R : Room} {s : State} {m : MethodId} {args : Array Value} {below : List Frame} {meth : Method} {c : Code} {H : Heap} {locs : List Loc} {cells slots : Nat} {Q : State → Prop}
theorem x_go {D : va_G} {K : Nat → ClassId} {A : Nat → Prop} {ad : Nat → Nat → Nat} {M : XM} {pc : Nat} {ls : Array Slot} {st0 rest : List Value} {mc ms : Nat} {a : Array Value} {rv : Option XV} {M1 : XM} (hr : va_Run p l e R s m args below meth c H locs cells slots mc ms (F0 m pc ls st0) rest (XQ D K (XA ad M H.size) ad M.2.2.2.1 rv M1 a) (XA ad M H.size)) (hS : va_S A s.heap H locs) (X0 : XRel D K s A ad M H) (hA : ∀ q : Nat, s.heap.size ≤ q → A q)
    (kk : ∀ (ad' : Nat → Nat → Nat) (H1 : Heap) (locs1 : List Loc), (∀ q : XR, q.2 < M.2.2.2.1 q.1 → ad' q.1 q.2 = ad q.1 q.2) → (∀ i, M.2.2.2.1 i ≤ M1.2.2.2.1 i) → (∀ i, xkt i = 5 → M1.2.2.2.1 i = M.2.2.2.1 i) → XRel D K s A ad' M1 H1 → (∀ v, rv = some v → vok M1.2.2.2.1 v) → va_S A s.heap H1 locs1 → W p l e R s m args below meth c H1 locs1 (cells + mc) (slots + ms) Q (F0 m (pc + 3) ls ((rv.map (tv ad')).toList ++ rest))) : W p l e R s m args below meth c H locs cells slots Q (F0 m pc ls st0) := by
  intro T hT X
  obtain ⟨v, st₀, t, T', L, h0, X', hL, e1, e2, ⟨⟨ad', g1, g2, g6, g3, g4, g5⟩, hz, hk⟩, st⟩ := hr T hT X
  cases g5
  rw [h0] at hz hk
  have hal : s.vm.Alike t.vm := by rw [← e2]; exact X'.warmed.alike
  have hsub : ∀ q, XA ad M H.size q → A q := fun q hq => xA_sub X0 (fun q hq => hA q (Nat.le_trans hS.1 hq)) hq
  have g3 := g3.moved hal.symm
  have X1 : XRel D K s A ad' M1 T'.heap := by
    rw [e1]
    obtain ⟨⟨ob, hob, hP, hD⟩, hc, hs⟩ := g3
    refine ⟨⟨ob, hob, hP, hD.weaken (fun k q _ h => hsub _ h)⟩, hc, fun t1 n1 h5 hn => ⟨(hs t1 n1 h5 hn).1, ?_⟩⟩
    have hn' : n1 < M.2.2.2.1 t1 := by rw [g6 t1 h5] at hn; exact hn
    rw [g1 (t1, n1) hn']
    exact (X0.2.2 t1 n1 h5 hn').2
  obtain ⟨t2, a1, b1⟩ := kk ad' T'.heap (locs ++ L) g1 g2 g6 X1 g4
    ⟨Nat.le_trans hS.1 (by rw [e1]; exact hz), fun q h1 h2 => by rw [e1, hk q (Nat.lt_of_lt_of_le h1 hS.1) (fun z => h2 (hsub q z))]; exact hS.2.1 q h1 h2, fun q hq => by
      rcases List.mem_append.mp hq with h | h
      · exact hS.2.2 q h
      · exact hsub _ (hL q h)⟩ T' rfl X'
  exact ⟨t2, st t2 a1, b1⟩
end XGO
theorem xargs_spec : ∀ (n : Nat) (acc st as r : List XV), xargs n acc st = some (as, r) → ∃ pre, st = pre ++ r ∧ as = pre.reverse ++ acc ∧ pre.length = n
  | 0, acc, st, as, r, h => by
    unfold xargs at h
    cases h
    exact ⟨[], rfl, rfl, rfl⟩
  | n + 1, acc, [], as, r, h => by cases h
  | n + 1, acc, v :: st, as, r, h => by
    obtain ⟨pre, h1, h2, h3⟩ := xargs_spec n (v :: acc) st as r h
    refine ⟨v :: pre, by rw [h1]; rfl, ?_, by rw [List.length_cons, h3]⟩
    rw [h2, List.reverse_cons, List.append_assoc]
    rfl
theorem good_in {z : Nat} (hz : Cond.code (xyn z) (xby z) (xml z) (xrty z) ∈ xall) : GoodIn xall (xws z) := by
  intro w hw
  rcases List.mem_cons.mp hw with rfl | hw
  · exact ⟨hz, xall_good _ hz⟩
  · exact ⟨hw, xall_good _ hw⟩
theorem xblind {D : va_G} {K : Nat → ClassId} {ad : Nat → Nat → Nat} {M : XM} {sz : Nat} {av : List Value} : FrameBlind (va_Pc av (XPre D K ad M sz)) := by
  intro a U g mk q
  obtain ⟨q0, q4, q1, q2, q3, q5, q6⟩ := q
  exact ⟨q0, q4, q1.moved (t := U.calling g mk a) (Vm.Alike.refl U.vm), va_K.moved (u := U) (U := U.calling g mk a) (Vm.Alike.refl U.vm) q2, xnw_same (u := U) (U := U.calling g mk a) rfl q3, q5.same (U := U.calling g mk a) rfl, q6.moved (U := U.calling g mk a) (Vm.Alike.refl U.vm)⟩
theorem xpre_at {D : va_G} {K : Nat → ClassId} {A : Nat → Prop} {ad : Nat → Nat → Nat} {M : XM} {s U : State} {H : Heap} {locs : List Loc} (X : XRel D K s A ad M H) (hS : va_S A s.heap H locs) (hK : va_K D xcl (xtys K) s) (hN : ∀ w ∈ xnw, va_Nw w s) (hA : ∀ q : Nat, s.heap.size ≤ q → A q) (hSx : XSx s) (hZt : XZt A s s.heap) (hU : U.heap = H) (hW : s.WarmedH U.vm) : XPre D K ad M H.size U :=
  ⟨by rw [hU], by rw [hU]; exact (X.self rfl (fun q hq => hA q (Nat.le_trans hS.1 hq))).moved hW.alike, va_K.moved hW.alike hK, fun w hw => xnw_warm hW w hw (hN w hw), hSx.warm hW, by rw [hU]; exact (hZt.kept (fun a ha hn => hS.2.1 a ha hn) (fun q hq => xA_sub X (fun q hq => hA q (Nat.le_trans hS.1 hq)) hq)).moved hW.alike⟩
/-- what is known of the method z -/
def XZ (z : Nat) : Prop := plainName (xyn z).cls = true ∧ Cond.code (xyn z) (xby z) (xml z) (xrty z) ∈ xall ∧ (xyn z).cls ≠ "java/lang/invoke/MethodHandle" ∧ (xyn z).cls ≠ "java/lang/invoke/VarHandle" ∧ xtab z = []
theorem xcall_split {f y pc z : Nat} {v : Bool} {lv : XL} {st : List XV} {M : XM} {o : XO} {M' : XM} (h : xk (xrun f) y pc lv M (xo_call v y z st) = some (o, M')) (hnh : ∀ e, xhd y pc e = none) :
    ∃ (as r : List XV) (rv : Option XV) (M1 : XM), xargs (xmn z) [] st = some (as, r) ∧ xdp z < xdp y ∧ 19 + xml z + xlo z ≤ xlo y ∧ xsum r ≤ 8 ∧ xsum as ≤ xml z ∧ (v = true → xrecv z as = true) ∧ xrun f z 0 (xent (xml z) as) [] M = some (.inl rv, M1) ∧ xrun f y (pc + 3) lv (rv.toList ++ r) M1 = some (o, M') := by
  unfold xo_call at h
  cases ha : xargs (xmn z) [] st with
  | none => rw [ha] at h; cases h
  | some q =>
    obtain ⟨as, r⟩ := q
    rw [ha] at h
    dsimp only at h
    cases hb : (Nat.blt (xdp z) (xdp y) && Nat.ble (19 + xml z + xlo z) (xlo y) && Nat.ble (xsum r) 8 && Nat.ble (xsum as) (xml z) && (v.not || xrecv z as)) with
    | false => rw [hb] at h; cases h
    | true =>
      rw [hb, cond_true] at h
      simp only [Bool.and_eq_true] at hb
      obtain ⟨⟨⟨⟨b1, b5⟩, b2⟩, b3⟩, b4⟩ := hb
      have b1 : xdp z < xdp y := Nat.le_of_ble_eq_true b1
      unfold xk at h
      dsimp only at h
      cases hz : xrun f z 0 (xent (xml z) as) [] M with
      | none => rw [hz] at h; cases h
      | some q =>
        obtain ⟨o1, M1⟩ := q
        rw [hz] at h
        cases o1 with
        | inr e =>
          dsimp only at h
          have hl : xhl y pc e lv = none := by unfold xhl; rw [hnh e]
          rw [hl] at h
          cases h
        | inl rv => exact ⟨as, r, rv, M1, rfl, b1, Nat.le_of_ble_eq_true b5, Nat.le_of_ble_eq_true b2, Nat.le_of_ble_eq_true b3, fun hv => by subst hv; simpa using b4, hz, h⟩
theorem xstack {ad ad' : Nat → Nat → Nat} {k k' : Nat → Nat} {rv : Option XV} {r : List XV} (h : ∀ q : XR, q.2 < k q.1 → ad' q.1 q.2 = ad q.1 q.2) (hr : XSt k r) : (rv.map (tv ad')).toList ++ r.map (tv ad) = (rv.toList ++ r).map (tv ad') := by
  have e : r.map (tv ad) = r.map (tv ad') := List.map_congr_left (fun v hv => (tv_ag h (hr v hv)).symm)
  rw [e, List.map_append]
  cases rv <;> rfl
/-- behind a call -/
theorem xback {y pc : Nat} {lv : XL} {r : List XV} {rv : Option XV} {M M1 M' : XM} {o : XO} (GN : XG y (pc + 3) lv (rv.toList ++ r) M1 o M') (hm : M.2.2.2.2.2.1 ≤ M1.2.2.2.2.2.1 ∧ M.2.2.2.2.2.2 ≤ M1.2.2.2.2.2.2)
    {p : Program} {l : Launch} {e : Env} {R : Room} {s : State} {m : MethodId} {args : Array Value} {below : List Frame} {meth : Method} {c : Code} {D : va_G} {K : Nat → ClassId} {A : Nat → Prop} {ad0 : Nat → Nat → Nat} {k0 : Nat → Nat} {c0 w0 : Nat} {ad : Nat → Nat → Nat} {H : Heap} {locs : List Loc} {ls : Array Slot} {st : List XV} (B : XB y p l R s m args meth c D K A ad0 k0 c0 w0 M' ad H locs ls lv st M) (hr : XSt M.2.2.2.1 r)
    {ad' : Nat → Nat → Nat} {H1 : Heap} {locs1 : List Loc} (g1 : ∀ q : XR, q.2 < M.2.2.2.1 q.1 → ad' q.1 q.2 = ad q.1 q.2) (g2 : ∀ i, M.2.2.2.1 i ≤ M1.2.2.2.1 i) (g6 : ∀ i, xkt i = 5 → M1.2.2.2.1 i = M.2.2.2.1 i) (X1 : XRel D K s A ad' M1 H1) (g4 : ∀ v, rv = some v → vok M1.2.2.2.1 v) (hS1 : va_S A s.heap H1 locs1) :
    W p l e R s m args below meth c H1 locs1 (M.2.2.2.2.2.1 - c0 + (M1.2.2.2.2.2.1 - M.2.2.2.2.2.1)) (M.2.2.2.2.2.2 - w0 + (M1.2.2.2.2.2.2 - M.2.2.2.2.2.2)) (XEnd below D K A ad0 k0 o M' args s (M'.2.2.2.2.2.1 - c0) (M'.2.2.2.2.2.2 - w0)) (F0 m (pc + 3) ls ((rv.map (tv ad')).toList ++ r.map (tv ad))) := by
  obtain ⟨C, X, hS, hL, hst, hlen, hag, hcw⟩ := B
  have k := GN.2 p l e R s m args below meth c D K A ad0 k0 c0 w0 ad' H1 locs1 ls
    ⟨C, X1, hS1, ⟨hL.1, hL.2.1, fun i v hi => ⟨by rw [tv_ag g1 (hL.2.2 i v hi).2]; exact (hL.2.2 i v hi).1, vok_mono g2 (hL.2.2 i v hi).2⟩⟩, fun v hv => by
      rcases List.mem_append.mp hv with h | h
      · cases rv with
        | none => cases h
        | some u => rw [List.mem_singleton.mp h]; exact g4 u rfl
      · exact vok_mono g2 (hr v h), hlen, ⟨fun q hq => by rw [g1 q (Nat.lt_of_lt_of_le hq (hag.2.1 _))]; exact hag.1 q hq, fun i => Nat.le_trans (hag.2.1 i) (g2 i), fun i hi => (g6 i hi).trans (hag.2.2 i hi)⟩, ⟨by omega, by omega, hcw.2.2.1, hcw.2.2.2⟩⟩
  have eq1 : M.2.2.2.2.2.1 - c0 + (M1.2.2.2.2.2.1 - M.2.2.2.2.2.1) = M1.2.2.2.2.2.1 - c0 := by omega
  have eq2 : M.2.2.2.2.2.2 - w0 + (M1.2.2.2.2.2.2 - M.2.2.2.2.2.2) = M1.2.2.2.2.2.2 - w0 := by omega
  rw [eq1, eq2, xstack (k' := k0) g1 hr]
  exact k
theorem xrecv_spec {z : Nat} {as : List XV} (h : xrecv z as = true) : ∃ (t n : Nat) (As : List XV), as = .inr (.inr (some (t, n))) :: As ∧ xkt t = 0 ∧ xkc t = xmc z := by
  unfold xrecv at h
  split at h
  · rename_i t n As
    simp only [Bool.and_eq_true] at h
    exact ⟨t, n, As, rfl, Nat.eq_of_beq_eq_true h.1, Nat.eq_of_beq_eq_true h.2⟩
  · cases h
theorem sd_callV {y pc index z ci n : Nat} {C : String} {T : u_T} {N : Nat} (hd : decode (xby y) pc = .ok (.invokevirtual index, 3)) (hZ : XZ z) (hl : Cond.methodLink (xown y) index (xyn z) ∈ xall) (hi : Cond.instanceMethod (xyn z) ∈ xall) (hs : Cond.selects C (xyn z) (xyn z) ∈ xall) (hini : Cond.initialized (xyn z).cls ∈ xall) (hci : xmc z = ci) (hcl : xcl[ci]? = some (C, T, N)) (hn : xmn z = n + 1) (hdn : (parseMethodDescriptor (xyn z).desc).map (fun d => d.parameters.length) = some n) (hnh : ∀ e, xhd y pc e = none) : Snd y pc (fun _ st _ => xo_call true y z st) := by
  intro f lv st M o M' h IH
  obtain ⟨as, r, rv, M1, ha, hdp, hlo, hr8, hfit, hrec, hz, hnx⟩ := xcall_split h hnh
  have GZ := IH _ _ _ _ _ _ _ hz
  have GN := IH _ _ _ _ _ _ _ hnx
  have m1 := GZ.1
  have m2 := GN.1
  refine ⟨⟨by omega, by omega⟩, ?_⟩
  intro p l e R s m args below meth c D K A ad0 k0 c0 w0 ad H locs ls B
  have B0 := B
  obtain ⟨C0, X, hS, hL, hst, hlen, hag, hcw⟩ := B0
  obtain ⟨pre, e1, e2, e3⟩ := xargs_spec _ _ _ _ _ ha
  rw [List.append_nil] at e2
  have hok : XSt M.2.2.2.1 as := fun v hv => hst v (by rw [e1]; exact List.mem_append_left _ (by rw [e2] at hv; exact List.mem_reverse.mp hv))
  have hrok : XSt M.2.2.2.1 r := fun v hv => hst v (by rw [e1]; exact List.mem_append_right _ hv)
  have hM := xmet (l := l) (D := D) (K := K) (ad := ad) (sz := H.size) GZ hZ.1 hfit hok C0.2.2.2.2.2.2.2.2.2.2.2.2.2.2.2.2.1 hZ.2.2.2.2
  obtain ⟨t, n0, As, rfl, t0, tc⟩ := xrecv_spec (hrec rfl)
  obtain ⟨ob, q0, hob, hP, hD, hq0, hws⟩ := X.at (t := t) (n := n0) (by rw [t0]; decide) hok.head
  have hce : xce K ad M (t, n0) = (ad t n0, .inr (ci, (List.range (xkn t)).map (xfv ad M t n0))) := by
    unfold xce
    simp only [t0, tc, hci, if_true]
  rw [hce] at hws
  have hts := C0.2.2.2.2.1
  have hR1 := C0.2.2.2.2.2.2.2.2.2.2.1
  have hR2 := C0.2.2.2.2.2.2.2.2.2.2.2.1
  have epre : pre = (.inr (.inr (some (t, n0))) :: As).reverse := by rw [e2, List.reverse_reverse]
  have hlenA : As.length = n := by
    have h3 : pre.length = As.length + 1 := by rw [epre]; simp
    omega
  refine x_go (rest := r.map (tv ad)) (va_runV (C := C) (b := ad t n0) (As := As.map (tv ad)) ⟨C0.1, C0.2.1, C0.2.2.1, C0.2.2.2.2.2.1, hts⟩ hM ⟨callB_of n hts (good_in hZ.2.1) rfl rfl rfl (hts _ hini) (hts _ hl) ⟨hZ.2.2.1, hZ.2.2.2.1, hdn⟩ ⟨by show xdp z + 1 ≤ R.frames; omega, by show 8 + (xml z + 11) + xlo z ≤ R.locals; omega⟩, hts _ hi, hts _ hs⟩
    ⟨xblind, va_recv C0.2.2.2.2.2.2.2.2.1 hP hcl hws, fun U hU hW => ⟨rfl, xpre_at X hS C0.2.2.2.2.2.2.2.2.1 C0.2.2.2.2.2.2.2.2.2.1 C0.2.2.2.2.2.2.2.2.2.2.2.2.1 C0.2.2.2.2.2.2.2.2.2.2.2.2.2.2.1 C0.2.2.2.2.2.2.2.2.2.2.2.2.2.2.2.1 hU hW⟩⟩ rfl (by rw [List.length_map]; exact hlenA) (by rw [← hlen]; exact hL.1)
    (by show st.map (tv ad) = _; rw [e1, epre]; simp [tv]) (lv_room (by rw [xsum_cat]; exact hr8)) hd ⟨by omega, by omega⟩) hS X C0.2.2.2.2.2.2.2.2.2.2.2.2.1 (fun ad' H1 locs1 g1 g2 g6 X1 g4 hS1 => ?_)
  exact xback GN GZ.1 B hrok g1 g2 g6 X1 g4 hS1
theorem sd_callS {y pc index z n : Nat} (hd : decode (xby y) pc = .ok (.invokestatic index, 3)) (hZ : XZ z) (hl : Cond.methodLink (xown y) index (xyn z) ∈ xall) (hi : Cond.static (xyn z) ∈ xall) (hini : Cond.initialized (xyn z).cls ∈ xall) (hn : xmn z = n) (hdn : (parseMethodDescriptor (xyn z).desc).map (fun d => d.parameters.length) = some n) (hnh : ∀ e, xhd y pc e = none) : Snd y pc (fun _ st _ => xo_call false y z st) := by
  intro f lv st M o M' h IH
  obtain ⟨as, r, rv, M1, ha, hdp, hlo, hr8, hfit, hrec, hz, hnx⟩ := xcall_split h hnh
  have GZ := IH _ _ _ _ _ _ _ hz
  have GN := IH _ _ _ _ _ _ _ hnx
  have m1 := GZ.1
  have m2 := GN.1
  refine ⟨⟨by omega, by omega⟩, ?_⟩
  intro p l e R s m args below meth c D K A ad0 k0 c0 w0 ad H locs ls B
  have B0 := B
  obtain ⟨C0, X, hS, hL, hst, hlen, hag, hcw⟩ := B0
  obtain ⟨pre, e1, e2, e3⟩ := xargs_spec _ _ _ _ _ ha
  rw [List.append_nil] at e2
  have hok : XSt M.2.2.2.1 as := fun v hv => hst v (by rw [e1]; exact List.mem_append_left _ (by rw [e2] at hv; exact List.mem_reverse.mp hv))
  have hrok : XSt M.2.2.2.1 r := fun v hv => hst v (by rw [e1]; exact List.mem_append_right _ hv)
  have hM := xmet (l := l) (D := D) (K := K) (ad := ad) (sz := H.size) GZ hZ.1 hfit hok C0.2.2.2.2.2.2.2.2.2.2.2.2.2.2.2.2.1 hZ.2.2.2.2
  have hts := C0.2.2.2.2.1
  have hR1 := C0.2.2.2.2.2.2.2.2.2.2.1
  have hR2 := C0.2.2.2.2.2.2.2.2.2.2.2.1
  have epre : pre = as.reverse := by rw [e2, List.reverse_reverse]
  have hlenA : as.length = n := by
    have h3 : pre.length = as.length := by rw [epre]; simp
    omega
  refine x_go (rest := r.map (tv ad)) (va_runS (As := as.map (tv ad)) ⟨C0.1, C0.2.1, C0.2.2.1, C0.2.2.2.2.2.1, hts⟩ hM ⟨callB_of n hts (good_in hZ.2.1) rfl rfl rfl (hts _ hini) (hts _ hl) ⟨hZ.2.2.1, hZ.2.2.2.1, hdn⟩ ⟨by show xdp z + 1 ≤ R.frames; omega, by show 8 + (xml z + 11) + xlo z ≤ R.locals; omega⟩, hts _ hi⟩
    ⟨xblind, fun U hU hW => ⟨rfl, xpre_at X hS C0.2.2.2.2.2.2.2.2.1 C0.2.2.2.2.2.2.2.2.2.1 C0.2.2.2.2.2.2.2.2.2.2.2.2.1 C0.2.2.2.2.2.2.2.2.2.2.2.2.2.2.1 C0.2.2.2.2.2.2.2.2.2.2.2.2.2.2.2.1 hU hW⟩⟩ rfl (by rw [List.length_map]; exact hlenA) (by rw [← hlen]; exact hL.1)
    (by show st.map (tv ad) = _; rw [e1, epre]; simp) (lv_room (by rw [xsum_cat]; exact hr8)) hd ⟨by omega, by omega⟩) hS X C0.2.2.2.2.2.2.2.2.2.2.2.2.1 (fun ad' H1 locs1 g1 g2 g6 X1 g4 hS1 => ?_)
  exact xback GN GZ.1 B hrok g1 g2 g6 X1 g4 hS1
theorem sd_callI {y pc index z n : Nat} (hd : decode (xby y) pc = .ok (.invokespecial index, 3)) (hZ : XZ z) (hl : Cond.methodLink (xown y) index (xyn z) ∈ xall) (hi : Cond.instanceMethod (xyn z) ∈ xall) (hini : Cond.initialized (xyn z).cls ∈ xall) (hnm : (xyn z).name = "<init>") (hrt : xrty z = none) (hn : xmn z = n + 1) (hdn : (parseMethodDescriptor (xyn z).desc).map (fun d => d.parameters.length) = some n) (hnh : ∀ e, xhd y pc e = none) : Snd y pc (fun _ st _ => xo_call true y z st) := by
  intro f lv st M o M' h IH
  obtain ⟨as, r, rv, M1, ha, hdp, hlo, hr8, hfit, hrec, hz, hnx⟩ := xcall_split h hnh
  have GZ := IH _ _ _ _ _ _ _ hz
  have GN := IH _ _ _ _ _ _ _ hnx
  have m1 := GZ.1
  have m2 := GN.1
  refine ⟨⟨by omega, by omega⟩, ?_⟩
  intro p l e R s m args below meth c D K A ad0 k0 c0 w0 ad H locs ls B
  have B0 := B
  obtain ⟨C0, X, hS, hL, hst, hlen, hag, hcw⟩ := B0
  obtain ⟨pre, e1, e2, e3⟩ := xargs_spec _ _ _ _ _ ha
  rw [List.append_nil] at e2
  have hok : XSt M.2.2.2.1 as := fun v hv => hst v (by rw [e1]; exact List.mem_append_left _ (by rw [e2] at hv; exact List.mem_reverse.mp hv))
  have hrok : XSt M.2.2.2.1 r := fun v hv => hst v (by rw [e1]; exact List.mem_append_right _ hv)
  have hM := xmet (l := l) (D := D) (K := K) (ad := ad) (sz := H.size) GZ hZ.1 hfit hok C0.2.2.2.2.2.2.2.2.2.2.2.2.2.2.2.2.1 hZ.2.2.2.2
  obtain ⟨t, n0, As, rfl, t0, tc⟩ := xrecv_spec (hrec rfl)
  have hts := C0.2.2.2.2.1
  have hR1 := C0.2.2.2.2.2.2.2.2.2.2.1
  have hR2 := C0.2.2.2.2.2.2.2.2.2.2.2.1
  have epre : pre = (.inr (.inr (some (t, n0))) :: As).reverse := by rw [e2, List.reverse_reverse]
  have hlenA : As.length = n := by
    have h3 : pre.length = As.length + 1 := by rw [epre]; simp
    omega
  have hG := good_in hZ.2.1
  refine x_go (rest := r.map (tv ad)) (va_runI (bytes := xby z) (maxL := xml z) (b := ad t n0) (As := As.map (tv ad)) ⟨C0.1, C0.2.1, C0.2.2.1, C0.2.2.2.2.2.1, hts⟩ hM ⟨callB_of n hts hG (by rw [← hrt]; rfl) rfl rfl (hts _ hini) (hts _ hl) ⟨hZ.2.2.1, hZ.2.2.2.1, hdn⟩ ⟨by show xdp z + 1 ≤ R.frames; omega, by show 8 + (xml z + 11) + xlo z ≤ R.locals; omega⟩, hnm, hts _ hi⟩
    ⟨xblind, fun U hU hW => ⟨rfl, xpre_at X hS C0.2.2.2.2.2.2.2.2.1 C0.2.2.2.2.2.2.2.2.2.1 C0.2.2.2.2.2.2.2.2.2.2.2.2.1 C0.2.2.2.2.2.2.2.2.2.2.2.2.2.2.1 C0.2.2.2.2.2.2.2.2.2.2.2.2.2.2.2.1 hU hW⟩⟩ rfl (by rw [List.length_map]; exact hlenA) (by rw [← hlen]; exact hL.1)
    (by show st.map (tv ad) = _; rw [e1, epre]; simp [tv]) (lv_room (by rw [xsum_cat]; exact hr8)) hd ⟨by omega, by omega⟩) hS X C0.2.2.2.2.2.2.2.2.2.2.2.2.1 (fun ad' H1 locs1 g1 g2 g6 X1 g4 hS1 => ?_)
  exact xback GN GZ.1 B hrok g1 g2 g6 X1 g4 hS1
theorem sd_callIN {y pc index z n : Nat} {host : String} (hd : decode (xby y) pc = .ok (.invokespecial index, 3)) (hZ : XZ z) (hl : Cond.methodLinkNest (xown y) index (xyn z) host ∈ xnw) (hi : Cond.instanceMethod (xyn z) ∈ xall) (hini : Cond.initialized (xyn z).cls ∈ xall) (hnm : (xyn z).name = "<init>") (hrt : xrty z = none) (hn : xmn z = n + 1) (hdn : (parseMethodDescriptor (xyn z).desc).map (fun d => d.parameters.length) = some n) (hnh : ∀ e, xhd y pc e = none) : Snd y pc (fun _ st _ => xo_call true y z st) := by
  intro f lv st M o M' h IH
  obtain ⟨as, r, rv, M1, ha, hdp, hlo, hr8, hfit, hrec, hz, hnx⟩ := xcall_split h hnh
  have GZ := IH _ _ _ _ _ _ _ hz
  have GN := IH _ _ _ _ _ _ _ hnx
  have m1 := GZ.1
  have m2 := GN.1
  refine ⟨⟨by omega, by omega⟩, ?_⟩
  intro p l e R s m args below meth c D K A ad0 k0 c0 w0 ad H locs ls B
  have B0 := B
  obtain ⟨C0, X, hS, hL, hst, hlen, hag, hcw⟩ := B0
  obtain ⟨pre, e1, e2, e3⟩ := xargs_spec _ _ _ _ _ ha
  rw [List.append_nil] at e2
  have hok : XSt M.2.2.2.1 as := fun v hv => hst v (by rw [e1]; exact List.mem_append_left _ (by rw [e2] at hv; exact List.mem_reverse.mp hv))
  have hrok : XSt M.2.2.2.1 r := fun v hv => hst v (by rw [e1]; exact List.mem_append_right _ hv)
  have hM := xmet (l := l) (D := D) (K := K) (ad := ad) (sz := H.size) GZ hZ.1 hfit hok C0.2.2.2.2.2.2.2.2.2.2.2.2.2.2.2.2.1 hZ.2.2.2.2
  obtain ⟨t, n0, As, rfl, t0, tc⟩ := xrecv_spec (hrec rfl)
  have hts := C0.2.2.2.2.1
  have hR1 := C0.2.2.2.2.2.2.2.2.2.2.1
  have hR2 := C0.2.2.2.2.2.2.2.2.2.2.2.1
  have epre : pre = (.inr (.inr (some (t, n0))) :: As).reverse := by rw [e2, List.reverse_reverse]
  have hlenA : As.length = n := by
    have h3 : pre.length = As.length + 1 := by rw [epre]; simp
    omega
  have hG := good_in hZ.2.1
  refine x_go (rest := r.map (tv ad)) (va_runIN (host := host) (bytes := xby z) (maxL := xml z) (b := ad t n0) (As := As.map (tv ad)) ⟨C0.1, C0.2.1, C0.2.2.1, C0.2.2.2.2.2.1, hts⟩ hM ⟨va_cnB n hts hG (by rw [← hrt]; rfl) rfl rfl (C0.2.2.2.2.2.2.2.2.2.1 _ hl) (hts _ hini) ⟨hZ.2.2.1, hZ.2.2.2.1, hdn⟩ ⟨by show xdp z + 1 ≤ R.frames; omega, by show 8 + (xml z + 11) + xlo z ≤ R.locals; omega⟩, hnm, hts _ hi⟩
    ⟨xblind, fun U hU hW => ⟨rfl, xpre_at X hS C0.2.2.2.2.2.2.2.2.1 C0.2.2.2.2.2.2.2.2.2.1 C0.2.2.2.2.2.2.2.2.2.2.2.2.1 C0.2.2.2.2.2.2.2.2.2.2.2.2.2.2.1 C0.2.2.2.2.2.2.2.2.2.2.2.2.2.2.2.1 hU hW⟩⟩ rfl (by rw [List.length_map]; exact hlenA) (by rw [← hlen]; exact hL.1)
    (by show st.map (tv ad) = _; rw [e1, epre]; simp [tv]) (lv_room (by rw [xsum_cat]; exact hr8)) hd ⟨by omega, by omega⟩) hS X C0.2.2.2.2.2.2.2.2.2.2.2.2.1 (fun ad' H1 locs1 g1 g2 g6 X1 g4 hS1 => ?_)
  exact xback GN GZ.1 B hrok g1 g2 g6 X1 g4 hS1
