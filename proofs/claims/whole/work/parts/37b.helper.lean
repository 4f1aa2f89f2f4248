def XHd (y pc ex h k : Nat) : Prop := ∃ hp : Nat, ((∃ k1 : Fin 4, decode (xby y) hp = .ok (.astore_n k1, 1) ∧ (k1 : Nat) = k ∧ h = hp + 1) ∨ (decode (xby y) hp = .ok (.astore k, 2) ∧ h = hp + 2)) ∧ Cond.castable (xex ex) (xex ex) ∈ xnw ∧
  ((∃ (b ct : Nat) (rest : List (Nat × Nat × Nat × Nat)), xtab y = (0, b, hp, ct) :: rest ∧ pc < b ∧ ct ≠ 0 ∧ Cond.classLink (xown y) ct (xex ex) ∈ xall) ∨
   (∃ (b1 h1 ct1 b ct : Nat) (rest : List (Nat × Nat × Nat × Nat)) (name1 : String), xtab y = (0, b1, h1, ct1) :: (0, b, hp, ct) :: rest ∧ pc < b1 ∧ ct1 ≠ 0 ∧ pc < b ∧ ct ≠ 0 ∧ Cond.classLink (xown y) ct1 name1 ∈ xall ∧ Cond.classLink (xown y) ct (xex ex) ∈ xall ∧ (xex ex, name1) ∈ xnc))
theorem xcall_split2 {f y pc z : Nat} {v : Bool} {lv : XL} {st : List XV} {M : XM} {o : XO} {M' : XM} (h : xk (xrun f) y pc lv M (xo_call v y z st) = some (o, M')) :
    ∃ (as r : List XV) (o1 : XO) (M1 : XM), xargs (xmn z) [] st = some (as, r) ∧ xdp z < xdp y ∧ 19 + xml z + xlo z ≤ xlo y ∧ xsum r ≤ 8 ∧ xsum as ≤ xml z ∧ (v = true → xrecv z as = true) ∧ xrun f z 0 (xent (xml z) as) [] M = some (o1, M1) ∧
      ((∃ rv, o1 = .inl rv ∧ xrun f y (pc + 3) lv (rv.toList ++ r) M1 = some (o, M')) ∨ (∃ ex h' lv', o1 = .inr ex ∧ xhl y pc ex lv = some (h', lv') ∧ xrun f y h' lv' [] M1 = some (o, M'))) := by
  unfold xo_call at h
  cases ha : xargs (xmn z) [] st with
  | none => rw [ha] at h; cases h
  | some q =>
    obtain ⟨as, r⟩ := q
    rw [ha] at h
    dsimp only at h
    cases hb : (Nat.blt (xdp z) (xdp y) && Nat.ble (19 + xml z + xlo z) (xlo y) && Nat.ble (xsum r) 8 && Nat.ble (xsum as) (xml z) && (v.not || xrecv z as)) with
    | false => rw [hb] at h; cases h
    | true =>
      rw [hb, cond_true] at h
      simp only [Bool.and_eq_true] at hb
      obtain ⟨⟨⟨⟨b1, b5⟩, b2⟩, b3⟩, b4⟩ := hb
      have b1 : xdp z < xdp y := Nat.le_of_ble_eq_true b1
      unfold xk at h
      dsimp only at h
      cases hz : xrun f z 0 (xent (xml z) as) [] M with
      | none => rw [hz] at h; cases h
      | some q =>
        obtain ⟨o1, M1⟩ := q
        rw [hz] at h
        refine ⟨as, r, o1, M1, rfl, b1, Nat.le_of_ble_eq_true b5, Nat.le_of_ble_eq_true b2, Nat.le_of_ble_eq_true b3, fun hv => by subst hv; simpa using b4, hz, ?_⟩
        cases o1 with
        | inl rv => exact Or.inl ⟨rv, rfl, h⟩
        | inr ex =>
          dsimp only at h
          cases hl : xhl y pc ex lv with
          | none => rw [hl] at h; cases h
          | some w =>
            obtain ⟨h', lv'⟩ := w
            rw [hl] at h
            exact Or.inr ⟨ex, h', lv', rfl, hl, h⟩
theorem xhl_spec {y pc ex h' : Nat} {lv lv' : XL} (h : xhl y pc ex lv = some (h', lv')) : ∃ k, xhd y pc ex = some (h', k) ∧ k < lv.length ∧ xok lv k = true ∧ lv' = lv.set k none := by
  unfold xhl at h
  cases hh : xhd y pc ex with
  | none => rw [hh] at h; cases h
  | some w =>
    obtain ⟨h1, k⟩ := w
    rw [hh] at h
    dsimp only at h
    obtain ⟨g1, g2⟩ := xc_cond h
    simp only [Bool.and_eq_true] at g1
    cases g2
    exact ⟨k, rfl, Nat.le_of_ble_eq_true g1.1, g1.2, rfl⟩
theorem XLs.store0 {ad : Nat → Nat → Nat} {k : Nat → Nat} {lv : XL} {ls ls' : Array Slot} {i : Nat} {w : Value} (h : XLs ad k lv ls) (hok : xok lv i = true) (hi : i < lv.length)
    (h' : lv_has ls' lv.length ((i, w) :: (xlst ad lv).filter (fun q => !(q.1 == i) && !(q.1 + 1 == i && q.2.category == 2)))) : XLs ad k (lv.set i none) ls' := by
  refine ⟨by rw [List.length_set]; exact h'.1, h'.2.1, fun j u hj => ?_⟩
  by_cases hji : j = i
  · subst hji
    rw [List.getElem?_set_self hi] at hj
    cases hj
  · rw [List.getElem?_set_ne (Ne.symm hji)] at hj
    refine ⟨h'.2.2 (j, tv ad u) (List.mem_cons_of_mem _ (List.mem_filter.mpr ⟨xlst_mem hj, ?_⟩)), (h.2.2 _ _ hj).2⟩
    by_cases h2 : j + 1 = i
    · subst h2
      have h3 : (tv ad u).category ≠ 2 := by
        rw [tv_cat]
        intro h4
        unfold xok at hok
        simp only [hj] at hok
        rcases u with x | x | x
        · cases h4
        · cases hok
        · cases h4
      simp [h3]
    · simp [hji, h2]
theorem sd_callVH {y pc index z ci n : Nat} {C : String} {T : u_T} {N : Nat} (hd : decode (xby y) pc = .ok (.invokevirtual index, 3)) (hZ : XZ z) (hl : Cond.methodLink (xown y) index (xyn z) ∈ xall) (hi : Cond.instanceMethod (xyn z) ∈ xall) (hs : Cond.selects C (xyn z) (xyn z) ∈ xall) (hini : Cond.initialized (xyn z).cls ∈ xall) (hci : xmc z = ci) (hcl : xcl[ci]? = some (C, T, N)) (hn : xmn z = n + 1) (hdn : (parseMethodDescriptor (xyn z).desc).map (fun d => d.parameters.length) = some n) (hy : y ≠ 117) (hH : ∀ ex h k, xhd y pc ex = some (h, k) → XHd y pc ex h k) : Snd y pc (fun _ st _ => xo_call true y z st) := by
  intro f lv st M o M' h IH
  obtain ⟨as, r, o1, M1, ha, hdp, hlo, hr8, hfit, hrec, hz, hnx⟩ := xcall_split2 h
  have GZ := IH _ _ _ _ _ _ _ hz
  have m1 := GZ.1
  rcases hnx with ⟨rv, rfl, hnx⟩ | ⟨ex, h', lv', rfl, hhl, hnx⟩
  · have GN := IH _ _ _ _ _ _ _ hnx
    have m2 := GN.1
    refine ⟨⟨by omega, by omega⟩, ?_⟩
    intro p l e R s m args below meth c D K A ad0 k0 c0 w0 ad H locs ls B
    have B0 := B
    obtain ⟨C0, X, hS, hL, hst, hlen, hag, hcw⟩ := B0
    obtain ⟨pre, e1, e2, e3⟩ := xargs_spec _ _ _ _ _ ha
    rw [List.append_nil] at e2
    have hok : XSt M.2.2.2.1 as := fun v hv => hst v (by rw [e1]; exact List.mem_append_left _ (by rw [e2] at hv; exact List.mem_reverse.mp hv))
    have hrok : XSt M.2.2.2.1 r := fun v hv => hst v (by rw [e1]; exact List.mem_append_right _ hv)
    have hM := xmet (l := l) (D := D) (K := K) (ad := ad) (sz := H.size) GZ hZ.1 hfit hok C0.2.2.2.2.2.2.2.2.2.2.2.2.2.2.2.2.1 hZ.2.2.2.2
    obtain ⟨t, n0, As, rfl, t0, tc⟩ := xrecv_spec (hrec rfl)
    obtain ⟨ob, q0, hob, hP, hD, hq0, hws⟩ := X.at (t := t) (n := n0) (by rw [t0]; decide) hok.head
    have hce : xce K ad M (t, n0) = (ad t n0, .inr (ci, (List.range (xkn t)).map (xfv ad M t n0))) := by
      unfold xce
      simp only [t0, tc, hci, if_true]
    rw [hce] at hws
    have hts := C0.2.2.2.2.1
    have hR1 := C0.2.2.2.2.2.2.2.2.2.2.1
    have hR2 := C0.2.2.2.2.2.2.2.2.2.2.2.1
    have epre : pre = (.inr (.inr (some (t, n0))) :: As).reverse := by rw [e2, List.reverse_reverse]
    have hlenA : As.length = n := by
      have h3 : pre.length = As.length + 1 := by rw [epre]; simp
      omega
    refine x_go (rest := r.map (tv ad)) (va_runV (C := C) (b := ad t n0) (As := As.map (tv ad)) ⟨C0.1, C0.2.1, C0.2.2.1, C0.2.2.2.2.2.1, hts⟩ hM ⟨callB_of n hts (good_in hZ.2.1) rfl rfl rfl (hts _ hini) (hts _ hl) ⟨hZ.2.2.1, hZ.2.2.2.1, hdn⟩ ⟨by show xdp z + 1 ≤ R.frames; omega, by show 8 + (xml z + 11) + xlo z ≤ R.locals; omega⟩, hts _ hi, hts _ hs⟩
      ⟨xblind, va_recv C0.2.2.2.2.2.2.2.2.1 hP hcl hws, fun U hU hW => ⟨rfl, xpre_at X hS C0.2.2.2.2.2.2.2.2.1 C0.2.2.2.2.2.2.2.2.2.1 C0.2.2.2.2.2.2.2.2.2.2.2.2.1 C0.2.2.2.2.2.2.2.2.2.2.2.2.2.2.1 C0.2.2.2.2.2.2.2.2.2.2.2.2.2.2.2.1 hU hW⟩⟩ rfl (by rw [List.length_map]; exact hlenA) (by rw [← hlen]; exact hL.1)
      (by show st.map (tv ad) = _; rw [e1, epre]; simp [tv]) (lv_room (by rw [xsum_cat]; exact hr8)) hd ⟨by omega, by omega⟩) hS X C0.2.2.2.2.2.2.2.2.2.2.2.2.1 (fun ad' H1 locs1 g1 g2 g6 X1 g4 hS1 => ?_)
    exact xback GN GZ.1 B hrok g1 g2 g6 X1 g4 hS1
  · have GN := IH _ _ _ _ _ _ _ hnx
    have m2 := GN.1
    refine ⟨⟨by omega, by omega⟩, ?_⟩
    intro p l e R s m args below meth c D K A ad0 k0 c0 w0 ad H locs ls B
    obtain ⟨C0, X, hS, hL, hst, hlen, hag, hcw⟩ := B
    obtain ⟨pre, e1, e2, e3⟩ := xargs_spec _ _ _ _ _ ha
    rw [List.append_nil] at e2
    have hok : XSt M.2.2.2.1 as := fun v hv => hst v (by rw [e1]; exact List.mem_append_left _ (by rw [e2] at hv; exact List.mem_reverse.mp hv))
    have hrok : XSt M.2.2.2.1 r := fun v hv => hst v (by rw [e1]; exact List.mem_append_right _ hv)
    have hMT := xmetT (l := l) (D := D) (K := K) (ad := ad) (sz := H.size) GZ hZ.1 hfit hok C0.2.2.2.2.2.2.2.2.2.2.2.2.2.2.2.2.1 hZ.2.2.2.2
    obtain ⟨t, n0, As, rfl, t0, tc⟩ := xrecv_spec (hrec rfl)
    obtain ⟨ob, q0, hob, hP, hD, hq0, hws⟩ := X.at (t := t) (n := n0) (by rw [t0]; decide) hok.head
    have hce : xce K ad M (t, n0) = (ad t n0, .inr (ci, (List.range (xkn t)).map (xfv ad M t n0))) := by
      unfold xce
      simp only [t0, tc, hci, if_true]
    rw [hce] at hws
    have hts := C0.2.2.2.2.1
    have hR1 := C0.2.2.2.2.2.2.2.2.2.2.1
    have hR2 := C0.2.2.2.2.2.2.2.2.2.2.2.1
    have hA := C0.2.2.2.2.2.2.2.2.2.2.2.2.1
    have epre : pre = (.inr (.inr (some (t, n0))) :: As).reverse := by rw [e2, List.reverse_reverse]
    have hlenA : As.length = n := by
      have h3 : pre.length = As.length + 1 := by rw [epre]; simp
      omega
    obtain ⟨cellB, hcB, hoB, hclB⟩ := va_recv C0.2.2.2.2.2.2.2.2.1 hP hcl hws
    intro T0 hT S
    obtain ⟨mk, vm₁, oc, s₂, S₁, hQ, hend, hgo⟩ := x_callT S C0.1 (own := xown y) (C := C) (bytes := xby z) (maxL := xml z) (ret := xrty z) (ws := xws z) C0.2.2.2.2.2.1 (hts _ hl) (hts _ hi) (hts _ hs) (hts _ hZ.2.1) List.mem_cons_self (hts _ hini) ⟨hZ.2.2.1, hZ.2.2.2.1⟩ hMT (pay_in hts (good_in hZ.2.1)) ⟨by show xdp z + 1 ≤ R.frames; omega, by show 8 + (xml z + 11) + xlo z ≤ R.locals; omega⟩ (by show _ + (M1.2.2.2.2.2.1 - M.2.2.2.2.2.1) ≤ R.cells; omega) (by show _ + (M1.2.2.2.2.2.2 - M.2.2.2.2.2.2) ≤ R.slots; omega) (by rw [hT]; exact hcB) hoB hclB (g := F0 m pc ls (st.map (tv ad))) rfl (by show ls.size = _; rw [C0.2.2.1, ← hlen]; exact hL.1) (argsL := As.map (tv ad)) (rest := r.map (tv ad))
      (fun sig hsig => by rw [hsig] at hdn; rw [List.length_map, hlenA]; exact (Option.some.inj hdn).symm) (by show st.map (tv ad) = _; rw [e1, epre]; simp [tv]) (lv_room (m := m) (pc := pc) (ls := ls) (rest := st.map (tv ad)) (by rw [xsum_cat]; exact hr8)) (by rw [C0.2.1]; exact hd) xblind (fun U hU hW => ⟨rfl, xpre_at X hS C0.2.2.2.2.2.2.2.2.1 C0.2.2.2.2.2.2.2.2.2.1 hA C0.2.2.2.2.2.2.2.2.2.2.2.2.2.2.1 C0.2.2.2.2.2.2.2.2.2.2.2.2.2.2.2.1 (hU.trans hT) hW⟩)
    obtain ⟨x, ce, kc, ad', rfl, hce2, hobj2, hfc, hkc, hag2, X2, hF, hW2, L, hsame, hLf⟩ := hQ
    obtain ⟨T', S', hW3, -, ht⟩ := S₁.outOfThrown (g := { F0 m pc ls (st.map (tv ad)) with stack := r.map (tv ad) }) rfl hend hW2 hsame
    have hheap : s₂.heap = T'.heap := by rw [ht]; exact Stand.throwing_heap _ _ _
    have hvm : s₂.vm = T'.vm := by rw [ht]; exact Stand.throwing_vm _ _ _
    have hal : s.vm.Alike s₂.vm := by rw [hvm]; exact S'.warmed.alike
    have hsub : ∀ q, XA ad M H.size q → A q := fun q hq => xA_sub X (fun q hq => hA q (Nat.le_trans hS.1 hq)) hq
    have hz0 : H.size ≤ T'.heap.size := by
      have := hF.1
      rw [hheap] at this
      rw [← hT]
      exact this
    have hk0 : ∀ q : Nat, q < H.size → ¬ XA ad M H.size q → T'.heap[q]? = H[q]? := fun q h1 h2 => by
      have := hF.2 q (by show q < T0.heap.size; rw [hT]; exact h1) h2
      rw [hheap] at this
      rw [← hT]
      exact this
    have X3 : XRel D K s A ad' M1 T'.heap := by
      rw [← hheap]
      obtain ⟨⟨ob2, hob2, hP2, hD2⟩, hc2, hs2⟩ := X2.moved hal.symm
      refine ⟨⟨ob2, hob2, hP2, hD2.weaken (fun k q _ h => hsub _ h)⟩, hc2, fun t1 n1 h5 hn1 => ⟨(hs2 t1 n1 h5 hn1).1, ?_⟩⟩
      have hn' : n1 < M.2.2.2.1 t1 := by rw [hag2.2.2 t1 h5] at hn1; exact hn1
      rw [hag2.1 (t1, n1) hn']
      exact (X.2.2 t1 n1 h5 hn').2
    have hS3 : va_S A s.heap T'.heap (locs ++ L) := ⟨Nat.le_trans hS.1 hz0, fun q h1 h2 => by rw [hk0 q (Nat.lt_of_lt_of_le h1 hS.1) (fun z => h2 (hsub q z))]; exact hS.2.1 q h1 h2, fun q hq => by
      rcases List.mem_append.mp hq with h | h
      · exact hS.2.2 q h
      · exact hsub _ (hLf q h)⟩
    obtain ⟨k, hhd, hk1, hk2, rfl⟩ := xhl_spec hhl
    obtain ⟨hp, hast, hcast, htab⟩ := hH ex h' k hhd
    obtain ⟨cX, cX', hcX, hcX', hass⟩ := Cond.castable_spec (xnw_use (args := args) _ hcast (C0.2.2.2.2.2.2.2.2.2.1 _ hcast))
    cases hcX.symm.trans hcX'
    have hceX : ce.cls = cX := by
      rw [hal.findClass] at hfc
      exact Option.some.inj (hfc.symm.trans hcX)
    rw [← hceX] at hass hcX
    have htb := C0.2.2.2.2.2.2.2.2.2.2.2.2.2.2.2.2.2 hy
    have hkT : ∃ k, T'.vm.classes[ce.cls]? = some k := by rw [← hvm]; exact ⟨kc, hkc⟩
    have hceT : T'.heap[x]? = some ce := by rw [← hheap]; exact hce2
    have K1 : ∃ vm', Stand p l e R s m args below meth c (T'.setVm vm') (locs ++ L) (M.2.2.2.2.2.1 - c0 + (M1.2.2.2.2.2.1 - M.2.2.2.2.2.1)) (M.2.2.2.2.2.2 - w0 + (M1.2.2.2.2.2.2 - M.2.2.2.2.2.2)) ∧ ∀ target, Steps p.tables e below ((T'.setVm vm').setTop (F0 m hp ls [.ref x])) target → Steps p.tables e below ((T'.setTop { F0 m pc ls (st.map (tv ad)) with stack := r.map (tv ad) }).pushFrame (.throwing x)) target := by
      rcases htab with ⟨b, ct, rest, g1, g2, g3, g4⟩ | ⟨b1, h1, ct1, b, ct, rest, name1, g1, g2, g3, g4, g5, g6, g7, g8⟩
      · rw [g1] at htb
        exact x_catch1 (g := { F0 m pc ls (st.map (tv ad)) with stack := r.map (tv ad) }) (rest := tableOf rest) S' x rfl C0.2.2.2.2.2.1 htb (by simp only [covers, Bool.and_eq_true, decide_eq_true_eq]; exact ⟨Nat.zero_le _, g2⟩) g3 (hts _ g4) hcX hceT hobj2 hkT hass
      · rw [g1] at htb
        have hpl : e.platform.magicAccessors = ({} : Platform).magicAccessors := by rw [S'.admits.platform]
        obtain ⟨c1, hc1, -⟩ := Cond.classLink_spec C0.2.2.2.2.2.1 (hts _ g6) e.platform hpl
        exact x_catch2 (g := { F0 m pc ls (st.map (tv ad)) with stack := r.map (tv ad) }) (rest := tableOf rest) S' x rfl C0.2.2.2.2.2.1 htb (by simp only [covers, Bool.and_eq_true, decide_eq_true_eq]; exact ⟨Nat.zero_le _, g2⟩) g3 (by simp only [covers, Bool.and_eq_true, decide_eq_true_eq]; exact ⟨Nat.zero_le _, g4⟩) g5 (hts _ g6) (hts _ g7) hc1 hcX hceT hobj2 hkT (C0.2.2.2.2.2.2.2.2.2.2.2.2.2.2.1.2 _ g8 _ _ hcX hc1) hass
    obtain ⟨vm', S4, hgo4⟩ := K1
    have hL3 : XLs ad' M1.2.2.2.1 lv ls := ⟨hL.1, hL.2.1, fun i v hi => ⟨by rw [tv_ag hag2.1 (hL.2.2 i v hi).2]; exact (hL.2.2 i v hi).1, vok_mono hag2.2.1 (hL.2.2 i v hi).2⟩⟩
    have Wn : W p l e R s m args below meth c T'.heap (locs ++ L) (M.2.2.2.2.2.1 - c0 + (M1.2.2.2.2.2.1 - M.2.2.2.2.2.1)) (M.2.2.2.2.2.2 - w0 + (M1.2.2.2.2.2.2 - M.2.2.2.2.2.2)) (XEnd below D K A ad0 k0 o M' args s (M'.2.2.2.2.2.1 - c0) (M'.2.2.2.2.2.2 - w0)) (F0 m hp ls [.ref x]) := by
      have fin : ∀ ls' : Array Slot, lv_has ls' lv.length ((k, .ref x) :: (xlst ad' lv).filter (fun q => !(q.1 == k) && !(q.1 + 1 == k && q.2.category == 2))) → W p l e R s m args below meth c T'.heap (locs ++ L) (M.2.2.2.2.2.1 - c0 + (M1.2.2.2.2.2.1 - M.2.2.2.2.2.1)) (M.2.2.2.2.2.2 - w0 + (M1.2.2.2.2.2.2 - M.2.2.2.2.2.2)) (XEnd below D K A ad0 k0 o M' args s (M'.2.2.2.2.2.1 - c0) (M'.2.2.2.2.2.2 - w0)) (F0 m h' ls' []) := by
        intro ls' hls'
        have kk := GN.2 p l e R s m args below meth c D K A ad0 k0 c0 w0 ad' T'.heap (locs ++ L) ls' ⟨C0, X3, hS3, hL3.store0 hk2 hk1 hls', fun v hv => (by cases hv), by rw [List.length_set]; exact hlen, ⟨fun q hq => by rw [hag2.1 q (Nat.lt_of_lt_of_le hq (hag.2.1 _))]; exact hag.1 q hq, fun i => Nat.le_trans (hag.2.1 i) (hag2.2.1 i), fun i hi => (hag2.2.2 i hi).trans (hag.2.2 i hi)⟩, ⟨by omega, by omega, hcw.2.2.1, hcw.2.2.2⟩⟩
        have eq1 : M.2.2.2.2.2.1 - c0 + (M1.2.2.2.2.2.1 - M.2.2.2.2.2.1) = M1.2.2.2.2.2.1 - c0 := by omega
        have eq2 : M.2.2.2.2.2.2 - w0 + (M1.2.2.2.2.2.2 - M.2.2.2.2.2.2) = M1.2.2.2.2.2.2 - w0 := by omega
        rw [eq1, eq2]
        exact kk
      rcases hast with ⟨k1, hd1, hk3, rfl⟩ | ⟨hd1, rfl⟩
      · exact lv_astore_n C0.1 C0.2.1 hd1 hk3 (xlst_has hL3) hk1 rfl fin
      · exact lv_astore C0.1 C0.2.1 hd1 (xlst_has hL3) hk1 rfl fin
    obtain ⟨t2, a1, b1⟩ := Wn (T'.setVm vm') rfl S4
    exact ⟨t2, hgo _ (by rw [ht]; exact hgo4 _ a1), b1⟩
