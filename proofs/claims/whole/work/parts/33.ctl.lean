theorem XRel.moved {D : va_G} {K : Nat → ClassId} {s t : State} {A : Nat → Prop} {ad : Nat → Nat → Nat} {M : XM} {H : Heap} (X : XRel D K s A ad M H) (hW : s.vm.Alike t.vm) : XRel D K t A ad M H :=
  ⟨X.1, X.2.1, fun t1 n1 h5 hn => ⟨(X.2.2 t1 n1 h5 hn).1.moved hW, (X.2.2 t1 n1 h5 hn).2⟩⟩
theorem sd_ret {y pc : Nat} (hd : decode (xby y) pc = .ok (.return_, 1)) (hr : xrty y = none) : Snd y pc (fun _ st M => xo_ret y st M) := by
  intro f lv st M o M' h IH
  change xk (xrun f) y pc lv M (xo_ret y st M) = some (o, M') at h
  unfold xo_ret at h
  split at h
  · cases hb : Nat.beq (xrt y) 0 with
    | false => rw [hb] at h; cases h
    | true =>
      rw [hb, cond_true] at h
      cases h
      refine ⟨⟨Nat.le_refl _, Nat.le_refl _⟩, ?_⟩
      intro p l e R s m args below meth c D K A ad0 k0 c0 w0 ad H locs ls B
      obtain ⟨C, X, hS, hL, hst, hlen, hag, hcw⟩ := B
      exact W.vret C.1 C.2.1 (C.2.2.2.1.trans hr) (fun t ht hW => ⟨⟨ad, hag.1, hag.2.1, hag.2.2, by rw [ht]; exact X.moved hW.alike, fun v hv => (by cases hv), rfl⟩, hS.F ht⟩) hS.2.2 hd C.2.2.2.2.2.2.1
  · rename_i x
    cases hb : Nat.beq (xrt y) 1 with
    | true => exact absurd (xrt_ok1 y (Nat.eq_of_beq_eq_true hb)) (by rw [hr]; exact fun hz => by cases hz)
    | false =>
      rw [hb, cond_false] at h
      cases hb2 : Nat.beq (xrt y) 2 with
      | true => exact absurd (xrt_ok2 y (Nat.eq_of_beq_eq_true hb2)) (by rw [hr]; exact fun hz => by cases hz)
      | false => rw [hb2] at h; cases h
  · cases h
theorem sd_iret {y pc : Nat} (hd : decode (xby y) pc = .ok (.ireturn, 1)) (hr : xrty y = some .int) : Snd y pc (fun _ st M => xo_ret y st M) := by
  intro f lv st M o M' h IH
  change xk (xrun f) y pc lv M (xo_ret y st M) = some (o, M') at h
  unfold xo_ret at h
  split at h
  · cases hb : Nat.beq (xrt y) 0 with
    | true => exact absurd (xrt_ok0 y (Nat.eq_of_beq_eq_true hb)) (by rw [hr]; exact fun hz => by cases hz)
    | false => rw [hb] at h; cases h
  · rename_i x
    cases hb : Nat.beq (xrt y) 1 with
    | true =>
      rw [hb, cond_true] at h
      cases h
      refine ⟨⟨Nat.le_refl _, Nat.le_refl _⟩, ?_⟩
      intro p l e R s m args below meth c D K A ad0 k0 c0 w0 ad H locs ls B
      obtain ⟨C, X, hS, hL, hst, hlen, hag, hcw⟩ := B
      exact W.iret C.1 C.2.1 (C.2.2.2.1.trans hr) (fun t ht hW => ⟨⟨ad, hag.1, hag.2.1, hag.2.2, by rw [ht]; exact X.moved hW.alike, fun v hv => (by cases hv; trivial), rfl⟩, hS.F ht⟩) hS.2.2 hd C.2.2.2.2.2.2.1
    | false =>
      rw [hb, cond_false] at h
      cases hb2 : Nat.beq (xrt y) 2 with
      | true => exact absurd (xrt_ok2 y (Nat.eq_of_beq_eq_true hb2)) (by rw [hr]; exact fun hz => by cases hz)
      | false => rw [hb2] at h; cases h
  · cases h
theorem sd_zret {y pc : Nat} (hd : decode (xby y) pc = .ok (.ireturn, 1)) (hr : xrty y = some .boolean) : Snd y pc (fun _ st M => xo_ret y st M) := by
  intro f lv st M o M' h IH
  change xk (xrun f) y pc lv M (xo_ret y st M) = some (o, M') at h
  unfold xo_ret at h
  split at h
  · cases hb : Nat.beq (xrt y) 0 with
    | true => exact absurd (xrt_ok0 y (Nat.eq_of_beq_eq_true hb)) (by rw [hr]; exact fun hz => by cases hz)
    | false => rw [hb] at h; cases h
  · rename_i x
    cases hb : Nat.beq (xrt y) 1 with
    | true => exact absurd (xrt_ok1 y (Nat.eq_of_beq_eq_true hb)) (by rw [hr]; exact fun hz => by cases hz)
    | false =>
      rw [hb, cond_false] at h
      cases hb2 : Nat.beq (xrt y) 2 with
      | false => rw [hb2] at h; cases h
      | true =>
        rw [hb2, cond_true] at h
        by_cases hx : x = 0 ∨ x = 1
        case neg => rw [if_neg hx] at h; cases h
        rw [if_pos hx] at h
        cases h
        refine ⟨⟨Nat.le_refl _, Nat.le_refl _⟩, ?_⟩
        intro p l e R s m args below meth c D K A ad0 k0 c0 w0 ad H locs ls B
        obtain ⟨C, X, hS, hL, hst, hlen, hag, hcw⟩ := B
        exact W.zret C.1 C.2.1 (C.2.2.2.1.trans hr) (by rcases hx with rfl | rfl <;> rfl) (fun t ht hW => ⟨⟨ad, hag.1, hag.2.1, hag.2.2, by rw [ht]; exact X.moved hW.alike, fun v hv => (by cases hv; trivial), rfl⟩, hS.F ht⟩) hS.2.2 hd C.2.2.2.2.2.2.1
  · cases h
theorem sd_lookup {y pc : Nat} {dflt : Int} {ps : Array (Int × Int)} {len d : Nat} {qs : List (Int32 × Nat)} (hd : decode (xby y) pc = .ok (.lookupswitch dflt ps, len)) (hp : (ps.toList.zip (ps.toList.drop 1)).all (fun (a, next) => a.1 < next.1) = true) (hm : ∀ x : Int32, (pc : Int) + Op.lookupswitch.offset ps.toList dflt x.toInt = ((xsw x d qs : Nat) : Int)) : Snd y pc (xo_switch d qs) := by
  intro f lv st M o M' h IH
  unfold xo_switch at h
  split at h
  · exact XG.pure (IH _ _ _ _ _ _ _ h) (fun z => z.tail) (fun p l e R s m args below meth c D K A ad H locs ls cells slots Q C X hS hL hst hlen hc hs k => lv_lookup C.1 C.2.1 hd hp rfl (hm _) k)
  · cases h
theorem sd_table {y pc : Nat} {dflt lo hi : Int} {offs : Array Int} {len d : Nat} {qs : List (Int32 × Nat)} (hd : decode (xby y) pc = .ok (.tableswitch dflt lo hi offs, len)) (hm : ∀ x : Int32, (x.toInt < lo ∨ hi < x.toInt → (pc : Int) + dflt = ((xsw x d qs : Nat) : Int)) ∧ (¬ (x.toInt < lo ∨ hi < x.toInt) → ∃ off, offs[(x.toInt - lo).toNat]? = some off ∧ (pc : Int) + off = ((xsw x d qs : Nat) : Int))) : Snd y pc (xo_switch d qs) := by
  intro f lv st M o M' h IH
  unfold xo_switch at h
  split at h
  · rename_i x r
    by_cases hx : x.toInt < lo ∨ hi < x.toInt
    · exact XG.pure (IH _ _ _ _ _ _ _ h) (fun z => z.tail) (fun p l e R s m args below meth c D K A ad H locs ls cells slots Q C X hS hL hst hlen hc hs k => lv_tableOut C.1 C.2.1 hd hx ((hm x).1 hx) k)
    · obtain ⟨off, h1, h2⟩ := (hm x).2 hx
      exact XG.pure (IH _ _ _ _ _ _ _ h) (fun z => z.tail) (fun p l e R s m args below meth c D K A ad H locs ls cells slots Q C X hS hL hst hlen hc hs k => lv_tableIn C.1 C.2.1 hd (fun q => hx (Or.inl q)) (fun q => hx (Or.inr q)) h1 h2 k)
  · cases h
theorem xsum_cat {ad : Nat → Nat → Nat} {r : List XV} : ((r.map (tv ad)).map fun v => v.category).sum = xsum r := by
  induction r with
  | nil => rfl
  | cons v r ih => simp only [List.map_cons, List.sum_cons, xsum, ih, tv_cat]
theorem sd_objinit {y pc idx : Nat} (hd : decode (xby y) pc = .ok (.invokespecial idx, 3)) (h1 : Cond.methodLink (xown y) idx Lib.objectInit ∈ xall) (h2 : Cond.instanceMethod Lib.objectInit ∈ xall) (h3 : Cond.code Lib.objectInit ⟨#[0xb1]⟩ 1 none ∈ xall) (h4 : 1 ≤ xdp y ∧ 21 ≤ xlo y) : Snd y pc (xo_objinit pc 3) := by
  intro f lv st M o M' h IH
  unfold xo_objinit at h
  split at h
  · rename_i q r
    cases hb : Nat.ble (xsum r) 8 with
    | false => rw [hb] at h; cases h
    | true =>
      rw [hb, cond_true] at h
      have hr : xsum r ≤ 8 := Nat.le_of_ble_eq_true hb
      refine XG.pure (IH _ _ _ _ _ _ _ h) (fun z => z.tail) (fun p l e R s m args below meth c D K A ad H locs ls cells slots Q C X hS hL hst hlen hc hs k => ?_)
      have hR1 := C.2.2.2.2.2.2.2.2.2.2.1
      have hR2 := C.2.2.2.2.2.2.2.2.2.2.2.1
      refine W.objInit C.1 C.2.1 C.2.2.2.2.2.1 (C.2.2.2.2.1 _ h1) (C.2.2.2.2.1 _ h2) (C.2.2.2.2.1 _ h3) rfl (by rw [C.2.2.1, ← hlen]; exact hL.1) rfl hd (by omega) ?_ k
      rw [xsum_cat]
      show 2 * 0 + xsum r + 12 ≤ R.locals
      omega
  · cases h
theorem sd_abs {y pc idx : Nat} (hd : decode (xby y) pc = .ok (.invokestatic idx, 3)) (h1 : Cond.methodLink (xown y) idx Lib.Math.abs.name ∈ xall) (h2 : Cond.static Lib.Math.abs.name ∈ xall) (h3 : Cond.initialized "java/lang/Math" ∈ xall) (h4 : Cond.code Lib.Math.abs.name Lib.Math.abs.code 1 (some .int) ∈ xall) (h5 : 1 ≤ xdp y ∧ 21 ≤ xlo y) : Snd y pc (xo_abs pc 3) := by
  intro f lv st M o M' h IH
  unfold xo_abs at h
  split at h
  · rename_i x r
    cases hb : Nat.ble (xsum r) 8 with
    | false => rw [hb] at h; cases h
    | true =>
      rw [hb, cond_true] at h
      have hr : xsum r ≤ 8 := Nat.le_of_ble_eq_true hb
      refine XG.pure (IH _ _ _ _ _ _ _ h) (fun z => XSt.cons trivial z.tail) (fun p l e R s m args below meth c D K A ad H locs ls cells slots Q C X hS hL hst hlen hc hs k => ?_)
      have hR1 := C.2.2.2.2.2.2.2.2.2.2.1
      have hR2 := C.2.2.2.2.2.2.2.2.2.2.2.1
      refine va_mabs C.1 C.2.1 (by rw [C.2.2.1, ← hlen]; exact hL.1.symm) C.2.2.2.2.2.1 (C.2.2.2.2.1 _ h1) (C.2.2.2.2.1 _ h2) (C.2.2.2.2.1 _ h3) (C.2.2.2.2.1 _ h4) (by omega) ?_ hc hs hd k
      rw [xsum_cat]
      omega
  · cases h
theorem sd_max {y pc idx : Nat} (hd : decode (xby y) pc = .ok (.invokestatic idx, 3)) (h1 : Cond.methodLink (xown y) idx Lib.Math.max.name ∈ xall) (h2 : Cond.static Lib.Math.max.name ∈ xall) (h3 : Cond.initialized "java/lang/Math" ∈ xall) (h4 : Cond.code Lib.Math.max.name Lib.Math.max.code 2 (some .int) ∈ xall) (h5 : 1 ≤ xdp y ∧ 21 ≤ xlo y) : Snd y pc (xo_max pc 3) := by
  intro f lv st M o M' h IH
  unfold xo_max at h
  split at h
  · rename_i y1 x1 r
    cases hb : Nat.ble (xsum r) 8 with
    | false => rw [hb] at h; cases h
    | true =>
      rw [hb, cond_true] at h
      have hr : xsum r ≤ 8 := Nat.le_of_ble_eq_true hb
      refine XG.pure (IH _ _ _ _ _ _ _ h) (fun z => XSt.cons trivial z.tail.tail) (fun p l e R s m args below meth c D K A ad H locs ls cells slots Q C X hS hL hst hlen hc hs k => ?_)
      have hR1 := C.2.2.2.2.2.2.2.2.2.2.1
      have hR2 := C.2.2.2.2.2.2.2.2.2.2.2.1
      refine va_mmax C.1 C.2.1 (by rw [C.2.2.1, ← hlen]; exact hL.1.symm) C.2.2.2.2.2.1 (C.2.2.2.2.1 _ h1) (C.2.2.2.2.1 _ h2) (C.2.2.2.2.1 _ h3) (C.2.2.2.2.1 _ h4) (by omega) ?_ hc hs hd k
      rw [xsum_cat]
      omega
  · cases h
/-! making -/
def xad (ad : Nat → Nat → Nat) (t n a : Nat) : Nat → Nat → Nat := fun t' n' => if t' = t then (if n' = n then a else ad t' n') else ad t' n'
theorem xad_on {ad : Nat → Nat → Nat} {t n a : Nat} : xad ad t n a t n = a := by simp [xad]
theorem xad_off {ad : Nat → Nat → Nat} {t n a : Nat} {q : XR} (h : q ≠ (t, n)) : xad ad t n a q.1 q.2 = ad q.1 q.2 := by
  unfold xad
  by_cases h1 : q.1 = t
  · by_cases h2 : q.2 = n
    · exact absurd (Prod.ext h1 h2) h
    · simp [h2]
  · simp [h1]
theorem xad_old {ad : Nat → Nat → Nat} {k : Nat → Nat} {t a : Nat} {q : XR} (h : q.2 < k q.1) : xad ad t (k t) a q.1 q.2 = ad q.1 q.2 := xad_off (fun hz => by subst hz; exact Nat.lt_irrefl _ h)
theorem tv_old {ad : Nat → Nat → Nat} {k : Nat → Nat} {t a : Nat} {v : XV} (h : vok k v) : tv (xad ad t (k t) a) v = tv ad v := by
  rcases v with x | x | x
  · rfl
  · rfl
  · cases x with
    | none => rfl
    | some q => show Value.ref _ = Value.ref _; rw [xad_old (h : q.2 < k q.1)]
theorem vok_up {k : Nat → Nat} {t : Nat} {v : XV} (h : vok k v) : vok (up1 k t) v := by
  rcases v with x | x | x
  · trivial
  · trivial
  · cases x with
    | none => trivial
    | some q =>
      show q.2 < up1 k t q.1
      have h1 : q.2 < k q.1 := h
      unfold up1
      split
      · rename_i h2; rw [h2] at h1; omega
      · exact h1
theorem up2_off {α : Type} {f : Nat → Nat → Nat → α} {t n : Nat} {v : α} {q : XR} (h : q ≠ (t, n)) : up2 f t n v q.1 q.2 = f q.1 q.2 := by
  funext k'
  unfold up2
  by_cases h1 : q.1 = t
  · by_cases h2 : q.2 = n
    · exact absurd (Prod.ext h1 h2) h
    · simp [h2]
  · simp [h1]
theorem up2_on {α : Type} {f : Nat → Nat → Nat → α} {t n : Nat} {v : α} {k' : Nat} : up2 f t n v t n k' = v := by simp [up2]
theorem xce_grow {K : Nat → ClassId} {ad : Nat → Nat → Nat} {M : XM} {t a : Nat} {q : XR} (hq : q.2 < M.2.2.2.1 q.1) (hcl : ∀ (t n k : Nat) (q : XR), M.2.2.1 t n k = some q → q.2 < M.2.2.2.1 q.1) : xce K (xad ad t (M.2.2.2.1 t) a) (xmake t M) q = xce K ad M q := by
  have hne : q ≠ (t, M.2.2.2.1 t) := fun hz => by subst hz; exact Nat.lt_irrefl _ hq
  have h0 : xce K (xad ad t (M.2.2.2.1 t) a) (xmake t M) q = xce K (xad ad t (M.2.2.2.1 t) a) M q := xce_congr (up2_off hne) (up2_off hne) (up2_off hne)
  rw [h0]
  have hr : ∀ k, xrf (xad ad t (M.2.2.2.1 t) a) (M.2.2.1 q.1 q.2 k) = xrf ad (M.2.2.1 q.1 q.2 k) := by
    intro k
    cases hz : M.2.2.1 q.1 q.2 k with
    | none => rfl
    | some r =>
      show some (xad ad t (M.2.2.2.1 t) a r.1 r.2) = some (ad r.1 r.2)
      rw [xad_old (hcl _ _ _ _ hz)]
  have h4 : xfv (xad ad t (M.2.2.2.1 t) a) M q.1 q.2 = xfv ad M q.1 q.2 := by
    funext k
    unfold xfv
    rw [hr]
  have h5 : (fun k => xrf (xad ad t (M.2.2.2.1 t) a) (M.2.2.1 q.1 q.2 k)) = fun k => xrf ad (M.2.2.1 q.1 q.2 k) := funext hr
  unfold xce
  rw [h4, h5, xad_old hq]
theorem XLs.grow {ad : Nat → Nat → Nat} {k : Nat → Nat} {lv : XL} {ls : Array Slot} {t a : Nat} (h : XLs ad k lv ls) : XLs (xad ad t (k t) a) (up1 k t) lv ls :=
  ⟨h.1, h.2.1, fun i v hi => ⟨by rw [tv_old (h.2.2 i v hi).2]; exact (h.2.2 i v hi).1, vok_up (h.2.2 i v hi).2⟩⟩
theorem XSt.grow {k : Nat → Nat} {st : List XV} {t : Nat} (h : XSt k st) : XSt (up1 k t) st := fun v hv => vok_up (h v hv)
theorem map_old {ad : Nat → Nat → Nat} {k : Nat → Nat} {st : List XV} {t a : Nat} (h : XSt k st) : st.map (tv (xad ad t (k t) a)) = st.map (tv ad) := List.map_congr_left (fun v hv => tv_old (h v hv))
theorem up1_on {k : Nat → Nat} {t : Nat} : up1 k t t = k t + 1 := by simp [up1]
theorem up1_le {k : Nat → Nat} {t i : Nat} : k i ≤ up1 k t i := by
  unfold up1
  split
  · rename_i h; subst h; omega
  · exact Nat.le_refl _
theorem XRel.grow {D : va_G} {K : Nat → ClassId} {s : State} {A : Nat → Prop} {ad : Nat → Nat → Nat} {M : XM} {H H1 : Heap} {locs locs1 : List Loc} {t a : Nat} {e : va_E} (hA : ∀ q : Nat, s.heap.size ≤ q → A q) (X : XRel D K s A ad M H) (hS : va_S A s.heap H locs) (hS1 : va_S A s.heap H1 locs1) {ob : List XR} (hob : ∀ q : XR, q ∈ ob ↔ (xkt q.1 ≠ 5 ∧ q.2 < M.2.2.2.1 q.1)) (ht : xkt t ≠ 5)
    (hP1 : va_P D xcl (ob.map (xce K ad M) ++ [(a, e)]) H1) (hD1 : va_D A (ob.map (xce K ad M) ++ [(a, e)])) (he : xce K (xad ad t (M.2.2.2.1 t) a) (xmake t M) (t, M.2.2.2.1 t) = (a, e)) : XRel D K s A (xad ad t (M.2.2.2.1 t) a) (xmake t M) H1 := by
  have hmap : (ob ++ [(t, M.2.2.2.1 t)]).map (xce K (xad ad t (M.2.2.2.1 t) a) (xmake t M)) = ob.map (xce K ad M) ++ [(a, e)] := by
    rw [List.map_append, List.map_cons, he, List.map_nil]
    congr 1
    exact List.map_congr_left (fun q hq => xce_grow ((hob q).mp hq).2 X.2.1)
  refine ⟨⟨ob ++ [(t, M.2.2.2.1 t)], fun q => ?_, by rw [hmap]; exact hP1, by rw [hmap]; exact hD1⟩, fun t1 n1 k1 q hq => ?_, fun t1 n1 h5 hn => ?_⟩
  · rw [List.mem_append, List.mem_singleton, hob q]
    show _ ↔ (xkt q.1 ≠ 5 ∧ q.2 < up1 M.2.2.2.1 t q.1)
    unfold up1
    constructor
    · rintro (⟨h1, h2⟩ | h)
      · refine ⟨h1, ?_⟩
        split
        · rename_i h3; rw [h3] at h2; omega
        · exact h2
      · subst h
        exact ⟨ht, by simp⟩
    · rintro ⟨h1, h2⟩
      split at h2
      · rename_i h3
        by_cases h4 : q.2 = M.2.2.2.1 t
        · exact Or.inr (Prod.ext h3 h4)
        · exact Or.inl ⟨h1, by rw [h3]; omega⟩
      · exact Or.inl ⟨h1, h2⟩
  · have h1 : (xmake t M).2.2.1 t1 n1 k1 = up2 M.2.2.1 t (M.2.2.2.1 t) none t1 n1 k1 := rfl
    rw [h1] at hq
    have h2 : q.2 < M.2.2.2.1 q.1 := by
      by_cases hz : (t1, n1) = (t, M.2.2.2.1 t)
      · cases hz
        rw [up2_on] at hq
        cases hq
      · have h7 := congrFun (up2_off (f := M.2.2.1) (v := none) (q := (t1, n1)) hz) k1
        exact X.2.1 t1 n1 k1 q (h7.symm.trans hq)
    exact Nat.lt_of_lt_of_le h2 up1_le
  · have hne : t1 ≠ t := fun hz => by subst hz; exact ht h5
    have hn' : n1 < M.2.2.2.1 t1 := by
      have : n1 < up1 M.2.2.2.1 t t1 := hn
      unfold up1 at this
      rw [if_neg hne] at this
      exact this
    obtain ⟨x1, x3⟩ := X.2.2 t1 n1 h5 hn'
    have x2 : ad t1 n1 < s.heap.size := Nat.lt_of_not_le (fun hz => x3 (hA _ hz))
    have e1 : xad ad t (M.2.2.2.1 t) a t1 n1 = ad t1 n1 := xad_off (q := (t1, n1)) (fun hz => hne (congrArg Prod.fst hz))
    have e2 : (xmake t M).1 t1 n1 = M.1 t1 n1 := up2_off (q := (t1, n1)) (fun hz => hne (congrArg Prod.fst hz))
    rw [e1, e2]
    exact ⟨x1.kept ((hS1.2.1 _ x2 x3).trans (hS.2.1 _ x2 x3).symm), x3⟩
theorem sd_new {y pc index t ci : Nat} {C : String} {T : u_T} {N : Nat} (hd : decode (xby y) pc = .ok (.new index, 3)) (hci : xkc t = ci) (hcl : xcl[ci]? = some (C, T, N)) (hin : ∀ w ∈ u_ws C T N, w ∈ xall) (ty : Nat → FieldType) (hty : ∀ k, k < N → parseFieldDescriptor (T k).2.2.1 = some (ty k)) (h1 : Cond.classLink (xown y) index C ∈ xall) (h2 : Cond.instantiable C N ∈ xall) (h3 : Cond.initialized C ∈ xall)
    (hdef : ∀ j, j < N → defaultValue (ty j) = if xst ci j = 1 then .null else .int 0) : Snd y pc (xo_new t pc 3) := by
  intro f lv st M o M' h IH
  unfold xo_new at h
  cases hb : Nat.beq (xkt t) 0 with
  | false => rw [hb] at h; cases h
  | true =>
    rw [hb, cond_true] at h
    have e1 : xkt t = 0 := Nat.eq_of_beq_eq_true hb
    have e3 : xkn t = N := xkn_of e1 hci hcl
    have hn := IH _ _ _ _ _ _ _ h
    have hm := hn.1
    have hm1 : M.2.2.2.2.2.1 + 1 ≤ M'.2.2.2.2.2.1 := hm.1
    have hm2 : M.2.2.2.2.2.2 + xkn t ≤ M'.2.2.2.2.2.2 := hm.2
    refine ⟨⟨by omega, by omega⟩, ?_⟩
    intro p l e R s m args below meth c D K A ad0 k0 c0 w0 ad H locs ls B
    obtain ⟨C0, X, hS, hL, hst, hlen, hag, hcw⟩ := B
    have X0 := X
    obtain ⟨⟨ob, hob, hP, hD⟩, -, -⟩ := X0
    refine va_new (ci := ci) (fs := (List.range N).map (fun j => if xst ci j = 1 then Value.null else .int 0)) C0.1 C0.2.1 C0.2.2.2.2.1 hin ty hty C0.2.2.2.2.2.1 (C0.2.2.2.2.1 _ h1) (C0.2.2.2.2.1 _ h2) (C0.2.2.2.2.1 _ h3) C0.2.2.2.2.2.2.2.2.1 hP hD hS C0.2.2.2.2.2.2.2.2.2.2.2.2.1 hcl (fun j hj => by rw [hdef j hj]; simp [vp_V, hj]) (by omega) (by omega) hd (fun q H1 hP1 hD1 hS1 => ?_)
    have hce : xce K (xad ad t (M.2.2.2.1 t) q) (xmake t M) (t, M.2.2.2.1 t) = (q, .inr (ci, (List.range N).map (fun j => if xst ci j = 1 then Value.null else .int 0))) := by
      unfold xce
      simp only [e1, hci, e3, if_true, xad_on]
      congr 3
      apply List.map_congr_left
      intro j hj
      unfold xfv
      rw [hci]
      have g1 : (xmake t M).2.2.1 t (M.2.2.2.1 t) j = none := up2_on
      have g2 : (xmake t M).1 t (M.2.2.2.1 t) j = 0 := by show up2 M.1 t _ 0 t _ j = 0; simp [up2]
      rw [g1, g2]
      rfl
    have X1 := XRel.grow (hA := C0.2.2.2.2.2.2.2.2.2.2.2.2.1) X hS hS1 hob (by rw [e1]; decide) hP1 hD1 hce
    have k := hn.2 p l e R s m args below meth c D K A ad0 k0 c0 w0 (xad ad t (M.2.2.2.1 t) q) H1 locs ls ⟨C0, X1, hS1, hL.grow, XSt.cons (by show M.2.2.2.1 t < up1 M.2.2.2.1 t t; rw [up1_on]; omega) hst.grow, hlen, ⟨fun r hr => by rw [xad_old (Nat.lt_of_lt_of_le hr (hag.2.1 _))]; exact hag.1 r hr, fun i => Nat.le_trans (hag.2.1 i) up1_le, fun i hi => by show up1 M.2.2.2.1 t i = _; unfold up1; rw [if_neg (fun hz => by rw [hz, e1] at hi; cases hi)]; exact hag.2.2 i hi⟩, ⟨by show c0 ≤ M.2.2.2.2.2.1 + 1; omega, by show w0 ≤ M.2.2.2.2.2.2 + xkn t; omega, hcw.2.2.1, hcw.2.2.2⟩⟩
    have eq1 : (xmake t M).2.2.2.2.2.1 - c0 = M.2.2.2.2.2.1 - c0 + 1 := by show M.2.2.2.2.2.1 + 1 - c0 = _; omega
    have eq2 : (xmake t M).2.2.2.2.2.2 - w0 = M.2.2.2.2.2.2 - w0 + N := by show M.2.2.2.2.2.2 + xkn t - w0 = _; omega
    rw [eq1, eq2] at k
    have eq3 : (.inr (.inr (some (t, M.2.2.2.1 t))) :: st : List XV).map (tv (xad ad t (M.2.2.2.1 t) q)) = .ref q :: st.map (tv ad) := by
      rw [List.map_cons, map_old hst]
      show Value.ref (xad ad t _ q t _) :: _ = _
      rw [xad_on]
    rw [eq3] at k
    exact k
theorem xK_arr {D : va_G} {K : Nat → ClassId} {s : State} {cA : ClassId} {ty : FieldType} {j : Nat} (hK : va_K D xcl (xtys K) s) (hj : (xtys K)[j]? = some (K j, ty)) (h1 : va_K D xcl (xtys K ++ [(cA, ty)]) s) (hfc : ∀ c : ClassId, va_RA s c ty → s.vm.findClass ("[" ++ ty.toString) = some c) : cA = K j := by
  have g1 := hfc _ (hK.2 j _ hj).2
  have hl : (xtys K ++ [(cA, ty)])[(xtys K).length]? = some (cA, ty) := by simp
  have g2 := hfc _ (h1.2 _ _ hl).2
  exact Option.some.inj (g2.symm.trans g1)
theorem fc_int {s : State} : ∀ c : ClassId, va_RA s c .int → s.vm.findClass ("[" ++ FieldType.int.toString) = some c := fun _ h => h
theorem fc_bool {s : State} : ∀ c : ClassId, va_RA s c .boolean → s.vm.findClass ("[" ++ FieldType.boolean.toString) = some c := fun _ h => h
theorem fc_long {s : State} : ∀ c : ClassId, va_RA s c .long → s.vm.findClass ("[" ++ FieldType.long.toString) = some c := fun _ h => h
theorem fc_obj {s : State} {C : String} : ∀ c : ClassId, va_RA s c (.object C) → s.vm.findClass ("[" ++ (FieldType.object C).toString) = some c := fun _ h => by
  obtain ⟨kA, comp, -, -, -, h4⟩ := h
  exact h4
theorem sd_newi {y pc t : Nat} (hd : decode (xby y) pc = .ok (.newarray .int, 2)) (hw : Cond.arrayClass .int ∈ xall) (hbig : xkn t < 1000000) : Snd y pc (xo_newa 1 t pc 2) := by
  intro f lv st M o M' h IH
  unfold xo_newa at h
  split at h
  · rename_i x r
    cases hb : (Nat.beq (xkt t) 1 && decide (x = Int32.ofNat (xkn t))) with
    | false => rw [hb] at h; cases h
    | true =>
      rw [hb, cond_true] at h
      simp only [Bool.and_eq_true] at hb
      have e1 : xkt t = 1 := Nat.eq_of_beq_eq_true hb.1
      have e2 : x = nI (xkn t) := of_decide_eq_true hb.2
      have hn := IH _ _ _ _ _ _ _ h
      have hm := hn.1
      have hm1 : M.2.2.2.2.2.1 + 1 ≤ M'.2.2.2.2.2.1 := hm.1
      have hm2 : M.2.2.2.2.2.2 + xkn t ≤ M'.2.2.2.2.2.2 := hm.2
      refine ⟨⟨by omega, by omega⟩, ?_⟩
      intro p l e R s m args below meth c D K A ad0 k0 c0 w0 ad H locs ls B
      obtain ⟨C0, X, hS, hL, hst, hlen, hag, hcw⟩ := B
      have X0 := X
      obtain ⟨⟨ob, hob, hP, hD⟩, -, -⟩ := X0
      have hxn : xkn t < 2 ^ 31 := by omega
      refine va_newa (N' := xkn t) (a0 := (xkn t, .inl (fun _ => 0))) C0.1 C0.2.1 (C0.2.2.2.2.1 _ hw) (atype := .int) (ty := .int) rfl C0.2.2.2.2.2.2.2.2.1 hP hD hS C0.2.2.2.2.2.2.2.2.2.2.2.2.1 (fun cA => rfl) (by rw [e2]; exact nI_pos hxn) (by rw [e2]; exact nI_clamp hxn) (by simp only [componentBytes]; omega) (by omega) (by omega) hd (fun q cA H1 hK1 hP1 hD1 hS1 => ?_)
      have hcA : cA = K 0 := xK_arr C0.2.2.2.2.2.2.2.2.1 (j := 0) rfl hK1 fc_int
      subst hcA
      have hce : xce K (xad ad t (M.2.2.2.1 t) q) (xmake t M) (t, M.2.2.2.1 t) = (q, .inl (K 0, (xkn t, .inl (fun _ => 0)))) := by
        unfold xce
        simp only [e1, xad_on]
        have hf : (xmake t M).1 t (M.2.2.2.1 t) = fun _ => (0 : Int32) := by funext j; exact up2_on
        simp [hf]
      have X1 := XRel.grow (hA := C0.2.2.2.2.2.2.2.2.2.2.2.2.1) X hS hS1 hob (by rw [e1]; decide) hP1 hD1 hce
      have k := hn.2 p l e R s m args below meth c D K A ad0 k0 c0 w0 (xad ad t (M.2.2.2.1 t) q) H1 locs ls ⟨C0, X1, hS1, hL.grow, XSt.cons (by show M.2.2.2.1 t < up1 M.2.2.2.1 t t; rw [up1_on]; omega) hst.tail.grow, hlen, ⟨fun r hr => by rw [xad_old (Nat.lt_of_lt_of_le hr (hag.2.1 _))]; exact hag.1 r hr, fun i => Nat.le_trans (hag.2.1 i) up1_le, fun i hi => by show up1 M.2.2.2.1 t i = _; unfold up1; rw [if_neg (fun hz => by rw [hz, e1] at hi; cases hi)]; exact hag.2.2 i hi⟩, ⟨by show c0 ≤ M.2.2.2.2.2.1 + 1; omega, by show w0 ≤ M.2.2.2.2.2.2 + xkn t; omega, hcw.2.2.1, hcw.2.2.2⟩⟩
      have eq1 : (xmake t M).2.2.2.2.2.1 - c0 = M.2.2.2.2.2.1 - c0 + 1 := by show M.2.2.2.2.2.1 + 1 - c0 = _; omega
      have eq2 : (xmake t M).2.2.2.2.2.2 - w0 = M.2.2.2.2.2.2 - w0 + xkn t := by show M.2.2.2.2.2.2 + xkn t - w0 = _; omega
      rw [eq1, eq2] at k
      have eq3 : (.inr (.inr (some (t, M.2.2.2.1 t))) :: r : List XV).map (tv (xad ad t (M.2.2.2.1 t) q)) = .ref q :: r.map (tv ad) := by
        rw [List.map_cons, map_old hst.tail]
        show Value.ref (xad ad t _ q t _) :: _ = _
        rw [xad_on]
      rw [eq3] at k
      exact k
  · cases h
theorem sd_newz {y pc t : Nat} (hd : decode (xby y) pc = .ok (.newarray .boolean, 2)) (hw : Cond.arrayClass .boolean ∈ xall) (hbig : xkn t < 1000000) : Snd y pc (xo_newa 2 t pc 2) := by
  intro f lv st M o M' h IH
  unfold xo_newa at h
  split at h
  · rename_i x r
    cases hb : (Nat.beq (xkt t) 2 && decide (x = Int32.ofNat (xkn t))) with
    | false => rw [hb] at h; cases h
    | true =>
      rw [hb, cond_true] at h
      simp only [Bool.and_eq_true] at hb
      have e1 : xkt t = 2 := Nat.eq_of_beq_eq_true hb.1
      have e2 : x = nI (xkn t) := of_decide_eq_true hb.2
      have hn := IH _ _ _ _ _ _ _ h
      have hm := hn.1
      have hm1 : M.2.2.2.2.2.1 + 1 ≤ M'.2.2.2.2.2.1 := hm.1
      have hm2 : M.2.2.2.2.2.2 + xkn t ≤ M'.2.2.2.2.2.2 := hm.2
      refine ⟨⟨by omega, by omega⟩, ?_⟩
      intro p l e R s m args below meth c D K A ad0 k0 c0 w0 ad H locs ls B
      obtain ⟨C0, X, hS, hL, hst, hlen, hag, hcw⟩ := B
      have X0 := X
      obtain ⟨⟨ob, hob, hP, hD⟩, -, -⟩ := X0
      have hxn : xkn t < 2 ^ 31 := by omega
      refine va_newa (N' := xkn t) (a0 := (xkn t, .inl (fun _ => 0))) C0.1 C0.2.1 (C0.2.2.2.2.1 _ hw) (atype := .boolean) (ty := .boolean) rfl C0.2.2.2.2.2.2.2.2.1 hP hD hS C0.2.2.2.2.2.2.2.2.2.2.2.2.1 (fun cA => rfl) (by rw [e2]; exact nI_pos hxn) (by rw [e2]; exact nI_clamp hxn) (by simp only [componentBytes]; omega) (by omega) (by omega) hd (fun q cA H1 hK1 hP1 hD1 hS1 => ?_)
      have hcA : cA = K 1 := xK_arr C0.2.2.2.2.2.2.2.2.1 (j := 1) rfl hK1 fc_bool
      subst hcA
      have hce : xce K (xad ad t (M.2.2.2.1 t) q) (xmake t M) (t, M.2.2.2.1 t) = (q, .inl (K 1, (xkn t, .inl (fun _ => 0)))) := by
        unfold xce
        simp only [e1, xad_on]
        have hf : (xmake t M).1 t (M.2.2.2.1 t) = fun _ => (0 : Int32) := by funext j; exact up2_on
        simp [hf]
      have X1 := XRel.grow (hA := C0.2.2.2.2.2.2.2.2.2.2.2.2.1) X hS hS1 hob (by rw [e1]; decide) hP1 hD1 hce
      have k := hn.2 p l e R s m args below meth c D K A ad0 k0 c0 w0 (xad ad t (M.2.2.2.1 t) q) H1 locs ls ⟨C0, X1, hS1, hL.grow, XSt.cons (by show M.2.2.2.1 t < up1 M.2.2.2.1 t t; rw [up1_on]; omega) hst.tail.grow, hlen, ⟨fun r hr => by rw [xad_old (Nat.lt_of_lt_of_le hr (hag.2.1 _))]; exact hag.1 r hr, fun i => Nat.le_trans (hag.2.1 i) up1_le, fun i hi => by show up1 M.2.2.2.1 t i = _; unfold up1; rw [if_neg (fun hz => by rw [hz, e1] at hi; cases hi)]; exact hag.2.2 i hi⟩, ⟨by show c0 ≤ M.2.2.2.2.2.1 + 1; omega, by show w0 ≤ M.2.2.2.2.2.2 + xkn t; omega, hcw.2.2.1, hcw.2.2.2⟩⟩
      have eq1 : (xmake t M).2.2.2.2.2.1 - c0 = M.2.2.2.2.2.1 - c0 + 1 := by show M.2.2.2.2.2.1 + 1 - c0 = _; omega
      have eq2 : (xmake t M).2.2.2.2.2.2 - w0 = M.2.2.2.2.2.2 - w0 + xkn t := by show M.2.2.2.2.2.2 + xkn t - w0 = _; omega
      rw [eq1, eq2] at k
      have eq3 : (.inr (.inr (some (t, M.2.2.2.1 t))) :: r : List XV).map (tv (xad ad t (M.2.2.2.1 t) q)) = .ref q :: r.map (tv ad) := by
        rw [List.map_cons, map_old hst.tail]
        show Value.ref (xad ad t _ q t _) :: _ = _
        rw [xad_on]
      rw [eq3] at k
      exact k
  · cases h
theorem sd_newl {y pc t : Nat} (hd : decode (xby y) pc = .ok (.newarray .long, 2)) (hw : Cond.arrayClass .long ∈ xall) (hbig : xkn t < 1000000) : Snd y pc (xo_newa 3 t pc 2) := by
  intro f lv st M o M' h IH
  unfold xo_newa at h
  split at h
  · rename_i x r
    cases hb : (Nat.beq (xkt t) 3 && decide (x = Int32.ofNat (xkn t))) with
    | false => rw [hb] at h; cases h
    | true =>
      rw [hb, cond_true] at h
      simp only [Bool.and_eq_true] at hb
      have e1 : xkt t = 3 := Nat.eq_of_beq_eq_true hb.1
      have e2 : x = nI (xkn t) := of_decide_eq_true hb.2
      have hn := IH _ _ _ _ _ _ _ h
      have hm := hn.1
      have hm1 : M.2.2.2.2.2.1 + 1 ≤ M'.2.2.2.2.2.1 := hm.1
      have hm2 : M.2.2.2.2.2.2 + xkn t ≤ M'.2.2.2.2.2.2 := hm.2
      refine ⟨⟨by omega, by omega⟩, ?_⟩
      intro p l e R s m args below meth c D K A ad0 k0 c0 w0 ad H locs ls B
      obtain ⟨C0, X, hS, hL, hst, hlen, hag, hcw⟩ := B
      have X0 := X
      obtain ⟨⟨ob, hob, hP, hD⟩, -, -⟩ := X0
      have hxn : xkn t < 2 ^ 31 := by omega
      refine va_newa (N' := xkn t) (a0 := (xkn t, .inr (.inl (fun _ => 0)))) C0.1 C0.2.1 (C0.2.2.2.2.1 _ hw) (atype := .long) (ty := .long) rfl C0.2.2.2.2.2.2.2.2.1 hP hD hS C0.2.2.2.2.2.2.2.2.2.2.2.2.1 (fun cA => rfl) (by rw [e2]; exact nI_pos hxn) (by rw [e2]; exact nI_clamp hxn) (by simp only [componentBytes]; omega) (by omega) (by omega) hd (fun q cA H1 hK1 hP1 hD1 hS1 => ?_)
      have hcA : cA = K 2 := xK_arr C0.2.2.2.2.2.2.2.2.1 (j := 2) rfl hK1 fc_long
      subst hcA
      have hce : xce K (xad ad t (M.2.2.2.1 t) q) (xmake t M) (t, M.2.2.2.1 t) = (q, .inl (K 2, (xkn t, .inr (.inl (fun _ => 0))))) := by
        unfold xce
        simp only [e1, xad_on]
        have hf : (xmake t M).2.1 t (M.2.2.2.1 t) = fun _ => (0 : Int64) := by funext j; exact up2_on
        simp [hf]
      have X1 := XRel.grow (hA := C0.2.2.2.2.2.2.2.2.2.2.2.2.1) X hS hS1 hob (by rw [e1]; decide) hP1 hD1 hce
      have k := hn.2 p l e R s m args below meth c D K A ad0 k0 c0 w0 (xad ad t (M.2.2.2.1 t) q) H1 locs ls ⟨C0, X1, hS1, hL.grow, XSt.cons (by show M.2.2.2.1 t < up1 M.2.2.2.1 t t; rw [up1_on]; omega) hst.tail.grow, hlen, ⟨fun r hr => by rw [xad_old (Nat.lt_of_lt_of_le hr (hag.2.1 _))]; exact hag.1 r hr, fun i => Nat.le_trans (hag.2.1 i) up1_le, fun i hi => by show up1 M.2.2.2.1 t i = _; unfold up1; rw [if_neg (fun hz => by rw [hz, e1] at hi; cases hi)]; exact hag.2.2 i hi⟩, ⟨by show c0 ≤ M.2.2.2.2.2.1 + 1; omega, by show w0 ≤ M.2.2.2.2.2.2 + xkn t; omega, hcw.2.2.1, hcw.2.2.2⟩⟩
      have eq1 : (xmake t M).2.2.2.2.2.1 - c0 = M.2.2.2.2.2.1 - c0 + 1 := by show M.2.2.2.2.2.1 + 1 - c0 = _; omega
      have eq2 : (xmake t M).2.2.2.2.2.2 - w0 = M.2.2.2.2.2.2 - w0 + xkn t := by show M.2.2.2.2.2.2 + xkn t - w0 = _; omega
      rw [eq1, eq2] at k
      have eq3 : (.inr (.inr (some (t, M.2.2.2.1 t))) :: r : List XV).map (tv (xad ad t (M.2.2.2.1 t) q)) = .ref q :: r.map (tv ad) := by
        rw [List.map_cons, map_old hst.tail]
        show Value.ref (xad ad t _ q t _) :: _ = _
        rw [xad_on]
      rw [eq3] at k
      exact k
  · cases h
theorem sd_newq {y pc t index j : Nat} {C : String} (hd : decode (xby y) pc = .ok (.anewarray index, 3)) (hw : Cond.classLink (xown y) index C ∈ xall) (ho : Cond.arrayOver (.object C) ∈ xnw) (hj : xka (xkc t) = j) (hC : ∀ K : Nat → ClassId, (xtys K)[j]? = some (K j, .object C)) (hbig : xkn t < 1000000) : Snd y pc (xo_newa 4 t pc 3) := by
  intro f lv st M o M' h IH
  unfold xo_newa at h
  split at h
  · rename_i x r
    cases hb : (Nat.beq (xkt t) 4 && decide (x = Int32.ofNat (xkn t))) with
    | false => rw [hb] at h; cases h
    | true =>
      rw [hb, cond_true] at h
      simp only [Bool.and_eq_true] at hb
      have e1 : xkt t = 4 := Nat.eq_of_beq_eq_true hb.1
      have e2 : x = nI (xkn t) := of_decide_eq_true hb.2
      have hn := IH _ _ _ _ _ _ _ h
      have hm := hn.1
      have hm1 : M.2.2.2.2.2.1 + 1 ≤ M'.2.2.2.2.2.1 := hm.1
      have hm2 : M.2.2.2.2.2.2 + xkn t ≤ M'.2.2.2.2.2.2 := hm.2
      refine ⟨⟨by omega, by omega⟩, ?_⟩
      intro p l e R s m args below meth c D K A ad0 k0 c0 w0 ad H locs ls B
      obtain ⟨C0, X, hS, hL, hst, hlen, hag, hcw⟩ := B
      have X0 := X
      obtain ⟨⟨ob, hob, hP, hD⟩, -, -⟩ := X0
      have hxn : xkn t < 2 ^ 31 := by omega
      refine va_newq (N' := xkn t) C0.1 C0.2.1 C0.2.2.2.2.2.1 (C0.2.2.2.2.1 _ hw) (C0.2.2.2.2.2.2.2.2.2.1 _ ho) C0.2.2.2.2.2.2.2.2.1 hP hD hS C0.2.2.2.2.2.2.2.2.2.2.2.2.1 (by rw [e2]; exact nI_pos hxn) (by rw [e2]; exact nI_clamp hxn) (by omega) (by omega) (by omega) hd (fun q cA H1 hK1 hP1 hD1 hS1 => ?_)
      have hcA : cA = K j := xK_arr C0.2.2.2.2.2.2.2.2.1 (hC K) hK1 fc_obj
      subst hcA
      have hce : xce K (xad ad t (M.2.2.2.1 t) q) (xmake t M) (t, M.2.2.2.1 t) = (q, .inl (K j, xkn t, .inr (.inr (.inr (.inr (fun _ => none)))))) := by
        unfold xce
        simp only [e1, xad_on, hj]
        have hf : (fun k => xrf (xad ad t (M.2.2.2.1 t) q) ((xmake t M).2.2.1 t (M.2.2.2.1 t) k)) = fun _ => none := by funext j; show xrf _ (up2 M.2.2.1 t (M.2.2.2.1 t) none t (M.2.2.2.1 t) j) = none; rw [up2_on]; rfl
        simp [hf]
      have X1 := XRel.grow (hA := C0.2.2.2.2.2.2.2.2.2.2.2.2.1) X hS hS1 hob (by rw [e1]; decide) hP1 hD1 hce
      have k := hn.2 p l e R s m args below meth c D K A ad0 k0 c0 w0 (xad ad t (M.2.2.2.1 t) q) H1 locs ls ⟨C0, X1, hS1, hL.grow, XSt.cons (by show M.2.2.2.1 t < up1 M.2.2.2.1 t t; rw [up1_on]; omega) hst.tail.grow, hlen, ⟨fun r hr => by rw [xad_old (Nat.lt_of_lt_of_le hr (hag.2.1 _))]; exact hag.1 r hr, fun i => Nat.le_trans (hag.2.1 i) up1_le, fun i hi => by show up1 M.2.2.2.1 t i = _; unfold up1; rw [if_neg (fun hz => by rw [hz, e1] at hi; cases hi)]; exact hag.2.2 i hi⟩, ⟨by show c0 ≤ M.2.2.2.2.2.1 + 1; omega, by show w0 ≤ M.2.2.2.2.2.2 + xkn t; omega, hcw.2.2.1, hcw.2.2.2⟩⟩
      have eq1 : (xmake t M).2.2.2.2.2.1 - c0 = M.2.2.2.2.2.1 - c0 + 1 := by show M.2.2.2.2.2.1 + 1 - c0 = _; omega
      have eq2 : (xmake t M).2.2.2.2.2.2 - w0 = M.2.2.2.2.2.2 - w0 + xkn t := by show M.2.2.2.2.2.2 + xkn t - w0 = _; omega
      rw [eq1, eq2] at k
      have eq3 : (.inr (.inr (some (t, M.2.2.2.1 t))) :: r : List XV).map (tv (xad ad t (M.2.2.2.1 t) q)) = .ref q :: r.map (tv ad) := by
        rw [List.map_cons, map_old hst.tail]
        show Value.ref (xad ad t _ q t _) :: _ = _
        rw [xad_on]
      rw [eq3] at k
      exact k
  · cases h
