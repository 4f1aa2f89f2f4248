theorem xkn_of {t ci : Nat} {C : String} {T : u_T} {N : Nat} (h0 : xkt t = 0) (hc : xkc t = ci) (hcl : xcl[ci]? = some (C, T, N)) : xkn t = N := by
  have h1 := xkn_ok t h0
  rw [hc, hcl] at h1
  exact (Option.some.inj h1).symm
theorem XRel.at {D : va_G} {K : Nat → ClassId} {U : State} {A : Nat → Prop} {ad : Nat → Nat → Nat} {M : XM} {H : Heap} (X : XRel D K U A ad M H) {t n : Nat} (ht : xkt t ≠ 5) (hn : n < M.2.2.2.1 t) :
    ∃ (ob : List XR) (k : Nat), (∀ q : XR, q ∈ ob ↔ (xkt q.1 ≠ 5 ∧ q.2 < M.2.2.2.1 q.1)) ∧ va_P D xcl (ob.map (xce K ad M)) H ∧ va_D A (ob.map (xce K ad M)) ∧ ob[k]? = some (t, n) ∧ (ob.map (xce K ad M))[k]? = some (xce K ad M (t, n)) := by
  obtain ⟨⟨ob, h1, h2, h3⟩, -, -⟩ := X
  obtain ⟨k, hk⟩ := List.getElem?_of_mem ((h1 (t, n)).mpr ⟨ht, hn⟩)
  exact ⟨ob, k, h1, h2, h3, hk, by rw [List.getElem?_map, hk]; rfl⟩
theorem xset {ob : List XR} {k : Nat} {q0 : XR} {f g : XR → Nat × va_E} {A : Nat → Prop} {e : Nat × va_E} (hD : va_D A (ob.map f)) (hk : ob[k]? = some q0) (hs : ∀ q, q ≠ q0 → g q = f q) (he : e = g q0) : (ob.map f).set k e = ob.map g := by
  subst he
  have hl : k < ob.length := (List.getElem?_eq_some_iff.mp hk).1
  apply List.ext_getElem?
  intro i
  by_cases hik : i = k
  · subst hik
    rw [List.getElem?_set_self (by simpa using hl), List.getElem?_map, hk]
    rfl
  · rw [List.getElem?_set_ne (Ne.symm hik), List.getElem?_map, List.getElem?_map]
    cases h : ob[i]? with
    | none => rfl
    | some q =>
      have hq : q ≠ q0 := by
        intro hz
        subst hz
        exact hik (hD.1 i k _ _ (by rw [List.getElem?_map, h]; rfl) (by rw [List.getElem?_map, hk]; rfl) rfl)
      simp [hs q hq]
theorem xce_congr {K : Nat → ClassId} {ad : Nat → Nat → Nat} {M M1 : XM} {q : XR} (h1 : M1.1 q.1 q.2 = M.1 q.1 q.2) (h2 : M1.2.1 q.1 q.2 = M.2.1 q.1 q.2) (h3 : M1.2.2.1 q.1 q.2 = M.2.2.1 q.1 q.2) : xce K ad M1 q = xce K ad M q := by
  have h4 : xfv ad M1 q.1 q.2 = xfv ad M q.1 q.2 := by
    funext k
    unfold xfv
    rw [h1, h3]
  unfold xce
  rw [h4, h1, h2, h3]
theorem up3_off {α : Type} {f : Nat → Nat → Nat → α} {t n k : Nat} {v : α} {q : XR} (h : q ≠ (t, n)) : up3 f t n k v q.1 q.2 = f q.1 q.2 := by
  funext k'
  unfold up3
  by_cases h1 : q.1 = t
  · by_cases h2 : q.2 = n
    · exact absurd (Prod.ext h1 h2) h
    · simp [h2]
  · simp [h1]
theorem up3_on {α : Type} {f : Nat → Nat → Nat → α} {t n k : Nat} {v : α} {k' : Nat} : up3 f t n k v t n k' = if k' = k then v else f t n k' := by simp [up3]
theorem XRel.step {D : va_G} {K : Nat → ClassId} {s : State} {A : Nat → Prop} {ad : Nat → Nat → Nat} {M M1 : XM} {H H1 : Heap} {locs locs1 : List Loc} (hA : ∀ q : Nat, s.heap.size ≤ q → A q) (X : XRel D K s A ad M H) (hS : va_S A s.heap H locs) (hS1 : va_S A s.heap H1 locs1) {ob : List XR} (hob : ∀ q : XR, q ∈ ob ↔ (xkt q.1 ≠ 5 ∧ q.2 < M.2.2.2.1 q.1))
    (hP1 : va_P D xcl (ob.map (xce K ad M1)) H1) (hD1 : va_D A (ob.map (xce K ad M1))) (hc : M1.2.2.2.1 = M.2.2.2.1) (hl : M1.2.2.2.2.1 = M.2.2.2.2.1) (hcl : ∀ (t n k : Nat) (q : XR), M1.2.2.1 t n k = some q → q.2 < M.2.2.2.1 q.1) (hsc : ∀ t n, xkt t = 5 → M1.1 t n = M.1 t n) : XRel D K s A ad M1 H1 := by
  refine ⟨⟨ob, by rw [hc]; exact hob, hP1, hD1⟩, by rw [hc]; exact hcl, fun t n h5 hn => ?_⟩
  rw [hc] at hn
  obtain ⟨x1, x3⟩ := X.2.2 t n h5 hn
  have x2 : ad t n < s.heap.size := Nat.lt_of_not_le (fun hz => x3 (hA _ hz))
  rw [hl, hsc t n h5]
  exact ⟨x1.kept ((hS1.2.1 _ x2 x3).trans (hS.2.1 _ x2 x3).symm), x3⟩
theorem xin_ok {i : Int32} {n : Nat} (h : xin i n = true) : vp_in i n := by
  unfold xin at h
  simp only [Bool.and_eq_true, Bool.not_eq_true', decide_eq_false_iff_not] at h
  intro hz
  rcases hz with hz | hz
  · exact h.1 hz
  · have h2 : i.toNatClampNeg < n := Nat.le_of_ble_eq_true h.2
    omega
theorem xfs_set {K : Nat → ClassId} {ad : Nat → Nat → Nat} {M M1 : XM} {t n k N : Nat} {v : Value} (hk : k < N) (hv : xfv ad M1 t n k = v) (ho : ∀ j, j ≠ k → xfv ad M1 t n j = xfv ad M t n j) : ((List.range N).map (xfv ad M t n)).set k v = (List.range N).map (xfv ad M1 t n) := by
  apply List.ext_getElem?
  intro i
  by_cases hik : i = k
  · subst hik
    rw [List.getElem?_set_self (by simpa using hk), List.getElem?_map, List.getElem?_range hk, ← hv]
    rfl
  · rw [List.getElem?_set_ne (Ne.symm hik), List.getElem?_map, List.getElem?_map]
    cases h : (List.range N)[i]? with
    | none => rfl
    | some j =>
      have hj : j = i := by
        have hl : i < N := by simpa using (List.getElem?_eq_some_iff.mp h).1
        rw [List.getElem?_range hl] at h
        exact (Option.some.inj h).symm
      subst hj
      simp [ho j hik]
theorem tv_rf {ad : Nat → Nat → Nat} {r : Option XR} : va_rf (xrf ad r) = tv ad (.inr (.inr r)) := by cases r <;> rfl
theorem sd_getf {y pc index ci k : Nat} {C : String} {T : u_T} {N : Nat} (hd : decode (xby y) pc = .ok (.getfield index, 3)) (hcl : xcl[ci]? = some (C, T, N)) (hin : ∀ w ∈ u_ws C T N, w ∈ xall) (hk : k < N) (hw : Cond.fieldLink (xown y) index C (T k).2.1 (T k).2.2.1 ∈ xall) (hself : (T k).1 = C) : Snd y pc (xo_getf ci k pc 3) := by
  intro f lv st M o M' h IH
  unfold xo_getf at h
  split at h
  · rename_i t n r
    cases hb : (Nat.beq (xkt t) 0 && Nat.beq (xkc t) ci) with
    | false => rw [hb] at h; cases h
    | true =>
      rw [hb, cond_true] at h
      simp only [Bool.and_eq_true] at hb
      have e1 : xkt t = 0 := Nat.eq_of_beq_eq_true hb.1
      have e2 : xkc t = ci := Nat.eq_of_beq_eq_true hb.2
      have e3 : xkn t = N := xkn_of e1 e2 hcl
      have hn : ∃ v : XV, XG y (pc + 3) lv (v :: r) M o M' ∧ ∀ (ad : Nat → Nat → Nat), xfv ad M t n k = tv ad v ∧ ∀ (D : va_G) (K : Nat → ClassId) (U : State) (A : Nat → Prop) (H : Heap), XRel D K U A ad M H → vok M.2.2.2.1 v := by
        cases hb2 : Nat.beq (xst ci k) 1 with
        | true =>
          rw [hb2, cond_true] at h
          refine ⟨_, IH _ _ _ _ _ _ _ h, fun ad => ⟨?_, fun D K U A H X => ?_⟩⟩
          · unfold xfv
            rw [if_pos (by rw [e2]; exact Nat.eq_of_beq_eq_true hb2)]
            exact tv_rf
          · cases hq : M.2.2.1 t n k with
            | none => trivial
            | some q => exact X.2.1 t n k q hq
        | false =>
          rw [hb2, cond_false] at h
          refine ⟨_, IH _ _ _ _ _ _ _ h, fun ad => ⟨?_, fun D K U A H X => trivial⟩⟩
          unfold xfv
          rw [if_neg (by rw [e2]; exact fun hz => by rw [hz] at hb2; cases hb2)]
          rfl
      obtain ⟨v, hn, hv⟩ := hn
      refine ⟨hn.1, ?_⟩
      intro p l e R s m args below meth c D K A ad0 k0 c0 w0 ad H locs ls B
      obtain ⟨C0, X, hS, hL, hst, hlen, hag, hcw⟩ := B
      have kk := hn.2 p l e R s m args below meth c D K A ad0 k0 c0 w0 ad H locs ls ⟨C0, X, hS, hL, XSt.cons ((hv ad).2 D K s A H X) hst.tail, hlen, hag, hcw⟩
      obtain ⟨ob, q0, hob, hP, hD, hq0, hws⟩ := X.at (t := t) (n := n) (by rw [e1]; decide) hst.head
      have hce : xce K ad M (t, n) = (ad t n, .inr (ci, (List.range N).map (xfv ad M t n))) := by
        unfold xce
        simp only [e1, e2, e3, if_true]
      rw [hce] at hws
      exact va_get C0.1 C0.2.1 C0.2.2.2.2.1 hin C0.2.2.2.2.2.1 C0.2.2.2.2.2.2.2.2.1 hP q0 hws hcl k hk (C0.2.2.2.2.1 _ hw) (fun x hx => by rw [hself] at hx; exact hx) (v := tv ad v) (by rw [List.getElem?_map, List.getElem?_range hk, ← (hv ad).1]; rfl) hd kk
  · cases h
theorem sd_putf {y pc index ci k : Nat} {C : String} {T : u_T} {N : Nat} {ty : FieldType} (hd : decode (xby y) pc = .ok (.putfield index, 3)) (hcl : xcl[ci]? = some (C, T, N)) (hin : ∀ w ∈ u_ws C T N, w ∈ xall) (hk : k < N) (hw : Cond.fieldLink (xown y) index C (T k).2.1 (T k).2.2.1 ∈ xall) (hself : (T k).1 = C) (ty0 : Nat → FieldType) (hty : ∀ k, k < N → parseFieldDescriptor (T k).2.2.1 = some (ty0 k)) (hnm : ∀ a, a < N → ∀ b, b < N → a ≠ b → (T a).2.1 ≠ (T b).2.1) (hd0 : parseFieldDescriptor (T k).2.2.1 = some ty) (hfin : (T k).2.2.2 = false) (hni : ∀ x : Int32, narrow ty (.int x) = .int x) (hfi : ∀ x : Int32, fits ty (.int x) = true) : Snd y pc (xo_puti ci k pc 3) := by
  intro f lv st M o M' h IH
  unfold xo_puti at h
  split at h
  · rename_i x t n r
    cases hb : (Nat.beq (xkt t) 0 && Nat.beq (xkc t) ci && Nat.beq (xst ci k) 0) with
    | false => rw [hb] at h; cases h
    | true =>
      rw [hb, cond_true] at h
      simp only [Bool.and_eq_true] at hb
      have e1 : xkt t = 0 := Nat.eq_of_beq_eq_true hb.1.1
      have e2 : xkc t = ci := Nat.eq_of_beq_eq_true hb.1.2
      have e4 := Nat.eq_of_beq_eq_true hb.2
      have e3 : xkn t = N := xkn_of e1 e2 hcl
      have hn := IH _ _ _ _ _ _ _ h
      refine ⟨hn.1, ?_⟩
      intro p l e R s m args below meth c D K A ad0 k0 c0 w0 ad H locs ls B
      obtain ⟨C0, X, hS, hL, hst, hlen, hag, hcw⟩ := B
      obtain ⟨ob, q0, hob, hP, hD, hq0, hws⟩ := X.at (t := t) (n := n) (by rw [e1]; decide) hst.tail.head
      have hce : ∀ M2 : XM, xce K ad M2 (t, n) = (ad t n, .inr (ci, (List.range N).map (xfv ad M2 t n))) := fun M2 => by
        unfold xce
        simp only [e1, e2, e3, if_true]
      rw [hce] at hws
      refine va_put (v := .int x) C0.1 C0.2.1 C0.2.2.2.2.1 hin ty0 hty hnm C0.2.2.2.2.2.1 C0.2.2.2.2.2.2.2.2.1 hP hD hS q0 hws hcl k hk (C0.2.2.2.2.1 _ hw) (fun x hx => by rw [hself] at hx; exact hx) hfin hd0 (hni x) (hfi x) (by rw [List.length_map, List.length_range]; exact hk) hd (fun H1 locs1 hP1 hD1 hS1 => ?_)
      have hs := xset (g := xce K ad (up3 M.1 t n k x, M.2)) (e := (ad t n, .inr (ci, ((List.range N).map (xfv ad M t n)).set k (.int x)))) hD hq0 (fun q hq => xce_congr (up3_off hq) rfl rfl) (by
        rw [hce, xfs_set (K := K) (M1 := (up3 M.1 t n k x, M.2)) hk]
        · unfold xfv
          rw [if_neg (by rw [e2, e4]; decide)]
          simp [up3]
        · intro j hj
          unfold xfv
          simp [up3_on, hj])
      rw [hs] at hP1 hD1
      have X1 := XRel.step (hA := C0.2.2.2.2.2.2.2.2.2.2.2.2.1) X (M1 := (up3 M.1 t n k x, M.2)) hS hS1 hob hP1 hD1 rfl rfl X.2.1 (fun t1 n1 h5 => up3_off (q := (t1, n1)) (fun hz => by cases hz; rw [e1] at h5; cases h5))
      exact hn.2 p l e R s m args below meth c D K A ad0 k0 c0 w0 ad H1 locs1 ls ⟨C0, X1, hS1, hL, hst.tail.tail, hlen, hag, hcw⟩
  · cases h
theorem sd_putfZ {y pc index ci k : Nat} {C : String} {T : u_T} {N : Nat} {ty : FieldType} (hd : decode (xby y) pc = .ok (.putfield index, 3)) (hcl : xcl[ci]? = some (C, T, N)) (hin : ∀ w ∈ u_ws C T N, w ∈ xall) (hk : k < N) (hw : Cond.fieldLink (xown y) index C (T k).2.1 (T k).2.2.1 ∈ xall) (hself : (T k).1 = C) (ty0 : Nat → FieldType) (hty : ∀ k, k < N → parseFieldDescriptor (T k).2.2.1 = some (ty0 k)) (hnm : ∀ a, a < N → ∀ b, b < N → a ≠ b → (T a).2.1 ≠ (T b).2.1) (hd0 : parseFieldDescriptor (T k).2.2.1 = some ty) (hfin : (T k).2.2.2 = false) (hni : ∀ x : Int32, x = 0 ∨ x = 1 → narrow ty (.int x) = .int x) (hfi : ∀ x : Int32, x = 0 ∨ x = 1 → fits ty (.int x) = true) : Snd y pc (xo_putz ci k pc 3) := by
  intro f lv st M o M' h IH
  unfold xo_putz at h
  split at h
  · rename_i x t n r
    cases hb : (Nat.beq (xkt t) 0 && Nat.beq (xkc t) ci && Nat.beq (xst ci k) 2) with
    | false => rw [hb] at h; cases h
    | true =>
      rw [hb, cond_true] at h
      simp only [Bool.and_eq_true] at hb
      by_cases hx01 : x = 0 ∨ x = 1
      case neg => rw [if_neg hx01] at h; cases h
      rw [if_pos hx01] at h
      have e1 : xkt t = 0 := Nat.eq_of_beq_eq_true hb.1.1
      have e2 : xkc t = ci := Nat.eq_of_beq_eq_true hb.1.2
      have e4 := Nat.eq_of_beq_eq_true hb.2
      have e3 : xkn t = N := xkn_of e1 e2 hcl
      have hn := IH _ _ _ _ _ _ _ h
      refine ⟨hn.1, ?_⟩
      intro p l e R s m args below meth c D K A ad0 k0 c0 w0 ad H locs ls B
      obtain ⟨C0, X, hS, hL, hst, hlen, hag, hcw⟩ := B
      obtain ⟨ob, q0, hob, hP, hD, hq0, hws⟩ := X.at (t := t) (n := n) (by rw [e1]; decide) hst.tail.head
      have hce : ∀ M2 : XM, xce K ad M2 (t, n) = (ad t n, .inr (ci, (List.range N).map (xfv ad M2 t n))) := fun M2 => by
        unfold xce
        simp only [e1, e2, e3, if_true]
      rw [hce] at hws
      refine va_put (v := .int x) C0.1 C0.2.1 C0.2.2.2.2.1 hin ty0 hty hnm C0.2.2.2.2.2.1 C0.2.2.2.2.2.2.2.2.1 hP hD hS q0 hws hcl k hk (C0.2.2.2.2.1 _ hw) (fun x hx => by rw [hself] at hx; exact hx) hfin hd0 (hni x hx01) (hfi x hx01) (by rw [List.length_map, List.length_range]; exact hk) hd (fun H1 locs1 hP1 hD1 hS1 => ?_)
      have hs := xset (g := xce K ad (up3 M.1 t n k x, M.2)) (e := (ad t n, .inr (ci, ((List.range N).map (xfv ad M t n)).set k (.int x)))) hD hq0 (fun q hq => xce_congr (up3_off hq) rfl rfl) (by
        rw [hce, xfs_set (K := K) (M1 := (up3 M.1 t n k x, M.2)) hk]
        · unfold xfv
          rw [if_neg (by rw [e2, e4]; decide)]
          simp [up3]
        · intro j hj
          unfold xfv
          simp [up3_on, hj])
      rw [hs] at hP1 hD1
      have X1 := XRel.step (hA := C0.2.2.2.2.2.2.2.2.2.2.2.2.1) X (M1 := (up3 M.1 t n k x, M.2)) hS hS1 hob hP1 hD1 rfl rfl X.2.1 (fun t1 n1 h5 => up3_off (q := (t1, n1)) (fun hz => by cases hz; rw [e1] at h5; cases h5))
      exact hn.2 p l e R s m args below meth c D K A ad0 k0 c0 w0 ad H1 locs1 ls ⟨C0, X1, hS1, hL, hst.tail.tail, hlen, hag, hcw⟩
  · cases h
theorem sd_putfR {y pc index ci k : Nat} {C : String} {T : u_T} {N : Nat} {ty : FieldType} (hd : decode (xby y) pc = .ok (.putfield index, 3)) (hcl : xcl[ci]? = some (C, T, N)) (hin : ∀ w ∈ u_ws C T N, w ∈ xall) (hk : k < N) (hw : Cond.fieldLink (xown y) index C (T k).2.1 (T k).2.2.1 ∈ xall) (hself : (T k).1 = C) (ty0 : Nat → FieldType) (hty : ∀ k, k < N → parseFieldDescriptor (T k).2.2.1 = some (ty0 k)) (hnm : ∀ a, a < N → ∀ b, b < N → a ≠ b → (T a).2.1 ≠ (T b).2.1) (hd0 : parseFieldDescriptor (T k).2.2.1 = some ty) (hfin : (T k).2.2.2 = false) (hni : ∀ a : Nat, narrow ty (.ref a) = .ref a) (hfi : ∀ a : Nat, fits ty (.ref a) = true) : Snd y pc (xo_putr ci k pc 3) := by
  intro f lv st M o M' h IH
  unfold xo_putr at h
  split at h
  · rename_i v t n r
    cases hb : (Nat.beq (xkt t) 0 && Nat.beq (xkc t) ci && Nat.beq (xst ci k) 1) with
    | false => rw [hb] at h; cases h
    | true =>
      rw [hb, cond_true] at h
      simp only [Bool.and_eq_true] at hb
      have e1 : xkt t = 0 := Nat.eq_of_beq_eq_true hb.1.1
      have e2 : xkc t = ci := Nat.eq_of_beq_eq_true hb.1.2
      have e4 := Nat.eq_of_beq_eq_true hb.2
      have e3 : xkn t = N := xkn_of e1 e2 hcl
      have hn := IH _ _ _ _ _ _ _ h
      refine ⟨hn.1, ?_⟩
      intro p l e R s m args below meth c D K A ad0 k0 c0 w0 ad H locs ls B
      obtain ⟨C0, X, hS, hL, hst, hlen, hag, hcw⟩ := B
      obtain ⟨ob, q0, hob, hP, hD, hq0, hws⟩ := X.at (t := t) (n := n) (by rw [e1]; decide) hst.tail.head
      have hce : ∀ M2 : XM, xce K ad M2 (t, n) = (ad t n, .inr (ci, (List.range N).map (xfv ad M2 t n))) := fun M2 => by
        unfold xce
        simp only [e1, e2, e3, if_true]
      rw [hce] at hws
      refine va_put (v := .ref (ad v.1 v.2)) C0.1 C0.2.1 C0.2.2.2.2.1 hin ty0 hty hnm C0.2.2.2.2.2.1 C0.2.2.2.2.2.2.2.2.1 hP hD hS q0 hws hcl k hk (C0.2.2.2.2.1 _ hw) (fun x hx => by rw [hself] at hx; exact hx) hfin hd0 (hni _) (hfi _) (by rw [List.length_map, List.length_range]; exact hk) hd (fun H1 locs1 hP1 hD1 hS1 => ?_)
      have hs := xset (g := xce K ad (M.1, M.2.1, up3 M.2.2.1 t n k (some v), M.2.2.2)) (e := (ad t n, .inr (ci, ((List.range N).map (xfv ad M t n)).set k (.ref (ad v.1 v.2))))) hD hq0 (fun q hq => xce_congr rfl rfl (up3_off hq)) (by
        rw [hce, xfs_set (K := K) (M1 := (M.1, M.2.1, up3 M.2.2.1 t n k (some v), M.2.2.2)) hk]
        · unfold xfv
          rw [if_pos (by rw [e2, e4])]
          simp [up3, xrf, va_rf]
        · intro j hj
          unfold xfv
          simp [up3_on, hj])
      rw [hs] at hP1 hD1
      have X1 := XRel.step (hA := C0.2.2.2.2.2.2.2.2.2.2.2.2.1) X (M1 := (M.1, M.2.1, up3 M.2.2.1 t n k (some v), M.2.2.2)) hS hS1 hob hP1 hD1 rfl rfl (fun t1 n1 k1 q hq => by
        by_cases hz : (t1, n1) = (t, n)
        · cases hz
          simp only [up3_on] at hq
          split at hq
          · cases hq; exact hst.head
          · exact X.2.1 _ _ _ _ hq
        · have h7 := congrFun (up3_off (f := M.2.2.1) (k := k) (v := some v) (q := (t1, n1)) hz) k1
          exact X.2.1 t1 n1 k1 q (h7.symm.trans hq)) (fun t1 n1 h5 => rfl)
      exact hn.2 p l e R s m args below meth c D K A ad0 k0 c0 w0 ad H1 locs1 ls ⟨C0, X1, hS1, hL, hst.tail.tail, hlen, hag, hcw⟩
  · cases h
theorem sd_putfF {y pc index ci k : Nat} {C : String} {T : u_T} {N : Nat} {ty : FieldType} (hd : decode (xby y) pc = .ok (.putfield index, 3)) (hcl : xcl[ci]? = some (C, T, N)) (hin : ∀ w ∈ u_ws C T N, w ∈ xall) (hk : k < N) (hw : Cond.fieldLink (xown y) index C (T k).2.1 (T k).2.2.1 ∈ xall) (hself : (T k).1 = C) (ty0 : Nat → FieldType) (hty : ∀ k, k < N → parseFieldDescriptor (T k).2.2.1 = some (ty0 k)) (hnm : ∀ a, a < N → ∀ b, b < N → a ≠ b → (T a).2.1 ≠ (T b).2.1) (hd0 : parseFieldDescriptor (T k).2.2.1 = some ty) (hfin : (T k).2.2.2 = true) (hini : xini y = true) (hdecl : (T k).1 = xown y) (hni : ∀ x : Int32, narrow ty (.int x) = .int x) (hfi : ∀ x : Int32, fits ty (.int x) = true) : Snd y pc (xo_puti ci k pc 3) := by
  intro f lv st M o M' h IH
  unfold xo_puti at h
  split at h
  · rename_i x t n r
    cases hb : (Nat.beq (xkt t) 0 && Nat.beq (xkc t) ci && Nat.beq (xst ci k) 0) with
    | false => rw [hb] at h; cases h
    | true =>
      rw [hb, cond_true] at h
      simp only [Bool.and_eq_true] at hb
      have e1 : xkt t = 0 := Nat.eq_of_beq_eq_true hb.1.1
      have e2 : xkc t = ci := Nat.eq_of_beq_eq_true hb.1.2
      have e4 := Nat.eq_of_beq_eq_true hb.2
      have e3 : xkn t = N := xkn_of e1 e2 hcl
      have hn := IH _ _ _ _ _ _ _ h
      refine ⟨hn.1, ?_⟩
      intro p l e R s m args below meth c D K A ad0 k0 c0 w0 ad H locs ls B
      obtain ⟨C0, X, hS, hL, hst, hlen, hag, hcw⟩ := B
      obtain ⟨ob, q0, hob, hP, hD, hq0, hws⟩ := X.at (t := t) (n := n) (by rw [e1]; decide) hst.tail.head
      have hce : ∀ M2 : XM, xce K ad M2 (t, n) = (ad t n, .inr (ci, (List.range N).map (xfv ad M2 t n))) := fun M2 => by
        unfold xce
        simp only [e1, e2, e3, if_true]
      rw [hce] at hws
      refine va_putF (v := .int x) C0.1 C0.2.1 C0.2.2.2.2.1 hin ty0 hty hnm C0.2.2.2.2.2.1 C0.2.2.2.2.2.2.2.2.1 hP hD hS q0 hws hcl k hk (C0.2.2.2.2.1 _ hw) (fun x hx => by rw [hself] at hx; exact hx) hfin (C0.2.2.2.2.2.2.2.1 hini) hdecl hd0 (hni x) (hfi x) (by rw [List.length_map, List.length_range]; exact hk) hd (fun H1 locs1 hP1 hD1 hS1 => ?_)
      have hs := xset (g := xce K ad (up3 M.1 t n k x, M.2)) (e := (ad t n, .inr (ci, ((List.range N).map (xfv ad M t n)).set k (.int x)))) hD hq0 (fun q hq => xce_congr (up3_off hq) rfl rfl) (by
        rw [hce, xfs_set (K := K) (M1 := (up3 M.1 t n k x, M.2)) hk]
        · unfold xfv
          rw [if_neg (by rw [e2, e4]; decide)]
          simp [up3]
        · intro j hj
          unfold xfv
          simp [up3_on, hj])
      rw [hs] at hP1 hD1
      have X1 := XRel.step (hA := C0.2.2.2.2.2.2.2.2.2.2.2.2.1) X (M1 := (up3 M.1 t n k x, M.2)) hS hS1 hob hP1 hD1 rfl rfl X.2.1 (fun t1 n1 h5 => up3_off (q := (t1, n1)) (fun hz => by cases hz; rw [e1] at h5; cases h5))
      exact hn.2 p l e R s m args below meth c D K A ad0 k0 c0 w0 ad H1 locs1 ls ⟨C0, X1, hS1, hL, hst.tail.tail, hlen, hag, hcw⟩
  · cases h
theorem sd_putfFZ {y pc index ci k : Nat} {C : String} {T : u_T} {N : Nat} {ty : FieldType} (hd : decode (xby y) pc = .ok (.putfield index, 3)) (hcl : xcl[ci]? = some (C, T, N)) (hin : ∀ w ∈ u_ws C T N, w ∈ xall) (hk : k < N) (hw : Cond.fieldLink (xown y) index C (T k).2.1 (T k).2.2.1 ∈ xall) (hself : (T k).1 = C) (ty0 : Nat → FieldType) (hty : ∀ k, k < N → parseFieldDescriptor (T k).2.2.1 = some (ty0 k)) (hnm : ∀ a, a < N → ∀ b, b < N → a ≠ b → (T a).2.1 ≠ (T b).2.1) (hd0 : parseFieldDescriptor (T k).2.2.1 = some ty) (hfin : (T k).2.2.2 = true) (hini : xini y = true) (hdecl : (T k).1 = xown y) (hni : ∀ x : Int32, x = 0 ∨ x = 1 → narrow ty (.int x) = .int x) (hfi : ∀ x : Int32, x = 0 ∨ x = 1 → fits ty (.int x) = true) : Snd y pc (xo_putz ci k pc 3) := by
  intro f lv st M o M' h IH
  unfold xo_putz at h
  split at h
  · rename_i x t n r
    cases hb : (Nat.beq (xkt t) 0 && Nat.beq (xkc t) ci && Nat.beq (xst ci k) 2) with
    | false => rw [hb] at h; cases h
    | true =>
      rw [hb, cond_true] at h
      simp only [Bool.and_eq_true] at hb
      by_cases hx01 : x = 0 ∨ x = 1
      case neg => rw [if_neg hx01] at h; cases h
      rw [if_pos hx01] at h
      have e1 : xkt t = 0 := Nat.eq_of_beq_eq_true hb.1.1
      have e2 : xkc t = ci := Nat.eq_of_beq_eq_true hb.1.2
      have e4 := Nat.eq_of_beq_eq_true hb.2
      have e3 : xkn t = N := xkn_of e1 e2 hcl
      have hn := IH _ _ _ _ _ _ _ h
      refine ⟨hn.1, ?_⟩
      intro p l e R s m args below meth c D K A ad0 k0 c0 w0 ad H locs ls B
      obtain ⟨C0, X, hS, hL, hst, hlen, hag, hcw⟩ := B
      obtain ⟨ob, q0, hob, hP, hD, hq0, hws⟩ := X.at (t := t) (n := n) (by rw [e1]; decide) hst.tail.head
      have hce : ∀ M2 : XM, xce K ad M2 (t, n) = (ad t n, .inr (ci, (List.range N).map (xfv ad M2 t n))) := fun M2 => by
        unfold xce
        simp only [e1, e2, e3, if_true]
      rw [hce] at hws
      refine va_putF (v := .int x) C0.1 C0.2.1 C0.2.2.2.2.1 hin ty0 hty hnm C0.2.2.2.2.2.1 C0.2.2.2.2.2.2.2.2.1 hP hD hS q0 hws hcl k hk (C0.2.2.2.2.1 _ hw) (fun x hx => by rw [hself] at hx; exact hx) hfin (C0.2.2.2.2.2.2.2.1 hini) hdecl hd0 (hni x hx01) (hfi x hx01) (by rw [List.length_map, List.length_range]; exact hk) hd (fun H1 locs1 hP1 hD1 hS1 => ?_)
      have hs := xset (g := xce K ad (up3 M.1 t n k x, M.2)) (e := (ad t n, .inr (ci, ((List.range N).map (xfv ad M t n)).set k (.int x)))) hD hq0 (fun q hq => xce_congr (up3_off hq) rfl rfl) (by
        rw [hce, xfs_set (K := K) (M1 := (up3 M.1 t n k x, M.2)) hk]
        · unfold xfv
          rw [if_neg (by rw [e2, e4]; decide)]
          simp [up3]
        · intro j hj
          unfold xfv
          simp [up3_on, hj])
      rw [hs] at hP1 hD1
      have X1 := XRel.step (hA := C0.2.2.2.2.2.2.2.2.2.2.2.2.1) X (M1 := (up3 M.1 t n k x, M.2)) hS hS1 hob hP1 hD1 rfl rfl X.2.1 (fun t1 n1 h5 => up3_off (q := (t1, n1)) (fun hz => by cases hz; rw [e1] at h5; cases h5))
      exact hn.2 p l e R s m args below meth c D K A ad0 k0 c0 w0 ad H1 locs1 ls ⟨C0, X1, hS1, hL, hst.tail.tail, hlen, hag, hcw⟩
  · cases h
theorem sd_putfFR {y pc index ci k : Nat} {C : String} {T : u_T} {N : Nat} {ty : FieldType} (hd : decode (xby y) pc = .ok (.putfield index, 3)) (hcl : xcl[ci]? = some (C, T, N)) (hin : ∀ w ∈ u_ws C T N, w ∈ xall) (hk : k < N) (hw : Cond.fieldLink (xown y) index C (T k).2.1 (T k).2.2.1 ∈ xall) (hself : (T k).1 = C) (ty0 : Nat → FieldType) (hty : ∀ k, k < N → parseFieldDescriptor (T k).2.2.1 = some (ty0 k)) (hnm : ∀ a, a < N → ∀ b, b < N → a ≠ b → (T a).2.1 ≠ (T b).2.1) (hd0 : parseFieldDescriptor (T k).2.2.1 = some ty) (hfin : (T k).2.2.2 = true) (hini : xini y = true) (hdecl : (T k).1 = xown y) (hni : ∀ a : Nat, narrow ty (.ref a) = .ref a) (hfi : ∀ a : Nat, fits ty (.ref a) = true) : Snd y pc (xo_putr ci k pc 3) := by
  intro f lv st M o M' h IH
  unfold xo_putr at h
  split at h
  · rename_i v t n r
    cases hb : (Nat.beq (xkt t) 0 && Nat.beq (xkc t) ci && Nat.beq (xst ci k) 1) with
    | false => rw [hb] at h; cases h
    | true =>
      rw [hb, cond_true] at h
      simp only [Bool.and_eq_true] at hb
      have e1 : xkt t = 0 := Nat.eq_of_beq_eq_true hb.1.1
      have e2 : xkc t = ci := Nat.eq_of_beq_eq_true hb.1.2
      have e4 := Nat.eq_of_beq_eq_true hb.2
      have e3 : xkn t = N := xkn_of e1 e2 hcl
      have hn := IH _ _ _ _ _ _ _ h
      refine ⟨hn.1, ?_⟩
      intro p l e R s m args below meth c D K A ad0 k0 c0 w0 ad H locs ls B
      obtain ⟨C0, X, hS, hL, hst, hlen, hag, hcw⟩ := B
      obtain ⟨ob, q0, hob, hP, hD, hq0, hws⟩ := X.at (t := t) (n := n) (by rw [e1]; decide) hst.tail.head
      have hce : ∀ M2 : XM, xce K ad M2 (t, n) = (ad t n, .inr (ci, (List.range N).map (xfv ad M2 t n))) := fun M2 => by
        unfold xce
        simp only [e1, e2, e3, if_true]
      rw [hce] at hws
      refine va_putF (v := .ref (ad v.1 v.2)) C0.1 C0.2.1 C0.2.2.2.2.1 hin ty0 hty hnm C0.2.2.2.2.2.1 C0.2.2.2.2.2.2.2.2.1 hP hD hS q0 hws hcl k hk (C0.2.2.2.2.1 _ hw) (fun x hx => by rw [hself] at hx; exact hx) hfin (C0.2.2.2.2.2.2.2.1 hini) hdecl hd0 (hni _) (hfi _) (by rw [List.length_map, List.length_range]; exact hk) hd (fun H1 locs1 hP1 hD1 hS1 => ?_)
      have hs := xset (g := xce K ad (M.1, M.2.1, up3 M.2.2.1 t n k (some v), M.2.2.2)) (e := (ad t n, .inr (ci, ((List.range N).map (xfv ad M t n)).set k (.ref (ad v.1 v.2))))) hD hq0 (fun q hq => xce_congr rfl rfl (up3_off hq)) (by
        rw [hce, xfs_set (K := K) (M1 := (M.1, M.2.1, up3 M.2.2.1 t n k (some v), M.2.2.2)) hk]
        · unfold xfv
          rw [if_pos (by rw [e2, e4])]
          simp [up3, xrf, va_rf]
        · intro j hj
          unfold xfv
          simp [up3_on, hj])
      rw [hs] at hP1 hD1
      have X1 := XRel.step (hA := C0.2.2.2.2.2.2.2.2.2.2.2.2.1) X (M1 := (M.1, M.2.1, up3 M.2.2.1 t n k (some v), M.2.2.2)) hS hS1 hob hP1 hD1 rfl rfl (fun t1 n1 k1 q hq => by
        by_cases hz : (t1, n1) = (t, n)
        · cases hz
          simp only [up3_on] at hq
          split at hq
          · cases hq; exact hst.head
          · exact X.2.1 _ _ _ _ hq
        · have h7 := congrFun (up3_off (f := M.2.2.1) (k := k) (v := some v) (q := (t1, n1)) hz) k1
          exact X.2.1 t1 n1 k1 q (h7.symm.trans hq)) (fun t1 n1 h5 => rfl)
      exact hn.2 p l e R s m args below meth c D K A ad0 k0 c0 w0 ad H1 locs1 ls ⟨C0, X1, hS1, hL, hst.tail.tail, hlen, hag, hcw⟩
  · cases h
theorem sd_iaload {y pc : Nat} (hd : decode (xby y) pc = .ok (.iaload, 1)) : Snd y pc (xo_iald pc 1) := by
  intro f lv st M o M' h IH
  unfold xo_iald at h
  split at h
  · rename_i i t n r
    cases hb : Nat.beq (xkt t) 1 with
    | true =>
      rw [hb, cond_true] at h
      have e1 : xkt t = 1 := Nat.eq_of_beq_eq_true hb
      by_cases hi : xin i (xkn t) = true
      case neg => rw [if_neg hi] at h; cases h
      rw [if_pos hi] at h
      have hn := IH _ _ _ _ _ _ _ h
      refine ⟨hn.1, ?_⟩
      intro p l e R s m args below meth c D K A ad0 k0 c0 w0 ad H locs ls B
      obtain ⟨C0, X, hS, hL, hst, hlen, hag, hcw⟩ := B
      have kk := hn.2 p l e R s m args below meth c D K A ad0 k0 c0 w0 ad H locs ls ⟨C0, X, hS, hL, XSt.cons trivial hst.tail.tail, hlen, hag, hcw⟩
      obtain ⟨ob, q0, hob, hP, hD, hq0, hws⟩ := X.at (t := t) (n := n) (by rw [e1]; decide) hst.tail.head
      have hce : xce K ad M (t, n) = (ad t n, .inl (K 0, xkn t, .inl (M.1 t n))) := by
        unfold xce
        simp [e1]
      rw [hce] at hws
      exact va_iald C0.1 C0.2.1 C0.2.2.2.2.2.2.2.2.1 hP q0 0 hws rfl (xin_ok hi) hd kk
    | false =>
      rw [hb, cond_false] at h
      cases hb5 : Nat.beq (xkt t) 5 with
      | false => rw [hb5] at h; cases h
      | true =>
        rw [hb5, cond_true] at h
        have e1 : xkt t = 5 := Nat.eq_of_beq_eq_true hb5
        by_cases hi : xin i M.2.2.2.2.1 = true
        case neg => rw [if_neg hi] at h; cases h
        rw [if_pos hi] at h
        have hn := IH _ _ _ _ _ _ _ h
        refine ⟨hn.1, ?_⟩
        intro p l e R s m args below meth c D K A ad0 k0 c0 w0 ad H locs ls B
        obtain ⟨C0, X, hS, hL, hst, hlen, hag, hcw⟩ := B
        have kk := hn.2 p l e R s m args below meth c D K A ad0 k0 c0 w0 ad H locs ls ⟨C0, X, hS, hL, XSt.cons trivial hst.tail.tail, hlen, hag, hcw⟩
        obtain ⟨x1, x3⟩ := X.2.2 t n e1 hst.tail.head
        exact va_sld (A := A) (H0 := H) C0.1 C0.2.1 x1 (Nat.lt_of_lt_of_le (Nat.lt_of_not_le (fun hz => x3 (C0.2.2.2.2.2.2.2.2.2.2.2.2.1 _ hz))) hS.1) x3 ⟨Nat.le_refl _, fun _ _ _ => rfl, hS.2.2⟩ (xin_ok hi) hd kk
  · cases h
theorem sd_baload {y pc : Nat} (hd : decode (xby y) pc = .ok (.baload, 1)) : Snd y pc (xo_bald pc 1) := by
  intro f lv st M o M' h IH
  unfold xo_bald at h
  split at h
  · rename_i i t n r
    cases hb : Nat.beq (xkt t) 2 with
    | false => rw [hb] at h; cases h
    | true =>
      rw [hb, cond_true] at h
      have e1 : xkt t = 2 := Nat.eq_of_beq_eq_true hb
      by_cases hi : xin i (xkn t) = true
      case neg => rw [if_neg hi] at h; cases h
      rw [if_pos hi] at h
      have hn := IH _ _ _ _ _ _ _ h
      refine ⟨hn.1, ?_⟩
      intro p l e R s m args below meth c D K A ad0 k0 c0 w0 ad H locs ls B
      obtain ⟨C0, X, hS, hL, hst, hlen, hag, hcw⟩ := B
      have kk := hn.2 p l e R s m args below meth c D K A ad0 k0 c0 w0 ad H locs ls ⟨C0, X, hS, hL, XSt.cons (trivial) hst.tail.tail, hlen, hag, hcw⟩
      obtain ⟨ob, q0, hob, hP, hD, hq0, hws⟩ := X.at (t := t) (n := n) (by rw [e1]; decide) hst.tail.head
      have hce : xce K ad M (t, n) = (ad t n, .inl (K 1, xkn t, .inl (M.1 t n))) := by
        unfold xce
        simp [e1]
      rw [hce] at hws
      exact va_zald C0.1 C0.2.1 C0.2.2.2.2.2.2.2.2.1 hP q0 1 hws rfl (xin_ok hi) hd kk
  · cases h
theorem sd_laload {y pc : Nat} (hd : decode (xby y) pc = .ok (.laload, 1)) : Snd y pc (xo_lald pc 1) := by
  intro f lv st M o M' h IH
  unfold xo_lald at h
  split at h
  · rename_i i t n r
    cases hb : Nat.beq (xkt t) 3 with
    | false => rw [hb] at h; cases h
    | true =>
      rw [hb, cond_true] at h
      have e1 : xkt t = 3 := Nat.eq_of_beq_eq_true hb
      by_cases hi : xin i (xkn t) = true
      case neg => rw [if_neg hi] at h; cases h
      rw [if_pos hi] at h
      have hn := IH _ _ _ _ _ _ _ h
      refine ⟨hn.1, ?_⟩
      intro p l e R s m args below meth c D K A ad0 k0 c0 w0 ad H locs ls B
      obtain ⟨C0, X, hS, hL, hst, hlen, hag, hcw⟩ := B
      have kk := hn.2 p l e R s m args below meth c D K A ad0 k0 c0 w0 ad H locs ls ⟨C0, X, hS, hL, XSt.cons (trivial) hst.tail.tail, hlen, hag, hcw⟩
      obtain ⟨ob, q0, hob, hP, hD, hq0, hws⟩ := X.at (t := t) (n := n) (by rw [e1]; decide) hst.tail.head
      have hce : xce K ad M (t, n) = (ad t n, .inl (K 2, xkn t, .inr (.inl (M.2.1 t n)))) := by
        unfold xce
        simp [e1]
      rw [hce] at hws
      exact va_lald C0.1 C0.2.1 C0.2.2.2.2.2.2.2.2.1 hP q0 2 hws rfl (xin_ok hi) hd kk
  · cases h
theorem sd_aaload {y pc : Nat} (hd : decode (xby y) pc = .ok (.aaload, 1)) : Snd y pc (xo_aald pc 1) := by
  intro f lv st M o M' h IH
  unfold xo_aald at h
  split at h
  · rename_i i t n r
    cases hb : Nat.beq (xkt t) 4 with
    | false => rw [hb] at h; cases h
    | true =>
      rw [hb, cond_true] at h
      have e1 : xkt t = 4 := Nat.eq_of_beq_eq_true hb
      by_cases hi : xin i (xkn t) = true
      case neg => rw [if_neg hi] at h; cases h
      rw [if_pos hi] at h
      have hn := IH _ _ _ _ _ _ _ h
      refine ⟨hn.1, ?_⟩
      intro p l e R s m args below meth c D K A ad0 k0 c0 w0 ad H locs ls B
      obtain ⟨C0, X, hS, hL, hst, hlen, hag, hcw⟩ := B
      have hvk : vok M.2.2.2.1 (.inr (.inr (M.2.2.1 t n i.toNatClampNeg))) := by
        cases hq : M.2.2.1 t n i.toNatClampNeg with
        | none => trivial
        | some q => exact X.2.1 _ _ _ q hq
      have kk := hn.2 p l e R s m args below meth c D K A ad0 k0 c0 w0 ad H locs ls ⟨C0, X, hS, hL, XSt.cons hvk hst.tail.tail, hlen, hag, hcw⟩
      obtain ⟨ob, q0, hob, hP, hD, hq0, hws⟩ := X.at (t := t) (n := n) (by rw [e1]; decide) hst.tail.head
      have hce : xce K ad M (t, n) = (ad t n, .inl (K (xka (xkc t)), xkn t, .inr (.inr (.inr (.inr (fun k => xrf ad (M.2.2.1 t n k))))))) := by
        unfold xce
        simp [e1]
      rw [hce] at hws
      obtain ⟨C, hC⟩ := xka_ok K (xkc t) (xkc_arr t e1)
      refine va_aldq C0.1 C0.2.1 C0.2.2.2.2.2.2.2.2.1 hP q0 (xka (xkc t)) hws hC (xin_ok hi) hd ?_
      have e9 : va_rf (xrf ad (M.2.2.1 t n i.toNatClampNeg)) = tv ad (.inr (.inr (M.2.2.1 t n i.toNatClampNeg))) := tv_rf
      rw [e9]
      exact kk
  · cases h
theorem sd_iastore {y pc : Nat} (hd : decode (xby y) pc = .ok (.iastore, 1)) : Snd y pc (xo_iast pc 1) := by
  intro f lv st M o M' h IH
  unfold xo_iast at h
  split at h
  · rename_i x i t n r
    cases hb : Nat.beq (xkt t) 1 with
    | false => rw [hb] at h; cases h
    | true =>
      rw [hb, cond_true] at h
      have e1 : xkt t = 1 := Nat.eq_of_beq_eq_true hb
      by_cases hi : xin i (xkn t) = true
      case neg => rw [if_neg hi] at h; cases h
      rw [if_pos hi] at h
      have hn := IH _ _ _ _ _ _ _ h
      refine ⟨hn.1, ?_⟩
      intro p l e R s m args below meth c D K A ad0 k0 c0 w0 ad H locs ls B
      obtain ⟨C0, X, hS, hL, hst, hlen, hag, hcw⟩ := B
      obtain ⟨ob, q0, hob, hP, hD, hq0, hws⟩ := X.at (t := t) (n := n) (by rw [e1]; decide) hst.tail.tail.head
      have hce : ∀ M2 : XM, xce K ad M2 (t, n) = (ad t n, .inl (K 0, xkn t, .inl (M2.1 t n))) := fun M2 => by
        unfold xce
        simp [e1]
      rw [hce] at hws
      refine va_iast C0.1 C0.2.1 C0.2.2.2.2.2.2.2.2.1 hP hD hS q0 0 hws rfl (xin_ok hi) hd (fun H1 locs1 hP1 hD1 hS1 => ?_)
      have hs := xset (g := xce K ad (up3 M.1 t n i.toNatClampNeg x, M.2)) (e := (ad t n, .inl (K 0, xkn t, .inl (upd (M.1 t n) i.toNatClampNeg x)))) hD hq0 (fun q hq => xce_congr (up3_off hq) rfl rfl) (by
        rw [hce]
        have hf : up3 M.1 t n i.toNatClampNeg x t n = upd (M.1 t n) i.toNatClampNeg x := by funext j; rw [up3_on]; rfl
        show _ = ((ad t n, .inl (K 0, xkn t, .inl (up3 M.1 t n i.toNatClampNeg x t n))) : Nat × va_E)
        rw [hf])
      rw [hs] at hP1 hD1
      have X1 := XRel.step (hA := C0.2.2.2.2.2.2.2.2.2.2.2.2.1) X (M1 := (up3 M.1 t n i.toNatClampNeg x, M.2)) hS hS1 hob hP1 hD1 rfl rfl X.2.1 (fun t1 n1 h5 => up3_off (q := (t1, n1)) (fun hz => by cases hz; rw [e1] at h5; cases h5))
      exact hn.2 p l e R s m args below meth c D K A ad0 k0 c0 w0 ad H1 locs1 ls ⟨C0, X1, hS1, hL, hst.tail.tail.tail, hlen, hag, hcw⟩
  · cases h
theorem sd_bastore {y pc : Nat} (hd : decode (xby y) pc = .ok (.bastore, 1)) : Snd y pc (xo_bast pc 1) := by
  intro f lv st M o M' h IH
  unfold xo_bast at h
  split at h
  · rename_i x i t n r
    cases hb : Nat.beq (xkt t) 2 with
    | false => rw [hb] at h; cases h
    | true =>
      rw [hb, cond_true] at h
      have e1 : xkt t = 2 := Nat.eq_of_beq_eq_true hb
      by_cases hi : xin i (xkn t) = true
      case neg => rw [if_neg hi] at h; cases h
      rw [if_pos hi] at h
      have hn := IH _ _ _ _ _ _ _ h
      refine ⟨hn.1, ?_⟩
      intro p l e R s m args below meth c D K A ad0 k0 c0 w0 ad H locs ls B
      obtain ⟨C0, X, hS, hL, hst, hlen, hag, hcw⟩ := B
      obtain ⟨ob, q0, hob, hP, hD, hq0, hws⟩ := X.at (t := t) (n := n) (by rw [e1]; decide) hst.tail.tail.head
      have hce : ∀ M2 : XM, xce K ad M2 (t, n) = (ad t n, .inl (K 1, xkn t, .inl (M2.1 t n))) := fun M2 => by
        unfold xce
        simp [e1]
      rw [hce] at hws
      refine va_zast C0.1 C0.2.1 C0.2.2.2.2.2.2.2.2.1 hP hD hS q0 1 hws rfl (xin_ok hi) hd (fun H1 locs1 hP1 hD1 hS1 => ?_)
      have hs := xset (g := xce K ad (up3 M.1 t n i.toNatClampNeg (vp_nar .boolean x), M.2)) (e := (ad t n, .inl (K 1, xkn t, .inl (upd (M.1 t n) i.toNatClampNeg (vp_nar .boolean x))))) hD hq0 (fun q hq => xce_congr (up3_off hq) rfl rfl) (by
        rw [hce]
        have hf : up3 M.1 t n i.toNatClampNeg (vp_nar .boolean x) t n = upd (M.1 t n) i.toNatClampNeg (vp_nar .boolean x) := by funext j; rw [up3_on]; rfl
        show _ = ((ad t n, .inl (K 1, xkn t, .inl (up3 M.1 t n i.toNatClampNeg (vp_nar .boolean x) t n))) : Nat × va_E)
        rw [hf])
      rw [hs] at hP1 hD1
      have X1 := XRel.step (hA := C0.2.2.2.2.2.2.2.2.2.2.2.2.1) X (M1 := (up3 M.1 t n i.toNatClampNeg (vp_nar .boolean x), M.2)) hS hS1 hob hP1 hD1 rfl rfl X.2.1 (fun t1 n1 h5 => up3_off (q := (t1, n1)) (fun hz => by cases hz; rw [e1] at h5; cases h5))
      exact hn.2 p l e R s m args below meth c D K A ad0 k0 c0 w0 ad H1 locs1 ls ⟨C0, X1, hS1, hL, hst.tail.tail.tail, hlen, hag, hcw⟩
  · cases h
theorem sd_lastore {y pc : Nat} (hd : decode (xby y) pc = .ok (.lastore, 1)) : Snd y pc (xo_last pc 1) := by
  intro f lv st M o M' h IH
  unfold xo_last at h
  split at h
  · rename_i x i t n r
    cases hb : Nat.beq (xkt t) 3 with
    | false => rw [hb] at h; cases h
    | true =>
      rw [hb, cond_true] at h
      have e1 : xkt t = 3 := Nat.eq_of_beq_eq_true hb
      by_cases hi : xin i (xkn t) = true
      case neg => rw [if_neg hi] at h; cases h
      rw [if_pos hi] at h
      have hn := IH _ _ _ _ _ _ _ h
      refine ⟨hn.1, ?_⟩
      intro p l e R s m args below meth c D K A ad0 k0 c0 w0 ad H locs ls B
      obtain ⟨C0, X, hS, hL, hst, hlen, hag, hcw⟩ := B
      obtain ⟨ob, q0, hob, hP, hD, hq0, hws⟩ := X.at (t := t) (n := n) (by rw [e1]; decide) hst.tail.tail.head
      have hce : ∀ M2 : XM, xce K ad M2 (t, n) = (ad t n, .inl (K 2, xkn t, .inr (.inl (M2.2.1 t n)))) := fun M2 => by
        unfold xce
        simp [e1]
      rw [hce] at hws
      refine va_last C0.1 C0.2.1 C0.2.2.2.2.2.2.2.2.1 hP hD hS q0 2 hws rfl (xin_ok hi) hd (fun H1 locs1 hP1 hD1 hS1 => ?_)
      have hs := xset (g := xce K ad (M.1, up3 M.2.1 t n i.toNatClampNeg x, M.2.2)) (e := (ad t n, .inl (K 2, xkn t, .inr (.inl (vp_updL (M.2.1 t n) i.toNatClampNeg x))))) hD hq0 (fun q hq => xce_congr rfl (up3_off hq) rfl) (by
        rw [hce]
        have hf : up3 M.2.1 t n i.toNatClampNeg x t n = vp_updL (M.2.1 t n) i.toNatClampNeg x := by funext j; rw [up3_on]; rfl
        show _ = ((ad t n, .inl (K 2, xkn t, .inr (.inl (up3 M.2.1 t n i.toNatClampNeg x t n)))) : Nat × va_E)
        rw [hf])
      rw [hs] at hP1 hD1
      have X1 := XRel.step (hA := C0.2.2.2.2.2.2.2.2.2.2.2.2.1) X (M1 := (M.1, up3 M.2.1 t n i.toNatClampNeg x, M.2.2)) hS hS1 hob hP1 hD1 rfl rfl X.2.1 (fun t1 n1 h5 => rfl)
      exact hn.2 p l e R s m args below meth c D K A ad0 k0 c0 w0 ad H1 locs1 ls ⟨C0, X1, hS1, hL, hst.tail.tail.tail, hlen, hag, hcw⟩
  · cases h
theorem sd_aastore {y pc : Nat} (hd : decode (xby y) pc = .ok (.aastore, 1)) : Snd y pc (xo_aast pc 1) := by
  intro f lv st M o M' h IH
  unfold xo_aast at h
  split at h
  · rename_i t' n' i t n r
    cases hb : (Nat.beq (xkt t) 4 && Nat.beq (xkt t') 0 && Nat.beq (xkc t') (xkc t)) with
    | false => rw [hb] at h; cases h
    | true =>
      rw [hb, cond_true] at h
      simp only [Bool.and_eq_true] at hb
      have e1 : xkt t = 4 := Nat.eq_of_beq_eq_true hb.1.1
      have e2 : xkt t' = 0 := Nat.eq_of_beq_eq_true hb.1.2
      have e3 : xkc t' = xkc t := Nat.eq_of_beq_eq_true hb.2
      by_cases hi : xin i (xkn t) = true
      case neg => rw [if_neg hi] at h; cases h
      rw [if_pos hi] at h
      have hn := IH _ _ _ _ _ _ _ h
      refine ⟨hn.1, ?_⟩
      intro p l e R s m args below meth c D K A ad0 k0 c0 w0 ad H locs ls B
      obtain ⟨C0, X, hS, hL, hst, hlen, hag, hcw⟩ := B
      obtain ⟨ob, q0, hob, hP, hD, hq0, hws⟩ := X.at (t := t) (n := n) (by rw [e1]; decide) hst.tail.tail.head
      obtain ⟨q1, hq1⟩ := List.getElem?_of_mem ((hob (t', n')).mpr ⟨by rw [e2]; decide, hst.head⟩)
      have hws1 : (ob.map (xce K ad M))[q1]? = some (xce K ad M (t', n')) := by rw [List.getElem?_map, hq1]; rfl
      have hce : ∀ M2 : XM, xce K ad M2 (t, n) = (ad t n, .inl (K (xka (xkc t)), xkn t, .inr (.inr (.inr (.inr (fun k => xrf ad (M2.2.2.1 t n k))))))) := fun M2 => by
        unfold xce
        simp [e1]
      have hce1 : xce K ad M (t', n') = (ad t' n', .inr (xkc t', (List.range (xkn t')).map (xfv ad M t' n'))) := by
        unfold xce
        simp [e2]
      rw [hce] at hws
      rw [hce1] at hws1
      obtain ⟨r0, hr0, hr1⟩ := xka_cl K (xkc t) (xkc_arr t e1)
      refine va_astq C0.1 C0.2.1 C0.2.2.2.2.2.2.2.2.1 hP hD hS q0 (xka (xkc t)) q1 (xkc t') (r := r0) hws hr1 hws1 (by rw [e3]; exact hr0) (xin_ok hi) hd (fun H1 locs1 hP1 hD1 hS1 => ?_)
      have hs := xset (g := xce K ad (M.1, M.2.1, up3 M.2.2.1 t n i.toNatClampNeg (some (t', n')), M.2.2.2)) (e := (ad t n, .inl (K (xka (xkc t)), xkn t, .inr (.inr (.inr (.inr (va_up (fun k => xrf ad (M.2.2.1 t n k)) i.toNatClampNeg (some (ad t' n'))))))))) hD hq0 (fun q hq => xce_congr rfl rfl (up3_off hq)) (by
        rw [hce]
        have hf : (fun k => xrf ad (up3 M.2.2.1 t n i.toNatClampNeg (some (t', n')) t n k)) = va_up (fun k => xrf ad (M.2.2.1 t n k)) i.toNatClampNeg (some (ad t' n')) := by
          funext j
          rw [up3_on]
          unfold va_up
          split <;> rfl
        show _ = ((ad t n, .inl (K (xka (xkc t)), xkn t, .inr (.inr (.inr (.inr (fun k => xrf ad (up3 M.2.2.1 t n i.toNatClampNeg (some (t', n')) t n k))))))) : Nat × va_E)
        rw [hf])
      rw [hs] at hP1 hD1
      have X1 := XRel.step (hA := C0.2.2.2.2.2.2.2.2.2.2.2.2.1) X (M1 := (M.1, M.2.1, up3 M.2.2.1 t n i.toNatClampNeg (some (t', n')), M.2.2.2)) hS hS1 hob hP1 hD1 rfl rfl (fun t1 n1 k1 q hq => by
        by_cases hz : (t1, n1) = (t, n)
        · cases hz
          simp only [up3_on] at hq
          split at hq
          · cases hq; exact hst.head
          · exact X.2.1 _ _ _ _ hq
        · have h7 := congrFun (up3_off (f := M.2.2.1) (k := i.toNatClampNeg) (v := some (t', n')) (q := (t1, n1)) hz) k1
          exact X.2.1 t1 n1 k1 q (h7.symm.trans hq)) (fun t1 n1 h5 => rfl)
      exact hn.2 p l e R s m args below meth c D K A ad0 k0 c0 w0 ad H1 locs1 ls ⟨C0, X1, hS1, hL, hst.tail.tail.tail, hlen, hag, hcw⟩
  · cases h
theorem sd_alen {y pc : Nat} (hd : decode (xby y) pc = .ok (.arraylength, 1)) : Snd y pc (xo_alen pc 1) := by
  intro f lv st M o M' h IH
  unfold xo_alen at h
  split at h
  · rename_i t n r
    cases hb5 : Nat.beq (xkt t) 5 with
    | true =>
      rw [hb5, cond_true] at h
      have e1 : xkt t = 5 := Nat.eq_of_beq_eq_true hb5
      have hn := IH _ _ _ _ _ _ _ h
      refine ⟨hn.1, ?_⟩
      intro p l e R s m args below meth c D K A ad0 k0 c0 w0 ad H locs ls B
      obtain ⟨C0, X, hS, hL, hst, hlen, hag, hcw⟩ := B
      have kk := hn.2 p l e R s m args below meth c D K A ad0 k0 c0 w0 ad H locs ls ⟨C0, X, hS, hL, XSt.cons trivial hst.tail, hlen, hag, hcw⟩
      obtain ⟨x1, x3⟩ := X.2.2 t n e1 hst.head
      exact va_slen (A := A) (H0 := H) C0.1 C0.2.1 x1 (Nat.lt_of_lt_of_le (Nat.lt_of_not_le (fun hz => x3 (C0.2.2.2.2.2.2.2.2.2.2.2.2.1 _ hz))) hS.1) x3 ⟨Nat.le_refl _, fun _ _ _ => rfl, hS.2.2⟩ hd kk
    | false =>
      rw [hb5, cond_false] at h
      cases hb : Nat.beq (xkt t) 4 with
      | false => rw [hb] at h; cases h
      | true =>
        rw [hb, cond_true] at h
        have e1 : xkt t = 4 := Nat.eq_of_beq_eq_true hb
        have hn := IH _ _ _ _ _ _ _ h
        refine ⟨hn.1, ?_⟩
        intro p l e R s m args below meth c D K A ad0 k0 c0 w0 ad H locs ls B
        obtain ⟨C0, X, hS, hL, hst, hlen, hag, hcw⟩ := B
        have kk := hn.2 p l e R s m args below meth c D K A ad0 k0 c0 w0 ad H locs ls ⟨C0, X, hS, hL, XSt.cons trivial hst.tail, hlen, hag, hcw⟩
        obtain ⟨ob, q0, hob, hP, hD, hq0, hws⟩ := X.at (t := t) (n := n) (by rw [e1]; decide) hst.head
        have hce : xce K ad M (t, n) = (ad t n, .inl (K (xka (xkc t)), xkn t, .inr (.inr (.inr (.inr (fun k => xrf ad (M.2.2.1 t n k))))))) := by
          unfold xce
          simp [e1]
        rw [hce] at hws
        obtain ⟨C, hC⟩ := xka_ok K (xkc t) (xkc_arr t e1)
        exact va_alen C0.1 C0.2.1 C0.2.2.2.2.2.2.2.2.1 hP q0 (xka (xkc t)) hws hC rfl hd kk
  · cases h
