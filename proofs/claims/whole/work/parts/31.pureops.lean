theorem sd_iconst {y pc : Nat} {n : Int} {v : Int32} (hd : decode (xby y) pc = .ok (.iconst n, 1)) (hv : Int32.ofInt n = v) : Snd y pc (xo_iconst v pc 1) := by
  intro f lv st M o M' h IH
  exact XG.pure (IH _ _ _ _ _ _ _ h) (fun z => XSt.cons trivial z) (fun p l e R s m args below meth c D K A ad H locs ls cells slots Q C X hS hL hst hlen hc hs k => lv_iconst C.1 C.2.1 hd hv k)
theorem sd_bipush {y pc : Nat} {n : Int} {v : Int32} (hd : decode (xby y) pc = .ok (.bipush n, 2)) (hv : (Int8.ofInt n).toInt32 = v) : Snd y pc (xo_iconst v pc 2) := by
  intro f lv st M o M' h IH
  exact XG.pure (IH _ _ _ _ _ _ _ h) (fun z => XSt.cons trivial z) (fun p l e R s m args below meth c D K A ad H locs ls cells slots Q C X hS hL hst hlen hc hs k => lv_bipush C.1 C.2.1 hd hv k)
theorem sd_sipush {y pc : Nat} {n : Int} {v : Int32} (hd : decode (xby y) pc = .ok (.sipush n, 3)) (hv : (Int16.ofInt n).toInt32 = v) : Snd y pc (xo_iconst v pc 3) := by
  intro f lv st M o M' h IH
  exact XG.pure (IH _ _ _ _ _ _ _ h) (fun z => XSt.cons trivial z) (fun p l e R s m args below meth c D K A ad H locs ls cells slots Q C X hS hL hst hlen hc hs k => lv_sipush C.1 C.2.1 hd hv k)
theorem sd_lconst {y pc : Nat} {n : Fin 2} {v : Int64} (hd : decode (xby y) pc = .ok (.lconst n, 1)) (hv : Int64.ofNat (n : Nat) = v) : Snd y pc (xo_lconst v pc 1) := by
  intro f lv st M o M' h IH
  exact XG.pure (IH _ _ _ _ _ _ _ h) (fun z => XSt.cons trivial z) (fun p l e R s m args below meth c D K A ad H locs ls cells slots Q C X hS hL hst hlen hc hs k => lv_lconst C.1 C.2.1 hd hv k)
theorem sd_ldc2 {y pc : Nat} {index : Nat} {v : Int64} (hd : decode (xby y) pc = .ok (.ldc2_w index, 3)) (hw : Cond.constantLong (xown y) index v ∈ xall) : Snd y pc (xo_lconst v pc 3) := by
  intro f lv st M o M' h IH
  exact XG.pure (IH _ _ _ _ _ _ _ h) (fun z => XSt.cons trivial z) (fun p l e R s m args below meth c D K A ad H locs ls cells slots Q C X hS hL hst hlen hc hs k => lv_ldc2 C.1 C.2.1 C.2.2.2.2.2.1 (C.2.2.2.2.1 _ hw) hd k)
theorem sd_iload_n {y pc : Nat} {k0 : Fin 4} {i : Nat} (hd : decode (xby y) pc = .ok (.iload_n k0, 1)) (hi : (k0 : Nat) = i) : Snd y pc (xo_iload i pc 1) := by
  intro f lv st M o M' h IH
  unfold xo_iload at h
  split at h
  · rename_i x hq
    have hn := IH _ _ _ _ _ _ _ h
    refine ⟨hn.1, ?_⟩
    intro p l e R s m args below meth c D K A ad0 k0 c0 w0 ad H locs ls B
    obtain ⟨C, X, hS, hL, hst, hlen, hag, hcw⟩ := B
    have k := hn.2 p l e R s m args below meth c D K A ad0 k0 c0 w0 ad H locs ls ⟨C, X, hS, hL, XSt.cons (hL.2.2 _ _ hq).2 hst, hlen, hag, hcw⟩
    exact lv_iload_n C.1 C.2.1 hd hi (hL.2.2 _ _ hq).1 k
  · cases h
theorem sd_iload {y pc : Nat} {i : Nat} (hd : decode (xby y) pc = .ok (.iload i, 2)) : Snd y pc (xo_iload i pc 2) := by
  intro f lv st M o M' h IH
  unfold xo_iload at h
  split at h
  · rename_i x hq
    have hn := IH _ _ _ _ _ _ _ h
    refine ⟨hn.1, ?_⟩
    intro p l e R s m args below meth c D K A ad0 k0 c0 w0 ad H locs ls B
    obtain ⟨C, X, hS, hL, hst, hlen, hag, hcw⟩ := B
    have k := hn.2 p l e R s m args below meth c D K A ad0 k0 c0 w0 ad H locs ls ⟨C, X, hS, hL, XSt.cons (hL.2.2 _ _ hq).2 hst, hlen, hag, hcw⟩
    exact lv_iload C.1 C.2.1 hd (hL.2.2 _ _ hq).1 k
  · cases h
theorem sd_lload_n {y pc : Nat} {k0 : Fin 4} {i : Nat} (hd : decode (xby y) pc = .ok (.lload_n k0, 1)) (hi : (k0 : Nat) = i) : Snd y pc (xo_lload i pc 1) := by
  intro f lv st M o M' h IH
  unfold xo_lload at h
  split at h
  · rename_i x hq
    have hn := IH _ _ _ _ _ _ _ h
    refine ⟨hn.1, ?_⟩
    intro p l e R s m args below meth c D K A ad0 k0 c0 w0 ad H locs ls B
    obtain ⟨C, X, hS, hL, hst, hlen, hag, hcw⟩ := B
    have k := hn.2 p l e R s m args below meth c D K A ad0 k0 c0 w0 ad H locs ls ⟨C, X, hS, hL, XSt.cons (hL.2.2 _ _ hq).2 hst, hlen, hag, hcw⟩
    exact lv_lload_n C.1 C.2.1 hd hi (hL.2.2 _ _ hq).1 k
  · cases h
theorem sd_lload {y pc : Nat} {i : Nat} (hd : decode (xby y) pc = .ok (.lload i, 2)) : Snd y pc (xo_lload i pc 2) := by
  intro f lv st M o M' h IH
  unfold xo_lload at h
  split at h
  · rename_i x hq
    have hn := IH _ _ _ _ _ _ _ h
    refine ⟨hn.1, ?_⟩
    intro p l e R s m args below meth c D K A ad0 k0 c0 w0 ad H locs ls B
    obtain ⟨C, X, hS, hL, hst, hlen, hag, hcw⟩ := B
    have k := hn.2 p l e R s m args below meth c D K A ad0 k0 c0 w0 ad H locs ls ⟨C, X, hS, hL, XSt.cons (hL.2.2 _ _ hq).2 hst, hlen, hag, hcw⟩
    exact lv_lload C.1 C.2.1 hd (hL.2.2 _ _ hq).1 k
  · cases h
theorem sd_aload_n {y pc : Nat} {k0 : Fin 4} {i : Nat} (hd : decode (xby y) pc = .ok (.aload_n k0, 1)) (hi : (k0 : Nat) = i) : Snd y pc (xo_aload i pc 1) := by
  intro f lv st M o M' h IH
  unfold xo_aload at h
  split at h
  · rename_i x hq
    have hn := IH _ _ _ _ _ _ _ h
    refine ⟨hn.1, ?_⟩
    intro p l e R s m args below meth c D K A ad0 k0 c0 w0 ad H locs ls B
    obtain ⟨C, X, hS, hL, hst, hlen, hag, hcw⟩ := B
    have k := hn.2 p l e R s m args below meth c D K A ad0 k0 c0 w0 ad H locs ls ⟨C, X, hS, hL, XSt.cons (hL.2.2 _ _ hq).2 hst, hlen, hag, hcw⟩
    exact lv_aload_n C.1 C.2.1 hd hi (hL.2.2 _ _ hq).1 k
  · cases h
theorem sd_aload {y pc : Nat} {i : Nat} (hd : decode (xby y) pc = .ok (.aload i, 2)) : Snd y pc (xo_aload i pc 2) := by
  intro f lv st M o M' h IH
  unfold xo_aload at h
  split at h
  · rename_i x hq
    have hn := IH _ _ _ _ _ _ _ h
    refine ⟨hn.1, ?_⟩
    intro p l e R s m args below meth c D K A ad0 k0 c0 w0 ad H locs ls B
    obtain ⟨C, X, hS, hL, hst, hlen, hag, hcw⟩ := B
    have k := hn.2 p l e R s m args below meth c D K A ad0 k0 c0 w0 ad H locs ls ⟨C, X, hS, hL, XSt.cons (hL.2.2 _ _ hq).2 hst, hlen, hag, hcw⟩
    exact lv_aload C.1 C.2.1 hd (hL.2.2 _ _ hq).1 k
  · cases h
def xlst (ad : Nat → Nat → Nat) (lv : XL) : List (Nat × Value) := (List.range lv.length).filterMap (fun i => match lv[i]? with
  | some (some v) => some (i, tv ad v)
  | _ => none)
theorem xlst_mem {ad : Nat → Nat → Nat} {lv : XL} {i : Nat} {v : XV} (h : lv[i]? = some (some v)) : (i, tv ad v) ∈ xlst ad lv := by
  refine List.mem_filterMap.mpr ⟨i, List.mem_range.mpr (List.getElem?_eq_some_iff.mp h).1, ?_⟩
  rw [h]
theorem xlst_of {ad : Nat → Nat → Nat} {lv : XL} {q : Nat × Value} (h : q ∈ xlst ad lv) : ∃ v, lv[q.1]? = some (some v) ∧ q.2 = tv ad v := by
  obtain ⟨i, -, hi⟩ := List.mem_filterMap.mp h
  split at hi
  · rename_i v hv
    cases hi
    exact ⟨v, hv, rfl⟩
  · cases hi
theorem xlst_has {ad : Nat → Nat → Nat} {k : Nat → Nat} {lv : XL} {ls : Array Slot} (h : XLs ad k lv ls) : lv_has ls lv.length (xlst ad lv) := by
  refine ⟨h.1, h.2.1, fun q hq => ?_⟩
  obtain ⟨v, h1, h2⟩ := xlst_of hq
  rw [h2]
  exact (h.2.2 _ _ h1).1
theorem tv_cat {ad : Nat → Nat → Nat} {v : XV} : (tv ad v).category = xcat v := by
  rcases v with x | x | x
  · rfl
  · rfl
  · cases x <;> rfl
theorem XLs.store {ad : Nat → Nat → Nat} {k : Nat → Nat} {lv : XL} {ls ls' : Array Slot} {i : Nat} {v : XV} (h : XLs ad k lv ls) (hok : xok lv i = true) (hv : vok k v) (hi : i < lv.length)
    (h' : lv_has ls' lv.length ((i, tv ad v) :: (xlst ad lv).filter (fun q => !(q.1 == i) && !(q.1 + 1 == i && q.2.category == 2)))) : XLs ad k (lv.set i (some v)) ls' := by
  refine ⟨by rw [List.length_set]; exact h'.1, h'.2.1, fun j u hj => ?_⟩
  by_cases hji : j = i
  · subst hji
    rw [List.getElem?_set_self hi] at hj
    cases hj
    exact ⟨h'.2.2 (j, tv ad v) List.mem_cons_self, hv⟩
  · rw [List.getElem?_set_ne (Ne.symm hji)] at hj
    refine ⟨h'.2.2 (j, tv ad u) (List.mem_cons_of_mem _ (List.mem_filter.mpr ⟨xlst_mem hj, ?_⟩)), (h.2.2 _ _ hj).2⟩
    have h1 : (j == i) = false := by simp [hji]
    by_cases h2 : j + 1 = i
    · subst h2
      have h3 : (tv ad u).category ≠ 2 := by
        rw [tv_cat]
        intro h4
        unfold xok at hok
        simp only [hj] at hok
        rcases u with x | x | x
        · cases h4
        · cases hok
        · cases h4
      simp [h3]
    · simp [hji, h2]
theorem sd_istore_n {y pc : Nat} {k1 : Fin 4} {i : Nat} (hd : decode (xby y) pc = .ok (.istore_n k1, 1)) (hi : (k1 : Nat) = i) : Snd y pc (xo_istore i pc 1) := by
  intro f lv st M o M' h IH
  unfold xo_istore at h
  split at h
  · rename_i x r
    have h0 : (bif Nat.blt i lv.length && xok lv i then xnx (pc + 1) (lv.set i (some (.inl x))) r M else none) ≠ none := by
      intro hz
      rw [hz] at h
      cases h
    cases hb : (Nat.blt i lv.length && xok lv i) with
    | false => rw [hb] at h0; exact absurd rfl h0
    | true =>
      rw [hb] at h
      have hn := IH _ _ _ _ _ _ _ h
      simp only [Bool.and_eq_true] at hb
      have hb1 : i < lv.length := Nat.le_of_ble_eq_true hb.1
      refine ⟨hn.1, ?_⟩
      intro p l e R s m args below meth c D K A ad0 k0 c0 w0 ad H locs ls B
      obtain ⟨C, X, hS, hL, hst, hlen, hag, hcw⟩ := B
      refine lv_istore_n C.1 C.2.1 hd hi (xlst_has hL) hb1 rfl (fun ls' hls' => ?_)
      exact hn.2 p l e R s m args below meth c D K A ad0 k0 c0 w0 ad H locs ls' ⟨C, X, hS, XLs.store hL hb.2 hst.head hb1 hls', hst.tail, by rw [List.length_set]; exact hlen, hag, hcw⟩
  · cases h
theorem sd_istore {y pc : Nat} {i : Nat} (hd : decode (xby y) pc = .ok (.istore i, 2)) : Snd y pc (xo_istore i pc 2) := by
  intro f lv st M o M' h IH
  unfold xo_istore at h
  split at h
  · rename_i x r
    have h0 : (bif Nat.blt i lv.length && xok lv i then xnx (pc + 2) (lv.set i (some (.inl x))) r M else none) ≠ none := by
      intro hz
      rw [hz] at h
      cases h
    cases hb : (Nat.blt i lv.length && xok lv i) with
    | false => rw [hb] at h0; exact absurd rfl h0
    | true =>
      rw [hb] at h
      have hn := IH _ _ _ _ _ _ _ h
      simp only [Bool.and_eq_true] at hb
      have hb1 : i < lv.length := Nat.le_of_ble_eq_true hb.1
      refine ⟨hn.1, ?_⟩
      intro p l e R s m args below meth c D K A ad0 k0 c0 w0 ad H locs ls B
      obtain ⟨C, X, hS, hL, hst, hlen, hag, hcw⟩ := B
      refine lv_istore C.1 C.2.1 hd (xlst_has hL) hb1 rfl (fun ls' hls' => ?_)
      exact hn.2 p l e R s m args below meth c D K A ad0 k0 c0 w0 ad H locs ls' ⟨C, X, hS, XLs.store hL hb.2 hst.head hb1 hls', hst.tail, by rw [List.length_set]; exact hlen, hag, hcw⟩
  · cases h
theorem sd_astore_n {y pc : Nat} {k1 : Fin 4} {i : Nat} (hd : decode (xby y) pc = .ok (.astore_n k1, 1)) (hi : (k1 : Nat) = i) : Snd y pc (xo_astore i pc 1) := by
  intro f lv st M o M' h IH
  unfold xo_astore at h
  split at h
  · rename_i x r
    have h0 : (bif Nat.blt i lv.length && xok lv i then xnx (pc + 1) (lv.set i (some (.inr (.inr (some x))))) r M else none) ≠ none := by
      intro hz
      rw [hz] at h
      cases h
    cases hb : (Nat.blt i lv.length && xok lv i) with
    | false => rw [hb] at h0; exact absurd rfl h0
    | true =>
      rw [hb] at h
      have hn := IH _ _ _ _ _ _ _ h
      simp only [Bool.and_eq_true] at hb
      have hb1 : i < lv.length := Nat.le_of_ble_eq_true hb.1
      refine ⟨hn.1, ?_⟩
      intro p l e R s m args below meth c D K A ad0 k0 c0 w0 ad H locs ls B
      obtain ⟨C, X, hS, hL, hst, hlen, hag, hcw⟩ := B
      refine lv_astore_n C.1 C.2.1 hd hi (xlst_has hL) hb1 rfl (fun ls' hls' => ?_)
      exact hn.2 p l e R s m args below meth c D K A ad0 k0 c0 w0 ad H locs ls' ⟨C, X, hS, XLs.store hL hb.2 hst.head hb1 hls', hst.tail, by rw [List.length_set]; exact hlen, hag, hcw⟩
  · cases h
theorem sd_astore {y pc : Nat} {i : Nat} (hd : decode (xby y) pc = .ok (.astore i, 2)) : Snd y pc (xo_astore i pc 2) := by
  intro f lv st M o M' h IH
  unfold xo_astore at h
  split at h
  · rename_i x r
    have h0 : (bif Nat.blt i lv.length && xok lv i then xnx (pc + 2) (lv.set i (some (.inr (.inr (some x))))) r M else none) ≠ none := by
      intro hz
      rw [hz] at h
      cases h
    cases hb : (Nat.blt i lv.length && xok lv i) with
    | false => rw [hb] at h0; exact absurd rfl h0
    | true =>
      rw [hb] at h
      have hn := IH _ _ _ _ _ _ _ h
      simp only [Bool.and_eq_true] at hb
      have hb1 : i < lv.length := Nat.le_of_ble_eq_true hb.1
      refine ⟨hn.1, ?_⟩
      intro p l e R s m args below meth c D K A ad0 k0 c0 w0 ad H locs ls B
      obtain ⟨C, X, hS, hL, hst, hlen, hag, hcw⟩ := B
      refine lv_astore C.1 C.2.1 hd (xlst_has hL) hb1 rfl (fun ls' hls' => ?_)
      exact hn.2 p l e R s m args below meth c D K A ad0 k0 c0 w0 ad H locs ls' ⟨C, X, hS, XLs.store hL hb.2 hst.head hb1 hls', hst.tail, by rw [List.length_set]; exact hlen, hag, hcw⟩
  · cases h
theorem sd_iinc {y pc : Nat} {i : Nat} {n : Int} (hd : decode (xby y) pc = .ok (.iinc i n, 3)) : Snd y pc (xo_iinc i n pc 3) := by
  intro f lv st M o M' h IH
  unfold xo_iinc at h
  split at h
  · rename_i x hq
    cases hb : (Nat.blt i lv.length && xok lv i) with
    | false => rw [hb] at h; cases h
    | true =>
      rw [hb] at h
      have hn := IH _ _ _ _ _ _ _ h
      simp only [Bool.and_eq_true] at hb
      have hb1 : i < lv.length := Nat.le_of_ble_eq_true hb.1
      refine ⟨hn.1, ?_⟩
      intro p l e R s m args below meth c D K A ad0 k0 c0 w0 ad H locs ls B
      obtain ⟨C, X, hS, hL, hst, hlen, hag, hcw⟩ := B
      obtain ⟨k9, hk9⟩ := List.getElem?_of_mem (xlst_mem (ad := ad) hq)
      refine lv_iinc C.1 C.2.1 hd (xlst_has hL) hk9 rfl hb1 rfl (fun ls' hls' => ?_)
      exact hn.2 p l e R s m args below meth c D K A ad0 k0 c0 w0 ad H locs ls' ⟨C, X, hS, XLs.store hL hb.2 trivial hb1 hls', hst, by rw [List.length_set]; exact hlen, hag, hcw⟩
  · cases h
theorem sd_iadd {y pc : Nat} (hd : decode (xby y) pc = .ok (.iadd, 1)) : Snd y pc (xo_iadd pc 1) := by
  intro f lv st M o M' h IH
  unfold xo_iadd at h
  split at h
  · exact XG.pure (IH _ _ _ _ _ _ _ h) (fun z => XSt.cons trivial z.tail.tail) (fun p l e R s m args below meth c D K A ad H locs ls cells slots Q C X hS hL hst hlen hc hs k => lv_iadd C.1 C.2.1 hd k)
  · cases h
theorem sd_isub {y pc : Nat} (hd : decode (xby y) pc = .ok (.isub, 1)) : Snd y pc (xo_isub pc 1) := by
  intro f lv st M o M' h IH
  unfold xo_isub at h
  split at h
  · exact XG.pure (IH _ _ _ _ _ _ _ h) (fun z => XSt.cons trivial z.tail.tail) (fun p l e R s m args below meth c D K A ad H locs ls cells slots Q C X hS hL hst hlen hc hs k => lv_isub C.1 C.2.1 hd k)
  · cases h
theorem sd_imul {y pc : Nat} (hd : decode (xby y) pc = .ok (.imul, 1)) : Snd y pc (xo_imul pc 1) := by
  intro f lv st M o M' h IH
  unfold xo_imul at h
  split at h
  · exact XG.pure (IH _ _ _ _ _ _ _ h) (fun z => XSt.cons trivial z.tail.tail) (fun p l e R s m args below meth c D K A ad H locs ls cells slots Q C X hS hL hst hlen hc hs k => lv_imul C.1 C.2.1 hd k)
  · cases h
theorem sd_iand {y pc : Nat} (hd : decode (xby y) pc = .ok (.iand, 1)) : Snd y pc (xo_iand pc 1) := by
  intro f lv st M o M' h IH
  unfold xo_iand at h
  split at h
  · exact XG.pure (IH _ _ _ _ _ _ _ h) (fun z => XSt.cons trivial z.tail.tail) (fun p l e R s m args below meth c D K A ad H locs ls cells slots Q C X hS hL hst hlen hc hs k => lv_iand C.1 C.2.1 hd k)
  · cases h
theorem sd_idiv {y pc : Nat} (hd : decode (xby y) pc = .ok (.idiv, 1)) : Snd y pc (xo_idiv pc 1) := by
  intro f lv st M o M' h IH
  unfold xo_idiv at h
  split at h
  · rename_i y1 x1 r
    by_cases h0 : y1 = 0
    · rw [if_pos h0] at h; cases h
    · rw [if_neg h0] at h
      exact XG.pure (IH _ _ _ _ _ _ _ h) (fun z => XSt.cons trivial z.tail.tail) (fun p l e R s m args below meth c D K A ad H locs ls cells slots Q C X hS hL hst hlen hc hs k => lv_idiv C.1 C.2.1 hd h0 k)
  · cases h
theorem sd_irem {y pc : Nat} (hd : decode (xby y) pc = .ok (.irem, 1)) : Snd y pc (xo_irem pc 1) := by
  intro f lv st M o M' h IH
  unfold xo_irem at h
  split at h
  · rename_i y1 x1 r
    by_cases h0 : y1 = 0
    · rw [if_pos h0] at h; cases h
    · rw [if_neg h0] at h
      exact XG.pure (IH _ _ _ _ _ _ _ h) (fun z => XSt.cons trivial z.tail.tail) (fun p l e R s m args below meth c D K A ad H locs ls cells slots Q C X hS hL hst hlen hc hs k => lv_irem C.1 C.2.1 hd h0 k)
  · cases h
theorem sd_land {y pc : Nat} (hd : decode (xby y) pc = .ok (.land, 1)) : Snd y pc (xo_land pc 1) := by
  intro f lv st M o M' h IH
  unfold xo_land at h
  split at h
  · exact XG.pure (IH _ _ _ _ _ _ _ h) (fun z => XSt.cons trivial z.tail.tail) (fun p l e R s m args below meth c D K A ad H locs ls cells slots Q C X hS hL hst hlen hc hs k => lv_land C.1 C.2.1 hd k)
  · cases h
theorem sd_lor {y pc : Nat} (hd : decode (xby y) pc = .ok (.lor, 1)) : Snd y pc (xo_lor pc 1) := by
  intro f lv st M o M' h IH
  unfold xo_lor at h
  split at h
  · exact XG.pure (IH _ _ _ _ _ _ _ h) (fun z => XSt.cons trivial z.tail.tail) (fun p l e R s m args below meth c D K A ad H locs ls cells slots Q C X hS hL hst hlen hc hs k => lv_lor C.1 C.2.1 hd k)
  · cases h
theorem sd_lshl {y pc : Nat} (hd : decode (xby y) pc = .ok (.lshl, 1)) : Snd y pc (xo_lshl pc 1) := by
  intro f lv st M o M' h IH
  unfold xo_lshl at h
  split at h
  · exact XG.pure (IH _ _ _ _ _ _ _ h) (fun z => XSt.cons trivial z.tail.tail) (fun p l e R s m args below meth c D K A ad H locs ls cells slots Q C X hS hL hst hlen hc hs k => lv_lshl C.1 C.2.1 hd rfl k)
  · cases h
theorem sd_lshr {y pc : Nat} (hd : decode (xby y) pc = .ok (.lshr, 1)) : Snd y pc (xo_lshr pc 1) := by
  intro f lv st M o M' h IH
  unfold xo_lshr at h
  split at h
  · exact XG.pure (IH _ _ _ _ _ _ _ h) (fun z => XSt.cons trivial z.tail.tail) (fun p l e R s m args below meth c D K A ad H locs ls cells slots Q C X hS hL hst hlen hc hs k => lv_lshr C.1 C.2.1 hd rfl k)
  · cases h
theorem sd_lushr {y pc : Nat} (hd : decode (xby y) pc = .ok (.lushr, 1)) : Snd y pc (xo_lushr pc 1) := by
  intro f lv st M o M' h IH
  unfold xo_lushr at h
  split at h
  · exact XG.pure (IH _ _ _ _ _ _ _ h) (fun z => XSt.cons trivial z.tail.tail) (fun p l e R s m args below meth c D K A ad H locs ls cells slots Q C X hS hL hst hlen hc hs k => lv_lushr C.1 C.2.1 hd rfl k)
  · cases h
theorem sd_i2l {y pc : Nat} (hd : decode (xby y) pc = .ok (.i2l, 1)) : Snd y pc (xo_i2l pc 1) := by
  intro f lv st M o M' h IH
  unfold xo_i2l at h
  split at h
  · exact XG.pure (IH _ _ _ _ _ _ _ h) (fun z => XSt.cons trivial z.tail) (fun p l e R s m args below meth c D K A ad H locs ls cells slots Q C X hS hL hst hlen hc hs k => lv_i2l C.1 C.2.1 hd rfl k)
  · cases h
theorem sd_l2i {y pc : Nat} (hd : decode (xby y) pc = .ok (.l2i, 1)) : Snd y pc (xo_l2i pc 1) := by
  intro f lv st M o M' h IH
  unfold xo_l2i at h
  split at h
  · exact XG.pure (IH _ _ _ _ _ _ _ h) (fun z => XSt.cons trivial z.tail) (fun p l e R s m args below meth c D K A ad H locs ls cells slots Q C X hS hL hst hlen hc hs k => lv_l2i C.1 C.2.1 hd rfl k)
  · cases h
theorem sd_lcmp {y pc : Nat} (hd : decode (xby y) pc = .ok (.lcmp, 1)) : Snd y pc (xo_lcmp pc 1) := by
  intro f lv st M o M' h IH
  unfold xo_lcmp at h
  split at h
  · exact XG.pure (IH _ _ _ _ _ _ _ h) (fun z => XSt.cons trivial z.tail.tail) (fun p l e R s m args below meth c D K A ad H locs ls cells slots Q C X hS hL hst hlen hc hs k => W.lcmp C.1 C.2.1 hd k)
  · cases h
theorem sd_dup {y pc : Nat} (hd : decode (xby y) pc = .ok (.dup, 1)) : Snd y pc (xo_dup pc 1) := by
  intro f lv st M o M' h IH
  unfold xo_dup at h
  split at h
  · rename_i v r
    cases hb : Nat.beq (xcat v) 1 with
    | false => rw [hb] at h; cases h
    | true =>
      rw [hb] at h
      have hc1 : xcat v = 1 := Nat.eq_of_beq_eq_true hb
      exact XG.pure (IH _ _ _ _ _ _ _ h) (fun z => XSt.cons z.head z) (fun p l e R s m args below meth c D K A ad H locs ls cells slots Q C X hS hL hst hlen hc hs k => lv_dup C.1 C.2.1 hd (by rw [tv_cat]; exact hc1) k)
  · cases h
theorem sd_dup2 {y pc : Nat} (hd : decode (xby y) pc = .ok (.dup2, 1)) : Snd y pc (xo_dup2 pc 1) := by
  intro f lv st M o M' h IH
  unfold xo_dup2 at h
  split at h
  · rename_i v u r
    cases hb : (Nat.beq (xcat v) 1 && Nat.beq (xcat u) 1) with
    | false => rw [hb] at h; cases h
    | true =>
      rw [hb] at h
      simp only [Bool.and_eq_true] at hb
      have hc1 : xcat v = 1 := Nat.eq_of_beq_eq_true hb.1
      have hc2 : xcat u = 1 := Nat.eq_of_beq_eq_true hb.2
      exact XG.pure (IH _ _ _ _ _ _ _ h) (fun z => XSt.cons z.head (XSt.cons z.tail.head z)) (fun p l e R s m args below meth c D K A ad H locs ls cells slots Q C X hS hL hst hlen hc hs k => lv_dup2_11 C.1 C.2.1 hd (by rw [tv_cat]; exact hc1) (by rw [tv_cat]; exact hc2) k)
  · cases h
theorem sd_pop {y pc : Nat} (hd : decode (xby y) pc = .ok (.pop, 1)) : Snd y pc (xo_pop pc 1) := by
  intro f lv st M o M' h IH
  unfold xo_pop at h
  split at h
  · rename_i v r
    cases hb : Nat.beq (xcat v) 1 with
    | false => rw [hb] at h; cases h
    | true =>
      rw [hb] at h
      have hc1 : xcat v = 1 := Nat.eq_of_beq_eq_true hb
      exact XG.pure (IH _ _ _ _ _ _ _ h) (fun z => z.tail) (fun p l e R s m args below meth c D K A ad H locs ls cells slots Q C X hS hL hst hlen hc hs k => lv_pop C.1 C.2.1 hd (by rw [tv_cat]; exact hc1) k)
  · cases h
theorem xtg_ok {pc : Nat} {off : Int} (h : decide (0 ≤ (pc : Int) + off) = true) : (pc : Int) + off = ((xtg pc off : Nat) : Int) := by
  have h1 : 0 ≤ (pc : Int) + off := of_decide_eq_true h
  unfold xtg
  omega
theorem sd_goto {y pc : Nat} {off : Int} (hd : decode (xby y) pc = .ok (.goto off, 3)) : Snd y pc (xo_goto off pc) := by
  intro f lv st M o M' h IH
  unfold xo_goto at h
  cases hb : decide (0 ≤ (pc : Int) + off) with
  | false => rw [hb] at h; cases h
  | true =>
    rw [hb] at h
    exact XG.pure (IH _ _ _ _ _ _ _ h) (fun z => z) (fun p l e R s m args below meth c D K A ad H locs ls cells slots Q C X hS hL hst hlen hc hs k => lv_goto C.1 C.2.1 hd (xtg_ok hb) k)
theorem sd_icmp_eq {y pc : Nat} {off : Int} (hd : decode (xby y) pc = .ok (.if_icmp .eq off, 3)) : Snd y pc (xo_icmp .eq off pc 3) := by
  intro f lv st M o M' h IH
  unfold xo_icmp at h
  split at h
  · rename_i y1 x1 r
    cases hb : decide (0 ≤ (pc : Int) + off) with
    | false => rw [hb] at h; cases h
    | true =>
      rw [hb] at h
      by_cases hp : x1 = y1
      · have hx : xcmp .eq x1 y1 = true := by simp [xcmp, hp]
        rw [cond_true, if_pos hx] at h
        exact XG.pure (IH _ _ _ _ _ _ _ h) (fun z => z.tail.tail) (fun p l e R s m args below meth c D K A ad H locs ls cells slots Q C X hS hL hst hlen hc hs k => lv_icmp_eq C.1 C.2.1 hd (xtg_ok hb) (fun _ => k) (fun hn => absurd hp hn))
      · have hx : xcmp .eq x1 y1 = false := by simp [xcmp, hp]
        rw [cond_true, if_neg (by rw [hx]; decide)] at h
        exact XG.pure (IH _ _ _ _ _ _ _ h) (fun z => z.tail.tail) (fun p l e R s m args below meth c D K A ad H locs ls cells slots Q C X hS hL hst hlen hc hs k => lv_icmp_eq C.1 C.2.1 hd (xtg_ok hb) (fun hn => absurd hn hp) (fun _ => k))
  · cases h
theorem sd_if_eq {y pc : Nat} {off : Int} (hd : decode (xby y) pc = .ok (.ifCond .eq off, 3)) : Snd y pc (xo_if .eq off pc 3) := by
  intro f lv st M o M' h IH
  unfold xo_if at h
  split at h
  · rename_i x1 r
    cases hb : decide (0 ≤ (pc : Int) + off) with
    | false => rw [hb] at h; cases h
    | true =>
      rw [hb] at h
      by_cases hp : x1 = 0
      · have hx : xcmp .eq x1 0 = true := by simp [xcmp, hp]
        rw [cond_true, if_pos hx] at h
        exact XG.pure (IH _ _ _ _ _ _ _ h) (fun z => z.tail) (fun p l e R s m args below meth c D K A ad H locs ls cells slots Q C X hS hL hst hlen hc hs k => lv_if_eq C.1 C.2.1 hd (xtg_ok hb) (fun _ => k) (fun hn => absurd hp hn))
      · have hx : xcmp .eq x1 0 = false := by simp [xcmp, hp]
        rw [cond_true, if_neg (by rw [hx]; decide)] at h
        exact XG.pure (IH _ _ _ _ _ _ _ h) (fun z => z.tail) (fun p l e R s m args below meth c D K A ad H locs ls cells slots Q C X hS hL hst hlen hc hs k => lv_if_eq C.1 C.2.1 hd (xtg_ok hb) (fun hn => absurd hn hp) (fun _ => k))
  · cases h
theorem sd_icmp_ne {y pc : Nat} {off : Int} (hd : decode (xby y) pc = .ok (.if_icmp .ne off, 3)) : Snd y pc (xo_icmp .ne off pc 3) := by
  intro f lv st M o M' h IH
  unfold xo_icmp at h
  split at h
  · rename_i y1 x1 r
    cases hb : decide (0 ≤ (pc : Int) + off) with
    | false => rw [hb] at h; cases h
    | true =>
      rw [hb] at h
      by_cases hp : x1 = y1
      · have hx : xcmp .ne x1 y1 = false := by simp [xcmp, hp]
        rw [cond_true, if_neg (by rw [hx]; decide)] at h
        exact XG.pure (IH _ _ _ _ _ _ _ h) (fun z => z.tail.tail) (fun p l e R s m args below meth c D K A ad H locs ls cells slots Q C X hS hL hst hlen hc hs k => lv_icmp_ne C.1 C.2.1 hd (xtg_ok hb) (fun hn => absurd hp hn) (fun _ => k))
      · have hx : xcmp .ne x1 y1 = true := by simp [xcmp, hp]
        rw [cond_true, if_pos hx] at h
        exact XG.pure (IH _ _ _ _ _ _ _ h) (fun z => z.tail.tail) (fun p l e R s m args below meth c D K A ad H locs ls cells slots Q C X hS hL hst hlen hc hs k => lv_icmp_ne C.1 C.2.1 hd (xtg_ok hb) (fun _ => k) (fun hn => absurd hn hp))
  · cases h
theorem sd_if_ne {y pc : Nat} {off : Int} (hd : decode (xby y) pc = .ok (.ifCond .ne off, 3)) : Snd y pc (xo_if .ne off pc 3) := by
  intro f lv st M o M' h IH
  unfold xo_if at h
  split at h
  · rename_i x1 r
    cases hb : decide (0 ≤ (pc : Int) + off) with
    | false => rw [hb] at h; cases h
    | true =>
      rw [hb] at h
      by_cases hp : x1 = 0
      · have hx : xcmp .ne x1 0 = false := by simp [xcmp, hp]
        rw [cond_true, if_neg (by rw [hx]; decide)] at h
        exact XG.pure (IH _ _ _ _ _ _ _ h) (fun z => z.tail) (fun p l e R s m args below meth c D K A ad H locs ls cells slots Q C X hS hL hst hlen hc hs k => lv_if_ne C.1 C.2.1 hd (xtg_ok hb) (fun hn => absurd hp hn) (fun _ => k))
      · have hx : xcmp .ne x1 0 = true := by simp [xcmp, hp]
        rw [cond_true, if_pos hx] at h
        exact XG.pure (IH _ _ _ _ _ _ _ h) (fun z => z.tail) (fun p l e R s m args below meth c D K A ad H locs ls cells slots Q C X hS hL hst hlen hc hs k => lv_if_ne C.1 C.2.1 hd (xtg_ok hb) (fun _ => k) (fun hn => absurd hn hp))
  · cases h
theorem sd_icmp_lt {y pc : Nat} {off : Int} (hd : decode (xby y) pc = .ok (.if_icmp .lt off, 3)) : Snd y pc (xo_icmp .lt off pc 3) := by
  intro f lv st M o M' h IH
  unfold xo_icmp at h
  split at h
  · rename_i y1 x1 r
    cases hb : decide (0 ≤ (pc : Int) + off) with
    | false => rw [hb] at h; cases h
    | true =>
      rw [hb] at h
      by_cases hp : x1 < y1
      · have hx : xcmp .lt x1 y1 = true := by simp [xcmp, hp]
        rw [cond_true, if_pos hx] at h
        exact XG.pure (IH _ _ _ _ _ _ _ h) (fun z => z.tail.tail) (fun p l e R s m args below meth c D K A ad H locs ls cells slots Q C X hS hL hst hlen hc hs k => lv_icmp_lt C.1 C.2.1 hd (xtg_ok hb) (fun _ => k) (fun hn => absurd hp hn))
      · have hx : xcmp .lt x1 y1 = false := by simp [xcmp, hp]
        rw [cond_true, if_neg (by rw [hx]; decide)] at h
        exact XG.pure (IH _ _ _ _ _ _ _ h) (fun z => z.tail.tail) (fun p l e R s m args below meth c D K A ad H locs ls cells slots Q C X hS hL hst hlen hc hs k => lv_icmp_lt C.1 C.2.1 hd (xtg_ok hb) (fun hn => absurd hn hp) (fun _ => k))
  · cases h
theorem sd_if_lt {y pc : Nat} {off : Int} (hd : decode (xby y) pc = .ok (.ifCond .lt off, 3)) : Snd y pc (xo_if .lt off pc 3) := by
  intro f lv st M o M' h IH
  unfold xo_if at h
  split at h
  · rename_i x1 r
    cases hb : decide (0 ≤ (pc : Int) + off) with
    | false => rw [hb] at h; cases h
    | true =>
      rw [hb] at h
      by_cases hp : x1 < 0
      · have hx : xcmp .lt x1 0 = true := by simp [xcmp, hp]
        rw [cond_true, if_pos hx] at h
        exact XG.pure (IH _ _ _ _ _ _ _ h) (fun z => z.tail) (fun p l e R s m args below meth c D K A ad H locs ls cells slots Q C X hS hL hst hlen hc hs k => lv_if_lt C.1 C.2.1 hd (xtg_ok hb) (fun _ => k) (fun hn => absurd hp hn))
      · have hx : xcmp .lt x1 0 = false := by simp [xcmp, hp]
        rw [cond_true, if_neg (by rw [hx]; decide)] at h
        exact XG.pure (IH _ _ _ _ _ _ _ h) (fun z => z.tail) (fun p l e R s m args below meth c D K A ad H locs ls cells slots Q C X hS hL hst hlen hc hs k => lv_if_lt C.1 C.2.1 hd (xtg_ok hb) (fun hn => absurd hn hp) (fun _ => k))
  · cases h
theorem sd_icmp_ge {y pc : Nat} {off : Int} (hd : decode (xby y) pc = .ok (.if_icmp .ge off, 3)) : Snd y pc (xo_icmp .ge off pc 3) := by
  intro f lv st M o M' h IH
  unfold xo_icmp at h
  split at h
  · rename_i y1 x1 r
    cases hb : decide (0 ≤ (pc : Int) + off) with
    | false => rw [hb] at h; cases h
    | true =>
      rw [hb] at h
      by_cases hp : y1 ≤ x1
      · have hx : xcmp .ge x1 y1 = true := by simp [xcmp, hp]
        rw [cond_true, if_pos hx] at h
        exact XG.pure (IH _ _ _ _ _ _ _ h) (fun z => z.tail.tail) (fun p l e R s m args below meth c D K A ad H locs ls cells slots Q C X hS hL hst hlen hc hs k => lv_icmp_ge C.1 C.2.1 hd (xtg_ok hb) (fun _ => k) (fun hn => absurd hp hn))
      · have hx : xcmp .ge x1 y1 = false := by simp [xcmp, hp]
        rw [cond_true, if_neg (by rw [hx]; decide)] at h
        exact XG.pure (IH _ _ _ _ _ _ _ h) (fun z => z.tail.tail) (fun p l e R s m args below meth c D K A ad H locs ls cells slots Q C X hS hL hst hlen hc hs k => lv_icmp_ge C.1 C.2.1 hd (xtg_ok hb) (fun hn => absurd hn hp) (fun _ => k))
  · cases h
theorem sd_if_ge {y pc : Nat} {off : Int} (hd : decode (xby y) pc = .ok (.ifCond .ge off, 3)) : Snd y pc (xo_if .ge off pc 3) := by
  intro f lv st M o M' h IH
  unfold xo_if at h
  split at h
  · rename_i x1 r
    cases hb : decide (0 ≤ (pc : Int) + off) with
    | false => rw [hb] at h; cases h
    | true =>
      rw [hb] at h
      by_cases hp : 0 ≤ x1
      · have hx : xcmp .ge x1 0 = true := by simp [xcmp, hp]
        rw [cond_true, if_pos hx] at h
        exact XG.pure (IH _ _ _ _ _ _ _ h) (fun z => z.tail) (fun p l e R s m args below meth c D K A ad H locs ls cells slots Q C X hS hL hst hlen hc hs k => lv_if_ge C.1 C.2.1 hd (xtg_ok hb) (fun _ => k) (fun hn => absurd hp hn))
      · have hx : xcmp .ge x1 0 = false := by simp [xcmp, hp]
        rw [cond_true, if_neg (by rw [hx]; decide)] at h
        exact XG.pure (IH _ _ _ _ _ _ _ h) (fun z => z.tail) (fun p l e R s m args below meth c D K A ad H locs ls cells slots Q C X hS hL hst hlen hc hs k => lv_if_ge C.1 C.2.1 hd (xtg_ok hb) (fun hn => absurd hn hp) (fun _ => k))
  · cases h
theorem sd_icmp_gt {y pc : Nat} {off : Int} (hd : decode (xby y) pc = .ok (.if_icmp .gt off, 3)) : Snd y pc (xo_icmp .gt off pc 3) := by
  intro f lv st M o M' h IH
  unfold xo_icmp at h
  split at h
  · rename_i y1 x1 r
    cases hb : decide (0 ≤ (pc : Int) + off) with
    | false => rw [hb] at h; cases h
    | true =>
      rw [hb] at h
      by_cases hp : y1 < x1
      · have hx : xcmp .gt x1 y1 = true := by simp [xcmp, hp]
        rw [cond_true, if_pos hx] at h
        exact XG.pure (IH _ _ _ _ _ _ _ h) (fun z => z.tail.tail) (fun p l e R s m args below meth c D K A ad H locs ls cells slots Q C X hS hL hst hlen hc hs k => lv_icmp_gt C.1 C.2.1 hd (xtg_ok hb) (fun _ => k) (fun hn => absurd hp hn))
      · have hx : xcmp .gt x1 y1 = false := by simp [xcmp, hp]
        rw [cond_true, if_neg (by rw [hx]; decide)] at h
        exact XG.pure (IH _ _ _ _ _ _ _ h) (fun z => z.tail.tail) (fun p l e R s m args below meth c D K A ad H locs ls cells slots Q C X hS hL hst hlen hc hs k => lv_icmp_gt C.1 C.2.1 hd (xtg_ok hb) (fun hn => absurd hn hp) (fun _ => k))
  · cases h
theorem sd_if_gt {y pc : Nat} {off : Int} (hd : decode (xby y) pc = .ok (.ifCond .gt off, 3)) : Snd y pc (xo_if .gt off pc 3) := by
  intro f lv st M o M' h IH
  unfold xo_if at h
  split at h
  · rename_i x1 r
    cases hb : decide (0 ≤ (pc : Int) + off) with
    | false => rw [hb] at h; cases h
    | true =>
      rw [hb] at h
      by_cases hp : 0 < x1
      · have hx : xcmp .gt x1 0 = true := by simp [xcmp, hp]
        rw [cond_true, if_pos hx] at h
        exact XG.pure (IH _ _ _ _ _ _ _ h) (fun z => z.tail) (fun p l e R s m args below meth c D K A ad H locs ls cells slots Q C X hS hL hst hlen hc hs k => lv_if_gt C.1 C.2.1 hd (xtg_ok hb) (fun _ => k) (fun hn => absurd hp hn))
      · have hx : xcmp .gt x1 0 = false := by simp [xcmp, hp]
        rw [cond_true, if_neg (by rw [hx]; decide)] at h
        exact XG.pure (IH _ _ _ _ _ _ _ h) (fun z => z.tail) (fun p l e R s m args below meth c D K A ad H locs ls cells slots Q C X hS hL hst hlen hc hs k => lv_if_gt C.1 C.2.1 hd (xtg_ok hb) (fun hn => absurd hn hp) (fun _ => k))
  · cases h
theorem sd_icmp_le {y pc : Nat} {off : Int} (hd : decode (xby y) pc = .ok (.if_icmp .le off, 3)) : Snd y pc (xo_icmp .le off pc 3) := by
  intro f lv st M o M' h IH
  unfold xo_icmp at h
  split at h
  · rename_i y1 x1 r
    cases hb : decide (0 ≤ (pc : Int) + off) with
    | false => rw [hb] at h; cases h
    | true =>
      rw [hb] at h
      by_cases hp : x1 ≤ y1
      · have hx : xcmp .le x1 y1 = true := by simp [xcmp, hp]
        rw [cond_true, if_pos hx] at h
        exact XG.pure (IH _ _ _ _ _ _ _ h) (fun z => z.tail.tail) (fun p l e R s m args below meth c D K A ad H locs ls cells slots Q C X hS hL hst hlen hc hs k => lv_icmp_le C.1 C.2.1 hd (xtg_ok hb) (fun _ => k) (fun hn => absurd hp hn))
      · have hx : xcmp .le x1 y1 = false := by simp [xcmp, hp]
        rw [cond_true, if_neg (by rw [hx]; decide)] at h
        exact XG.pure (IH _ _ _ _ _ _ _ h) (fun z => z.tail.tail) (fun p l e R s m args below meth c D K A ad H locs ls cells slots Q C X hS hL hst hlen hc hs k => lv_icmp_le C.1 C.2.1 hd (xtg_ok hb) (fun hn => absurd hn hp) (fun _ => k))
  · cases h
theorem sd_if_le {y pc : Nat} {off : Int} (hd : decode (xby y) pc = .ok (.ifCond .le off, 3)) : Snd y pc (xo_if .le off pc 3) := by
  intro f lv st M o M' h IH
  unfold xo_if at h
  split at h
  · rename_i x1 r
    cases hb : decide (0 ≤ (pc : Int) + off) with
    | false => rw [hb] at h; cases h
    | true =>
      rw [hb] at h
      by_cases hp : x1 ≤ 0
      · have hx : xcmp .le x1 0 = true := by simp [xcmp, hp]
        rw [cond_true, if_pos hx] at h
        exact XG.pure (IH _ _ _ _ _ _ _ h) (fun z => z.tail) (fun p l e R s m args below meth c D K A ad H locs ls cells slots Q C X hS hL hst hlen hc hs k => lv_if_le C.1 C.2.1 hd (xtg_ok hb) (fun _ => k) (fun hn => absurd hp hn))
      · have hx : xcmp .le x1 0 = false := by simp [xcmp, hp]
        rw [cond_true, if_neg (by rw [hx]; decide)] at h
        exact XG.pure (IH _ _ _ _ _ _ _ h) (fun z => z.tail) (fun p l e R s m args below meth c D K A ad H locs ls cells slots Q C X hS hL hst hlen hc hs k => lv_if_le C.1 C.2.1 hd (xtg_ok hb) (fun hn => absurd hn hp) (fun _ => k))
  · cases h
