/-! ravelling -/
def vS (S : ST) : ST := (S.r - 1, S.T, S.n, S.told, S.cN, S.st, S.bd, S.sd, S.lp, S.dr, S.pg, S.tx, S.ln, S.lo, S.pa, fun x => if S.di x = S.r then 0 else S.di x)
def rvS (S : ST) : ST := if S.r = 0 then S else vS S
def aRav (S : ST) : Int32 := if S.r = 0 then neg1 else nI (S.r - 1)
theorem vS_xr {S : ST} : ∀ {i : Nat}, (vS S).xr i = S.xr i
  | 0 => rfl
  | i + 1 => by
    show (vS S).xr i + cbn (S.tx (i + 1)) (S.N (i + 1)) = S.xr i + cbn (S.tx (i + 1)) (S.N (i + 1))
    rw [vS_xr]
theorem vPJ {S : ST} (hP : PJ S) (hr : S.r ≠ 0) : PJ (vS S) := by
  have hP' := hP
  obtain ⟨P1, P2, P3, P4, P5, P6, P7, P8, P9, P10, P11, P12, P13, P14, P15, P16, P17, P18, P19⟩ := hP
  have rE : (vS S).r = S.r - 1 := rfl
  have lq : ∀ x, x < S.lp (S.r - 1) → x < S.lp S.r := fun x hx => Nat.lt_of_lt_of_le hx (lp_le hP' (by omega) (Nat.le_refl _))
  refine ⟨by rw [rE]; omega, P2, P3, fun i hi => P4 i (by rw [rE] at hi; omega), fun i j hi hj => P5 i j (by rw [rE] at hi; omega) hj, fun i hi => P6 i (by rw [rE] at hi; omega), fun i j x hi hj hx => P7 i j x (by rw [rE] at hi; omega) hj hx, fun i hi => P8 i (by rw [rE] at hi; omega), fun i i1 hi => P9 i i1 (by rw [rE] at hi; omega), fun h => ?_, fun x hx => P11 x (lq x hx), fun i j j' x hi hj hj' hx hx' => P12 i j j' x (by rw [rE] at hi; omega) hj hj' hx hx', fun i j hi hj => P13 i j (by rw [rE] at hi; omega) hj, fun i j x hi hj hx hl => P14 i j x (by rw [rE] at hi; omega) hj hx hl, fun x hx => ?_, fun i j x hi hj hx => ?_, fun i x hi hx hd => ?_, fun x hx hd => ?_, fun i j hi hj => P19 i j (by rw [rE] at hi; omega) hj⟩
  · have := P10 h
    exact absurd this.1 hr
  · show (if S.di x = S.r then 0 else S.di x) ≤ S.r - 1
    have := P15 x (lq x hx)
    split <;> omega
  · show (if S.di x = S.r then 0 else S.di x) = 0 ∨ i < (if S.di x = S.r then 0 else S.di x)
    have := P16 i j x (by rw [rE] at hi; omega) hj hx
    split
    · exact Or.inl rfl
    · exact this
  · have hd : (if S.di x = S.r then 0 else S.di x) = i + 1 := hd
    split at hd
    · omega
    · exact P17 i x (by rw [rE] at hi; omega) hx hd
  · have hd : (if S.di x = S.r then 0 else S.di x) ≠ 0 := hd
    show x < S.lp ((if S.di x = S.r then 0 else S.di x) - 1)
    split at hd
    · exact absurd rfl hd
    · rename_i u
      rw [if_neg u]
      exact P18 x (lq x hx) hd
theorem vwh {S : ST} (hP : PJ S) (hr : S.r ≠ 0) {x : Nat} (hx : x < S.lp (S.r - 1)) : wvs (fun _ => true) (fun j => nI j) (S.st (S.r - 1)) (fun x => S.wh x) (S.cN (S.r - 1)) x = (vS S).wh x := by
  have lq : x < S.lp S.r := Nat.lt_of_lt_of_le hx (lp_le hP (by omega) (Nat.le_refl _))
  have ew : (vS S).wh x = match whr (S.st (S.r - 1)) x (S.cN (S.r - 1)) with
    | some q => nI q
    | none => if (if S.di x = S.r then 0 else S.di x) = 0 then neg1 else neg2 := rfl
  rw [ew]
  by_cases h : ∃ j, j < S.cN (S.r - 1) ∧ x ∈ S.st (S.r - 1) j
  · obtain ⟨j, j1, j2⟩ := h
    have uq : ∀ j', j' < S.cN (S.r - 1) → x ∈ S.st (S.r - 1) j' → j' = j := fun j' a b => hP.2.2.2.2.2.2.2.2.2.2.2.1 (S.r - 1) j' j x (by omega) a j1 b j2
    rw [wvs_in j2 uq j1, if_pos rfl, whr_yes (j := j) (whr_out (fun j' hj' e => by have := uq j' (by omega) e; omega)) j2 j1]
  · have no : ∀ j, j < S.cN (S.r - 1) → x ∉ S.st (S.r - 1) j := fun j a b => h ⟨j, a, b⟩
    rw [wvs_out no, whr_out no]
    have nd : ¬ S.di x = S.r := fun e => by
      obtain ⟨j, a, b⟩ := hP.2.2.2.2.2.2.2.2.2.2.2.2.2.2.2.2.1 (S.r - 1) x (by omega) hx (by omega)
      exact no j a b
    show S.wh x = if (if S.di x = S.r then 0 else S.di x) = 0 then neg1 else neg2
    rw [if_neg nd]
    unfold ST.wh
    rw [whr_out (fun j hj e => by
      have hr1 : S.r = S.r - 1 + 1 := by omega
      obtain ⟨j', a, b⟩ := hP.2.2.2.2.2.2.2.2.2.2.2.2.2.1 (S.r - 1) j x (by omega) (by rw [← hr1]; exact hj) (by rw [← hr1]; exact e) hx
      exact no j' a b)]
theorem c_ravel {σ : Nat → Nat → Nat → Int32} {g : Nat → Nat → Nat → Int64} {ρ : Nat → Nat → Nat → Option XR} {k : Nat → Nat} {L c w : Nat} {Q : XO → XM → Prop} {S : ST} (hR : RC ρ) (hC : CI S σ) (hP : PJ S) (hQ : ∀ σ', CI (rvS S) σ' → (∀ t n k, 33 ≤ t ∨ t = 0 → σ' t n k = σ t n k) → (∀ k, σ' 2 0 k = σ 2 0 k) → Q (.inl (some (.inl (aRav S)))) (σ', g, ρ, k, L, c, w)) : WC 6 [.inr (.inr (some (1, 0)))] (σ, g, ρ, k, L, c, w) Q := by
  have b0 := hP.1
  have C1 := hC.1
  unfold aRav rvS at hQ
  by_cases h0 : S.r = 0
  · rw [if_pos h0] at hQ
    rw [if_pos h0] at hQ
    rw [h0] at C1
    simp +decide (discharger := first | decide | assumption | omega) only [WP_go, cd, ↓reduceIte, Nat.reduceLT, Nat.reduceAdd, Nat.reduceSub, Nat.reduceMul, Nat.reduceEqDiff, WX_next, WX_call, WX_end, WX_none, xkt, xkn, xkc, xst, nb_, nbl_, nble_, decide_true, decide_false, Bool.and_true, Bool.true_and, Bool.and_false, Bool.false_and, Bool.not_true, Bool.not_false, Bool.true_or, Bool.false_or, cond_true, cond_false, List.getElem?_cons_zero, List.getElem?_cons_succ, List.getElem?_nil, List.set_cons_zero, List.set_cons_succ, List.length_cons, List.length_nil, xok, xtg, xcmp, xargs, xsum, xcat, xmn, xdp, xlo, xml, xmc, xrt, xrecv, xent, xmake, xec, xes, Nat.reduceLeDiff, Int.reduceAdd, Int.reduceToNat, Int.reduceLE, xz_cast, xz_cast0, xz_cast1, Bool.false_eq_true, not_false_eq_true, not_true_eq_false, and_true, true_and, and_self, true_or, or_true, WP_sw0, WP_swT, WP_swF, WX_ifT, WX_ifF, WX_ifN, Int32.reduceOfInt, Int.reduceNeg, List.replicate, Nat.zero_add, Nat.lt_irrefl, Option.toList, List.cons_append, List.nil_append, WK_ret, ↓q_m1d, ↓q_m2d, q_lit, q_ofN, q_cl, q_add, q_sub, q_m1, pk_mul, q_ltT, q_ltF, q_leN, q_eqT, q_eqF, q_n1lt, q_ltn1, q_len1, q_n1le, q_eqn1, q_n1eq, xin_nI, decide_eq_true_eq, Bool.not_eq_true', decide_eq_false_iff_not, up3_s, up3_t, up3_n, up3_k, up3_e, cd_6, cd_6, @WC_in 6, xo_iconst, xo_lconst, xo_iload, xo_lload, xo_aload, xo_istore, xo_astore, xo_iinc, xo_iadd, xo_isub, xo_imul, xo_iand, xo_idiv, xo_irem, xo_land, xo_lor, xo_lshl, xo_lshr, xo_lushr, xo_i2l, xo_l2i, xo_lcmp, xo_dup, xo_dup2, xo_pop, xo_goto, xo_icmp, xo_if, xo_switch, xo_getf, xo_puti, xo_putz, xo_putr, xo_iald, xo_bald, xo_lald, xo_aald, xo_iast, xo_bast, xo_last, xo_aast, xo_alen, xo_new, xo_newa, xo_throw, xo_call, xo_objinit, xo_abs, xo_max, xo_ret, hR, C1]
    exact hQ σ hC (fun _ _ _ _ => rfl) (fun _ => rfl)
  rw [if_neg h0] at hQ
  rw [if_neg h0] at hQ
  have p4 := hP.2.2.2.1 (S.r - 1) (by omega)
  have p5 := hP.2.2.2.2.1 (S.r - 1)
  have p7 := hP.2.2.2.2.2.2.1 (S.r - 1)
  have p6 := hP.2.2.2.2.2.1 (S.r - 1) (by omega)
  have c10 := hC.2.2.2.2.1 (S.r - 1) (by omega)
  have c20 := hC.2.2.2.2.2.1 (S.r - 1)
  have c19 := hC.2.2.2.2.2.2.1 (S.r - 1)
  simp +decide (discharger := first | decide | assumption | omega) only [WP_go, cd, ↓reduceIte, Nat.reduceLT, Nat.reduceAdd, Nat.reduceSub, Nat.reduceMul, Nat.reduceEqDiff, WX_next, WX_call, WX_end, WX_none, xkt, xkn, xkc, xst, nb_, nbl_, nble_, decide_true, decide_false, Bool.and_true, Bool.true_and, Bool.and_false, Bool.false_and, Bool.not_true, Bool.not_false, Bool.true_or, Bool.false_or, cond_true, cond_false, List.getElem?_cons_zero, List.getElem?_cons_succ, List.getElem?_nil, List.set_cons_zero, List.set_cons_succ, List.length_cons, List.length_nil, xok, xtg, xcmp, xargs, xsum, xcat, xmn, xdp, xlo, xml, xmc, xrt, xrecv, xent, xmake, xec, xes, Nat.reduceLeDiff, Int.reduceAdd, Int.reduceToNat, Int.reduceLE, xz_cast, xz_cast0, xz_cast1, Bool.false_eq_true, not_false_eq_true, not_true_eq_false, and_true, true_and, and_self, true_or, or_true, WP_sw0, WP_swT, WP_swF, WX_ifT, WX_ifF, WX_ifN, Int32.reduceOfInt, Int.reduceNeg, List.replicate, Nat.zero_add, Nat.lt_irrefl, Option.toList, List.cons_append, List.nil_append, WK_ret, ↓q_m1d, ↓q_m2d, q_lit, q_ofN, q_cl, q_add, q_sub, q_m1, pk_mul, q_ltT, q_ltF, q_leN, q_eqT, q_eqF, q_n1lt, q_ltn1, q_len1, q_n1le, q_eqn1, q_n1eq, xin_nI, decide_eq_true_eq, Bool.not_eq_true', decide_eq_false_iff_not, up3_s, up3_t, up3_n, up3_k, up3_e, cd_6, cd_6, @WC_in 6, xo_iconst, xo_lconst, xo_iload, xo_lload, xo_aload, xo_istore, xo_astore, xo_iinc, xo_iadd, xo_isub, xo_imul, xo_iand, xo_idiv, xo_irem, xo_land, xo_lor, xo_lshl, xo_lshr, xo_lushr, xo_i2l, xo_l2i, xo_lcmp, xo_dup, xo_dup2, xo_pop, xo_goto, xo_icmp, xo_if, xo_switch, xo_getf, xo_puti, xo_putz, xo_putr, xo_iald, xo_bald, xo_lald, xo_aald, xo_iast, xo_bast, xo_last, xo_aast, xo_alen, xo_new, xo_newa, xo_throw, xo_call, xo_objinit, xo_abs, xo_max, xo_ret, hR, C1]
  generalize hσa : up3 σ 1 0 6 (nI (S.r - 1)) = σa
  have fa : ∀ t n k, t ≠ 1 → σa t n k = σ t n k := fun t n k h => by rw [← hσa]; exact up3_t h
  have a6 : σa 1 0 6 = nI (S.r - 1) := by rw [← hσa]; exact up3_s
  have a7 : σa 1 0 7 = σ 1 0 7 := by rw [← hσa]; exact up3_k (by decide)
  clear hσa
  refine lp_upL (fun j lv M => ∃ σ' z3, lv = [some (.inr (.inr (some (1, 0)))), some (.inr (.inr (some (10, S.r - 1)))), some (.inl (nI j)), z3] ∧ M = (σ', g, ρ, k, L, c, w) ∧ FrP (fun t _ => t = 27) σa σ' ∧ (∀ x, σ' 27 0 x = wvs (fun _ => true) (fun j => nI j) (S.st (S.r - 1)) (σa 27 0) j x)) (S.cN (S.r - 1)) ?_ ?_ 0 _ _ (by omega) ⟨_, _, rfl, rfl, FrP.rf, fun _ => rfl⟩
  · rintro j _ _ hj ⟨σ1, z3, rfl, rfl, F1, W1⟩ ih
    have d10 : σ1 10 (S.r - 1) 0 = nI (S.cN (S.r - 1)) := (F1 _ _ _ (by omega)).trans ((fa _ _ _ (by decide)).trans c10)
    have hl := p5 j (by omega) hj
    rw [WP_force]
    simp +decide (discharger := first | decide | assumption | omega) only [WP_go, cd, ↓reduceIte, Nat.reduceLT, Nat.reduceAdd, Nat.reduceSub, Nat.reduceMul, Nat.reduceEqDiff, WX_next, WX_call, WX_end, WX_none, xkt, xkn, xkc, xst, nb_, nbl_, nble_, decide_true, decide_false, Bool.and_true, Bool.true_and, Bool.and_false, Bool.false_and, Bool.not_true, Bool.not_false, Bool.true_or, Bool.false_or, cond_true, cond_false, List.getElem?_cons_zero, List.getElem?_cons_succ, List.getElem?_nil, List.set_cons_zero, List.set_cons_succ, List.length_cons, List.length_nil, xok, xtg, xcmp, xargs, xsum, xcat, xmn, xdp, xlo, xml, xmc, xrt, xrecv, xent, xmake, xec, xes, Nat.reduceLeDiff, Int.reduceAdd, Int.reduceToNat, Int.reduceLE, xz_cast, xz_cast0, xz_cast1, Bool.false_eq_true, not_false_eq_true, not_true_eq_false, and_true, true_and, and_self, true_or, or_true, WP_sw0, WP_swT, WP_swF, WX_ifT, WX_ifF, WX_ifN, Int32.reduceOfInt, Int.reduceNeg, List.replicate, Nat.zero_add, Nat.lt_irrefl, Option.toList, List.cons_append, List.nil_append, WK_ret, ↓q_m1d, ↓q_m2d, q_lit, q_ofN, q_cl, q_add, q_sub, q_m1, pk_mul, q_ltT, q_ltF, q_leN, q_eqT, q_eqF, q_n1lt, q_ltn1, q_len1, q_n1le, q_eqn1, q_n1eq, xin_nI, decide_eq_true_eq, Bool.not_eq_true', decide_eq_false_iff_not, up3_s, up3_t, up3_n, up3_k, up3_e, cd_6, cd_6, @WC_in 6, xo_iconst, xo_lconst, xo_iload, xo_lload, xo_aload, xo_istore, xo_astore, xo_iinc, xo_iadd, xo_isub, xo_imul, xo_iand, xo_idiv, xo_irem, xo_land, xo_lor, xo_lshl, xo_lshr, xo_lushr, xo_i2l, xo_l2i, xo_lcmp, xo_dup, xo_dup2, xo_pop, xo_goto, xo_icmp, xo_if, xo_switch, xo_getf, xo_puti, xo_putz, xo_putr, xo_iald, xo_bald, xo_lald, xo_aald, xo_iast, xo_bast, xo_last, xo_aast, xo_alen, xo_new, xo_newa, xo_throw, xo_call, xo_objinit, xo_abs, xo_max, xo_ret, hR, d10]
    refine lp_upL (fun d lv M => ∃ σ', lv = [some (.inr (.inr (some (1, 0)))), some (.inr (.inr (some (10, S.r - 1)))), some (.inl (nI j)), some (.inl (nI d))] ∧ M = (σ', g, ρ, k, L, c, w) ∧ FrP (fun t _ => t = 27) σa σ' ∧ (∀ x, σ' 27 0 x = if x ∈ (S.st (S.r - 1) j).take d then nI j else wvs (fun _ => true) (fun j => nI j) (S.st (S.r - 1)) (σa 27 0) j x)) (S.st (S.r - 1) j).length ?_ ?_ 0 _ _ (by omega) ⟨_, rfl, rfl, F1, W1⟩
    · rintro d _ _ hd ⟨σ2, rfl, rfl, F2, W2⟩ ih2
      have e20 : σ2 20 (S.r - 1) j = nI (S.st (S.r - 1) j).length := (F2 _ _ _ (by omega)).trans ((fa _ _ _ (by decide)).trans (c20 j (by omega) hj))
      have e19 : σ2 19 (S.r - 1) (j * 4 + d) = nI ((S.st (S.r - 1) j).getD d 0) := (F2 _ _ _ (by omega)).trans ((fa _ _ _ (by decide)).trans (c19 j d (by omega) hj hd))
      have e8 := p7 j _ (by omega) hj (getD_mem hd)
      rw [WP_force]
      simp +decide (discharger := first | decide | assumption | omega) only [WP_go, cd, ↓reduceIte, Nat.reduceLT, Nat.reduceAdd, Nat.reduceSub, Nat.reduceMul, Nat.reduceEqDiff, WX_next, WX_call, WX_end, WX_none, xkt, xkn, xkc, xst, nb_, nbl_, nble_, decide_true, decide_false, Bool.and_true, Bool.true_and, Bool.and_false, Bool.false_and, Bool.not_true, Bool.not_false, Bool.true_or, Bool.false_or, cond_true, cond_false, List.getElem?_cons_zero, List.getElem?_cons_succ, List.getElem?_nil, List.set_cons_zero, List.set_cons_succ, List.length_cons, List.length_nil, xok, xtg, xcmp, xargs, xsum, xcat, xmn, xdp, xlo, xml, xmc, xrt, xrecv, xent, xmake, xec, xes, Nat.reduceLeDiff, Int.reduceAdd, Int.reduceToNat, Int.reduceLE, xz_cast, xz_cast0, xz_cast1, Bool.false_eq_true, not_false_eq_true, not_true_eq_false, and_true, true_and, and_self, true_or, or_true, WP_sw0, WP_swT, WP_swF, WX_ifT, WX_ifF, WX_ifN, Int32.reduceOfInt, Int.reduceNeg, List.replicate, Nat.zero_add, Nat.lt_irrefl, Option.toList, List.cons_append, List.nil_append, WK_ret, ↓q_m1d, ↓q_m2d, q_lit, q_ofN, q_cl, q_add, q_sub, q_m1, pk_mul, q_ltT, q_ltF, q_leN, q_eqT, q_eqF, q_n1lt, q_ltn1, q_len1, q_n1le, q_eqn1, q_n1eq, xin_nI, decide_eq_true_eq, Bool.not_eq_true', decide_eq_false_iff_not, up3_s, up3_t, up3_n, up3_k, up3_e, cd_6, cd_6, @WC_in 6, cd_56, @WC_in 56, xo_iconst, xo_lconst, xo_iload, xo_lload, xo_aload, xo_istore, xo_astore, xo_iinc, xo_iadd, xo_isub, xo_imul, xo_iand, xo_idiv, xo_irem, xo_land, xo_lor, xo_lshl, xo_lshr, xo_lushr, xo_i2l, xo_l2i, xo_lcmp, xo_dup, xo_dup2, xo_pop, xo_goto, xo_icmp, xo_if, xo_switch, xo_getf, xo_puti, xo_putz, xo_putr, xo_iald, xo_bald, xo_lald, xo_aald, xo_iast, xo_bast, xo_last, xo_aast, xo_alen, xo_new, xo_newa, xo_throw, xo_call, xo_objinit, xo_abs, xo_max, xo_ret, hR, e20, e19]
      refine ih2 _ _ ⟨_, rfl, rfl, F2.up rfl, fun x => ?_⟩
      by_cases e : x = (S.st (S.r - 1) j).getD d 0
      · rw [e, up3_s, if_pos ((mem_take_s hd).mpr (Or.inr rfl))]
      · rw [up3_k e, W2 x]
        by_cases u : x ∈ (S.st (S.r - 1) j).take d
        · rw [if_pos u, if_pos ((mem_take_s hd).mpr (Or.inl u))]
        · rw [if_neg u, if_neg (fun q => ((mem_take_s hd).mp q).elim u e)]
    · rintro _ _ ⟨σ2, rfl, rfl, F2, W2⟩
      have e20 : σ2 20 (S.r - 1) j = nI (S.st (S.r - 1) j).length := (F2 _ _ _ (by omega)).trans ((fa _ _ _ (by decide)).trans (c20 j (by omega) hj))
      rw [WP_force]
      simp +decide (discharger := first | decide | assumption | omega) only [WP_go, cd, ↓reduceIte, Nat.reduceLT, Nat.reduceAdd, Nat.reduceSub, Nat.reduceMul, Nat.reduceEqDiff, WX_next, WX_call, WX_end, WX_none, xkt, xkn, xkc, xst, nb_, nbl_, nble_, decide_true, decide_false, Bool.and_true, Bool.true_and, Bool.and_false, Bool.false_and, Bool.not_true, Bool.not_false, Bool.true_or, Bool.false_or, cond_true, cond_false, List.getElem?_cons_zero, List.getElem?_cons_succ, List.getElem?_nil, List.set_cons_zero, List.set_cons_succ, List.length_cons, List.length_nil, xok, xtg, xcmp, xargs, xsum, xcat, xmn, xdp, xlo, xml, xmc, xrt, xrecv, xent, xmake, xec, xes, Nat.reduceLeDiff, Int.reduceAdd, Int.reduceToNat, Int.reduceLE, xz_cast, xz_cast0, xz_cast1, Bool.false_eq_true, not_false_eq_true, not_true_eq_false, and_true, true_and, and_self, true_or, or_true, WP_sw0, WP_swT, WP_swF, WX_ifT, WX_ifF, WX_ifN, Int32.reduceOfInt, Int.reduceNeg, List.replicate, Nat.zero_add, Nat.lt_irrefl, Option.toList, List.cons_append, List.nil_append, WK_ret, ↓q_m1d, ↓q_m2d, q_lit, q_ofN, q_cl, q_add, q_sub, q_m1, pk_mul, q_ltT, q_ltF, q_leN, q_eqT, q_eqF, q_n1lt, q_ltn1, q_len1, q_n1le, q_eqn1, q_n1eq, xin_nI, decide_eq_true_eq, Bool.not_eq_true', decide_eq_false_iff_not, up3_s, up3_t, up3_n, up3_k, up3_e, cd_6, cd_6, @WC_in 6, xo_iconst, xo_lconst, xo_iload, xo_lload, xo_aload, xo_istore, xo_astore, xo_iinc, xo_iadd, xo_isub, xo_imul, xo_iand, xo_idiv, xo_irem, xo_land, xo_lor, xo_lshl, xo_lshr, xo_lushr, xo_i2l, xo_l2i, xo_lcmp, xo_dup, xo_dup2, xo_pop, xo_goto, xo_icmp, xo_if, xo_switch, xo_getf, xo_puti, xo_putz, xo_putr, xo_iald, xo_bald, xo_lald, xo_aald, xo_iast, xo_bast, xo_last, xo_aast, xo_alen, xo_new, xo_newa, xo_throw, xo_call, xo_objinit, xo_abs, xo_max, xo_ret, hR, e20]
      refine ih _ _ ⟨_, _, rfl, rfl, F2, fun x => ?_⟩
      rw [W2 x, List.take_length, wvs_y rfl]
  · rintro _ _ ⟨σ1, z3, rfl, rfl, F1, W1⟩
    have d10 : σ1 10 (S.r - 1) 0 = nI (S.cN (S.r - 1)) := (F1 _ _ _ (by omega)).trans ((fa _ _ _ (by decide)).trans c10)
    have d6 : σ1 1 0 6 = nI (S.r - 1) := (F1 _ _ _ (by omega)).trans a6
    rw [WP_force]
    simp +decide (discharger := first | decide | assumption | omega) only [WP_go, cd, ↓reduceIte, Nat.reduceLT, Nat.reduceAdd, Nat.reduceSub, Nat.reduceMul, Nat.reduceEqDiff, WX_next, WX_call, WX_end, WX_none, xkt, xkn, xkc, xst, nb_, nbl_, nble_, decide_true, decide_false, Bool.and_true, Bool.true_and, Bool.and_false, Bool.false_and, Bool.not_true, Bool.not_false, Bool.true_or, Bool.false_or, cond_true, cond_false, List.getElem?_cons_zero, List.getElem?_cons_succ, List.getElem?_nil, List.set_cons_zero, List.set_cons_succ, List.length_cons, List.length_nil, xok, xtg, xcmp, xargs, xsum, xcat, xmn, xdp, xlo, xml, xmc, xrt, xrecv, xent, xmake, xec, xes, Nat.reduceLeDiff, Int.reduceAdd, Int.reduceToNat, Int.reduceLE, xz_cast, xz_cast0, xz_cast1, Bool.false_eq_true, not_false_eq_true, not_true_eq_false, and_true, true_and, and_self, true_or, or_true, WP_sw0, WP_swT, WP_swF, WX_ifT, WX_ifF, WX_ifN, Int32.reduceOfInt, Int.reduceNeg, List.replicate, Nat.zero_add, Nat.lt_irrefl, Option.toList, List.cons_append, List.nil_append, WK_ret, ↓q_m1d, ↓q_m2d, q_lit, q_ofN, q_cl, q_add, q_sub, q_m1, pk_mul, q_ltT, q_ltF, q_leN, q_eqT, q_eqF, q_n1lt, q_ltn1, q_len1, q_n1le, q_eqn1, q_n1eq, xin_nI, decide_eq_true_eq, Bool.not_eq_true', decide_eq_false_iff_not, up3_s, up3_t, up3_n, up3_k, up3_e, cd_6, cd_6, @WC_in 6, xo_iconst, xo_lconst, xo_iload, xo_lload, xo_aload, xo_istore, xo_astore, xo_iinc, xo_iadd, xo_isub, xo_imul, xo_iand, xo_idiv, xo_irem, xo_land, xo_lor, xo_lshl, xo_lshr, xo_lushr, xo_i2l, xo_l2i, xo_lcmp, xo_dup, xo_dup2, xo_pop, xo_goto, xo_icmp, xo_if, xo_switch, xo_getf, xo_puti, xo_putz, xo_putr, xo_iald, xo_bald, xo_lald, xo_aald, xo_iast, xo_bast, xo_last, xo_aast, xo_alen, xo_new, xo_newa, xo_throw, xo_call, xo_objinit, xo_abs, xo_max, xo_ret, hR, d10, d6]
    obtain ⟨C1, C2, C3, C4, C5, C6, C7, C8, C9, C10, C11, C12, C13, C14, C15, C16, C17, C18, C19, C20, C21, C22, C23, C24⟩ := hC
    have G : ∀ t n k, t ≠ 1 → t ≠ 27 → σ1 t n k = σ t n k := fun t n k a b => (F1 _ _ _ b).trans (fa _ _ _ a)
    have lq : ∀ x, x < S.lp (S.r - 1) → x < S.lp S.r := fun x hx => Nat.lt_of_lt_of_le hx (lp_le hP (by omega) (Nat.le_refl _))
    have rE : ∀ i, i ≤ (vS S).r → i ≤ S.r := fun i hi => by have hi : i ≤ S.r - 1 := hi; omega
    refine hQ σ1 ⟨d6, ?_, fun k hk => (G _ _ _ (by decide) (by decide)).trans (C3 k hk), (G _ _ _ (by decide) (by decide)).trans C4, fun i hi => (G _ _ _ (by decide) (by decide)).trans (C5 i (rE i hi)), fun i j hi hj => (G _ _ _ (by decide) (by decide)).trans (C6 i j (rE i hi) hj), fun i j d hi hj hd => (G _ _ _ (by decide) (by decide)).trans (C7 i j d (rE i hi) hj hd), fun i j hi hj => (G _ _ _ (by decide) (by decide)).trans (C8 i j (rE i hi) hj), fun i j hi hj => (G _ _ _ (by decide) (by decide)).trans (C9 i j (rE i hi) hj), fun i hi => (G _ _ _ (by decide) (by decide)).trans (C10 i (rE i hi)), fun i hi => (G _ _ _ (by decide) (by decide)).trans (C11 i (rE i hi)), fun i hi => by rw [vS_xr]; exact (G _ _ _ (by decide) (by decide)).trans (C12 i (rE i hi)), fun i i1 hi => (G _ _ _ (by decide) (by decide)).trans (C13 i i1 (rE i hi)), fun i i1 hi => (G _ _ _ (by decide) (by decide)).trans (C14 i i1 (rE i hi)), fun i i1 hi => (G _ _ _ (by decide) (by decide)).trans (C15 i i1 (rE i hi)), fun i i1 hi => (G _ _ _ (by decide) (by decide)).trans (C16 i i1 (rE i hi)), fun i i1 hi => (G _ _ _ (by decide) (by decide)).trans (C17 i i1 (rE i hi)), fun x hx => (G _ _ _ (by decide) (by decide)).trans (C18 x (lq x hx)), fun x hx => (G _ _ _ (by decide) (by decide)).trans (C19 x (lq x hx)), fun x hx => (G _ _ _ (by decide) (by decide)).trans (C20 x (lq x hx)), fun x hx => (G _ _ _ (by decide) (by decide)).trans (C21 x (lq x hx)), fun x hx => ?_, fun x j hx hj => (G _ _ _ (by decide) (by decide)).trans (C23 x j (lq x hx) hj), fun i s hi hs hc => ?_⟩ (fun t n k ht => G _ _ _ (by omega) (by omega)) (fun k => G _ _ _ (by decide) (by decide))
    · rw [F1 _ _ _ (by omega), a7]; exact C2
    · rw [W1 x, ← vwh hP h0 hx]
      refine wvs_b ?_
      rw [fa _ _ _ (by decide)]
      exact C22 x (lq x hx)
    · have hi : i < S.r - 1 := hi
      rw [vS_xr, G _ _ _ (by decide) (by decide), G _ _ _ (by decide) (by decide), G _ _ _ (by decide) (by decide), G _ _ _ (by decide) (by decide)]
      exact C24 i s (by omega) hs hc
theorem r_ravel {σ : Nat → Nat → Nat → Int32} {g : Nat → Nat → Nat → Int64} {ρ : Nat → Nat → Nat → Option XR} {k : Nat → Nat} {L c w : Nat} {Q : XO → XM → Prop} {S : ST} (hR : RC ρ) (hC : RI S σ) (hP : PJ S) (hQ : ∀ σ', RI (rvS S) σ' → (∀ t n k, t < 33 → t ≠ 2 → σ' t n k = σ t n k) → Q (.inl (some (.inl (aRav S)))) (σ', g, ρ, k, L, c, w)) : WC 98 [.inr (.inr (some (2, 0)))] (σ, g, ρ, k, L, c, w) Q := by
  have b0 := hP.1
  have hC' := hC
  obtain ⟨C1, C2, C3, C4, C5, C6, C7, C8, C9, C10, C11, C12, C13, C14, C15, C16, C17, C18, C19, C20, C21, C22⟩ := hC
  unfold aRav rvS at hQ
  by_cases hc0 : S.cN 0 = 0
  · have h0 := (hP.2.2.2.2.2.2.2.2.2.1 hc0).1
    rw [if_pos h0, if_pos h0] at hQ
    have c4 : σ 2 0 4 = nI 0 := by rw [C5, if_pos hc0]
    simp +decide (discharger := first | decide | assumption | omega) only [WP_go, cd, ↓reduceIte, Nat.reduceLT, Nat.reduceAdd, Nat.reduceSub, Nat.reduceMul, Nat.reduceEqDiff, WX_next, WX_call, WX_end, WX_none, xkt, xkn, xkc, xst, nb_, nbl_, nble_, decide_true, decide_false, Bool.and_true, Bool.true_and, Bool.and_false, Bool.false_and, Bool.not_true, Bool.not_false, Bool.true_or, Bool.false_or, cond_true, cond_false, List.getElem?_cons_zero, List.getElem?_cons_succ, List.getElem?_nil, List.set_cons_zero, List.set_cons_succ, List.length_cons, List.length_nil, xok, xtg, xcmp, xargs, xsum, xcat, xmn, xdp, xlo, xml, xmc, xrt, xrecv, xent, xmake, xec, xes, Nat.reduceLeDiff, Int.reduceAdd, Int.reduceToNat, Int.reduceLE, xz_cast, xz_cast0, xz_cast1, Bool.false_eq_true, not_false_eq_true, not_true_eq_false, and_true, true_and, and_self, true_or, or_true, WP_sw0, WP_swT, WP_swF, WX_ifT, WX_ifF, WX_ifN, Int32.reduceOfInt, Int.reduceNeg, List.replicate, Nat.zero_add, Nat.lt_irrefl, Option.toList, List.cons_append, List.nil_append, WK_ret, ↓q_m1d, ↓q_m2d, q_lit, q_ofN, q_cl, q_add, q_sub, q_m1, pk_mul, q_ltT, q_ltF, q_leN, q_eqT, q_eqF, q_n1lt, q_ltn1, q_len1, q_n1le, q_eqn1, q_n1eq, xin_nI, decide_eq_true_eq, Bool.not_eq_true', decide_eq_false_iff_not, up3_s, up3_t, up3_n, up3_k, up3_e, cd_98, cd_98, @WC_in 98, xo_iconst, xo_lconst, xo_iload, xo_lload, xo_aload, xo_istore, xo_astore, xo_iinc, xo_iadd, xo_isub, xo_imul, xo_iand, xo_idiv, xo_irem, xo_land, xo_lor, xo_lshl, xo_lshr, xo_lushr, xo_i2l, xo_l2i, xo_lcmp, xo_dup, xo_dup2, xo_pop, xo_goto, xo_icmp, xo_if, xo_switch, xo_getf, xo_puti, xo_putz, xo_putr, xo_iald, xo_bald, xo_lald, xo_aald, xo_iast, xo_bast, xo_last, xo_aast, xo_alen, xo_new, xo_newa, xo_throw, xo_call, xo_objinit, xo_abs, xo_max, xo_ret, hR, c4]
    exact hQ _ (RI_thr hC') (fun t n k _ h => up3_t h)
  have c4 : σ 2 0 4 = nI 1 := by rw [C5, if_neg hc0]
  by_cases h0 : S.r = 0
  · rw [if_pos h0, if_pos h0] at hQ
    rw [h0] at C1
    simp +decide (discharger := first | decide | assumption | omega) only [WP_go, cd, ↓reduceIte, Nat.reduceLT, Nat.reduceAdd, Nat.reduceSub, Nat.reduceMul, Nat.reduceEqDiff, WX_next, WX_call, WX_end, WX_none, xkt, xkn, xkc, xst, nb_, nbl_, nble_, decide_true, decide_false, Bool.and_true, Bool.true_and, Bool.and_false, Bool.false_and, Bool.not_true, Bool.not_false, Bool.true_or, Bool.false_or, cond_true, cond_false, List.getElem?_cons_zero, List.getElem?_cons_succ, List.getElem?_nil, List.set_cons_zero, List.set_cons_succ, List.length_cons, List.length_nil, xok, xtg, xcmp, xargs, xsum, xcat, xmn, xdp, xlo, xml, xmc, xrt, xrecv, xent, xmake, xec, xes, Nat.reduceLeDiff, Int.reduceAdd, Int.reduceToNat, Int.reduceLE, xz_cast, xz_cast0, xz_cast1, Bool.false_eq_true, not_false_eq_true, not_true_eq_false, and_true, true_and, and_self, true_or, or_true, WP_sw0, WP_swT, WP_swF, WX_ifT, WX_ifF, WX_ifN, Int32.reduceOfInt, Int.reduceNeg, List.replicate, Nat.zero_add, Nat.lt_irrefl, Option.toList, List.cons_append, List.nil_append, WK_ret, ↓q_m1d, ↓q_m2d, q_lit, q_ofN, q_cl, q_add, q_sub, q_m1, pk_mul, q_ltT, q_ltF, q_leN, q_eqT, q_eqF, q_n1lt, q_ltn1, q_len1, q_n1le, q_eqn1, q_n1eq, xin_nI, decide_eq_true_eq, Bool.not_eq_true', decide_eq_false_iff_not, up3_s, up3_t, up3_n, up3_k, up3_e, cd_98, cd_98, @WC_in 98, xo_iconst, xo_lconst, xo_iload, xo_lload, xo_aload, xo_istore, xo_astore, xo_iinc, xo_iadd, xo_isub, xo_imul, xo_iand, xo_idiv, xo_irem, xo_land, xo_lor, xo_lshl, xo_lshr, xo_lushr, xo_i2l, xo_l2i, xo_lcmp, xo_dup, xo_dup2, xo_pop, xo_goto, xo_icmp, xo_if, xo_switch, xo_getf, xo_puti, xo_putz, xo_putr, xo_iald, xo_bald, xo_lald, xo_aald, xo_iast, xo_bast, xo_last, xo_aast, xo_alen, xo_new, xo_newa, xo_throw, xo_call, xo_objinit, xo_abs, xo_max, xo_ret, hR, c4, C1]
    exact hQ _ (RI_thr hC') (fun t n k _ h => up3_t h)
  rw [if_neg h0, if_neg h0] at hQ
  have lpr := hP.2.2.2.2.2.1 S.r (Nat.le_refl _)
  have c38 := C11 S.r (Nat.le_refl _)
  have p15 := hP.2.2.2.2.2.2.2.2.2.2.2.2.2.2.1
  simp +decide (discharger := first | decide | assumption | omega) only [WP_go, cd, ↓reduceIte, Nat.reduceLT, Nat.reduceAdd, Nat.reduceSub, Nat.reduceMul, Nat.reduceEqDiff, WX_next, WX_call, WX_end, WX_none, xkt, xkn, xkc, xst, nb_, nbl_, nble_, decide_true, decide_false, Bool.and_true, Bool.true_and, Bool.and_false, Bool.false_and, Bool.not_true, Bool.not_false, Bool.true_or, Bool.false_or, cond_true, cond_false, List.getElem?_cons_zero, List.getElem?_cons_succ, List.getElem?_nil, List.set_cons_zero, List.set_cons_succ, List.length_cons, List.length_nil, xok, xtg, xcmp, xargs, xsum, xcat, xmn, xdp, xlo, xml, xmc, xrt, xrecv, xent, xmake, xec, xes, Nat.reduceLeDiff, Int.reduceAdd, Int.reduceToNat, Int.reduceLE, xz_cast, xz_cast0, xz_cast1, Bool.false_eq_true, not_false_eq_true, not_true_eq_false, and_true, true_and, and_self, true_or, or_true, WP_sw0, WP_swT, WP_swF, WX_ifT, WX_ifF, WX_ifN, Int32.reduceOfInt, Int.reduceNeg, List.replicate, Nat.zero_add, Nat.lt_irrefl, Option.toList, List.cons_append, List.nil_append, WK_ret, ↓q_m1d, ↓q_m2d, q_lit, q_ofN, q_cl, q_add, q_sub, q_m1, pk_mul, q_ltT, q_ltF, q_leN, q_eqT, q_eqF, q_n1lt, q_ltn1, q_len1, q_n1le, q_eqn1, q_n1eq, xin_nI, decide_eq_true_eq, Bool.not_eq_true', decide_eq_false_iff_not, up3_s, up3_t, up3_n, up3_k, up3_e, cd_98, cd_98, @WC_in 98, xo_iconst, xo_lconst, xo_iload, xo_lload, xo_aload, xo_istore, xo_astore, xo_iinc, xo_iadd, xo_isub, xo_imul, xo_iand, xo_idiv, xo_irem, xo_land, xo_lor, xo_lshl, xo_lshr, xo_lushr, xo_i2l, xo_l2i, xo_lcmp, xo_dup, xo_dup2, xo_pop, xo_goto, xo_icmp, xo_if, xo_switch, xo_getf, xo_puti, xo_putz, xo_putr, xo_iald, xo_bald, xo_lald, xo_aald, xo_iast, xo_bast, xo_last, xo_aast, xo_alen, xo_new, xo_newa, xo_throw, xo_call, xo_objinit, xo_abs, xo_max, xo_ret, hR, c4, C1]
  refine lp_up (fun i => [some (.inr (.inr (some (2, 0)))), some (.inl (nI i))]) (fun i M => ∃ σ', M = (σ', g, ρ, k, L, c, w) ∧ FrP (fun t _ => t = 50 ∨ t = 2) σ σ' ∧ (∀ k, k ≠ 0 → σ' 2 0 k = σ 2 0 k) ∧ (∀ x, x < S.lp S.r → σ' 50 0 x = nI (if x < i ∧ S.di x = S.r then 0 else S.di x))) (S.lp S.r) ?_ ?_ 0 _ (by omega) ⟨_, rfl, FrP.rf.up (Or.inr rfl), fun k hk => up3_k hk, fun x hx => by rw [up3_t (by decide), if_neg (fun u => by omega)]; exact C22 x hx⟩
  · rintro i _ hi ⟨σ1, rfl, F1, A1, B1⟩ ih
    have d5 : σ1 2 0 5 = nI S.r := (A1 5 (by decide)).trans C1
    have d38 : σ1 38 0 S.r = nI (S.lp S.r) := (F1 _ _ _ (by omega)).trans c38
    have d50 := B1 i hi
    rw [if_neg (fun u => by omega)] at d50
    have dle := p15 i hi
    rw [WP_force]
    by_cases e : S.di i = S.r
    · rw [e] at d50
      simp +decide (discharger := first | decide | assumption | omega) only [WP_go, cd, ↓reduceIte, Nat.reduceLT, Nat.reduceAdd, Nat.reduceSub, Nat.reduceMul, Nat.reduceEqDiff, WX_next, WX_call, WX_end, WX_none, xkt, xkn, xkc, xst, nb_, nbl_, nble_, decide_true, decide_false, Bool.and_true, Bool.true_and, Bool.and_false, Bool.false_and, Bool.not_true, Bool.not_false, Bool.true_or, Bool.false_or, cond_true, cond_false, List.getElem?_cons_zero, List.getElem?_cons_succ, List.getElem?_nil, List.set_cons_zero, List.set_cons_succ, List.length_cons, List.length_nil, xok, xtg, xcmp, xargs, xsum, xcat, xmn, xdp, xlo, xml, xmc, xrt, xrecv, xent, xmake, xec, xes, Nat.reduceLeDiff, Int.reduceAdd, Int.reduceToNat, Int.reduceLE, xz_cast, xz_cast0, xz_cast1, Bool.false_eq_true, not_false_eq_true, not_true_eq_false, and_true, true_and, and_self, true_or, or_true, WP_sw0, WP_swT, WP_swF, WX_ifT, WX_ifF, WX_ifN, Int32.reduceOfInt, Int.reduceNeg, List.replicate, Nat.zero_add, Nat.lt_irrefl, Option.toList, List.cons_append, List.nil_append, WK_ret, ↓q_m1d, ↓q_m2d, q_lit, q_ofN, q_cl, q_add, q_sub, q_m1, pk_mul, q_ltT, q_ltF, q_leN, q_eqT, q_eqF, q_n1lt, q_ltn1, q_len1, q_n1le, q_eqn1, q_n1eq, xin_nI, decide_eq_true_eq, Bool.not_eq_true', decide_eq_false_iff_not, up3_s, up3_t, up3_n, up3_k, up3_e, cd_98, cd_98, @WC_in 98, xo_iconst, xo_lconst, xo_iload, xo_lload, xo_aload, xo_istore, xo_astore, xo_iinc, xo_iadd, xo_isub, xo_imul, xo_iand, xo_idiv, xo_irem, xo_land, xo_lor, xo_lshl, xo_lshr, xo_lushr, xo_i2l, xo_l2i, xo_lcmp, xo_dup, xo_dup2, xo_pop, xo_goto, xo_icmp, xo_if, xo_switch, xo_getf, xo_puti, xo_putz, xo_putr, xo_iald, xo_bald, xo_lald, xo_aald, xo_iast, xo_bast, xo_last, xo_aast, xo_alen, xo_new, xo_newa, xo_throw, xo_call, xo_objinit, xo_abs, xo_max, xo_ret, hR, d5, d38, d50]
      refine ih _ ⟨_, rfl, F1.up (Or.inl rfl), fun k hk => by rw [up3_t (by decide)]; exact A1 k hk, fun x hx => ?_⟩
      by_cases u : x = i
      · rw [u, up3_s, if_pos ⟨by omega, e⟩]
      · rw [up3_k u, B1 x hx]
        by_cases v : x < i ∧ S.di x = S.r
        · rw [if_pos v, if_pos ⟨by omega, v.2⟩]
        · rw [if_neg v, if_neg (fun q => v ⟨by omega, q.2⟩)]
    · simp +decide (discharger := first | decide | assumption | omega) only [WP_go, cd, ↓reduceIte, Nat.reduceLT, Nat.reduceAdd, Nat.reduceSub, Nat.reduceMul, Nat.reduceEqDiff, WX_next, WX_call, WX_end, WX_none, xkt, xkn, xkc, xst, nb_, nbl_, nble_, decide_true, decide_false, Bool.and_true, Bool.true_and, Bool.and_false, Bool.false_and, Bool.not_true, Bool.not_false, Bool.true_or, Bool.false_or, cond_true, cond_false, List.getElem?_cons_zero, List.getElem?_cons_succ, List.getElem?_nil, List.set_cons_zero, List.set_cons_succ, List.length_cons, List.length_nil, xok, xtg, xcmp, xargs, xsum, xcat, xmn, xdp, xlo, xml, xmc, xrt, xrecv, xent, xmake, xec, xes, Nat.reduceLeDiff, Int.reduceAdd, Int.reduceToNat, Int.reduceLE, xz_cast, xz_cast0, xz_cast1, Bool.false_eq_true, not_false_eq_true, not_true_eq_false, and_true, true_and, and_self, true_or, or_true, WP_sw0, WP_swT, WP_swF, WX_ifT, WX_ifF, WX_ifN, Int32.reduceOfInt, Int.reduceNeg, List.replicate, Nat.zero_add, Nat.lt_irrefl, Option.toList, List.cons_append, List.nil_append, WK_ret, ↓q_m1d, ↓q_m2d, q_lit, q_ofN, q_cl, q_add, q_sub, q_m1, pk_mul, q_ltT, q_ltF, q_leN, q_eqT, q_eqF, q_n1lt, q_ltn1, q_len1, q_n1le, q_eqn1, q_n1eq, xin_nI, decide_eq_true_eq, Bool.not_eq_true', decide_eq_false_iff_not, up3_s, up3_t, up3_n, up3_k, up3_e, cd_98, cd_98, @WC_in 98, xo_iconst, xo_lconst, xo_iload, xo_lload, xo_aload, xo_istore, xo_astore, xo_iinc, xo_iadd, xo_isub, xo_imul, xo_iand, xo_idiv, xo_irem, xo_land, xo_lor, xo_lshl, xo_lshr, xo_lushr, xo_i2l, xo_l2i, xo_lcmp, xo_dup, xo_dup2, xo_pop, xo_goto, xo_icmp, xo_if, xo_switch, xo_getf, xo_puti, xo_putz, xo_putr, xo_iald, xo_bald, xo_lald, xo_aald, xo_iast, xo_bast, xo_last, xo_aast, xo_alen, xo_new, xo_newa, xo_throw, xo_call, xo_objinit, xo_abs, xo_max, xo_ret, hR, d5, d38, d50]
      refine ih _ ⟨_, rfl, F1.up (Or.inl rfl), fun k hk => by rw [up3_t (by decide)]; exact A1 k hk, fun x hx => ?_⟩
      by_cases u : x = i
      · rw [u, up3_s, if_neg (fun q => e q.2)]
      · rw [up3_k u, B1 x hx]
        by_cases v : x < i ∧ S.di x = S.r
        · rw [if_pos v, if_pos ⟨by omega, v.2⟩]
        · rw [if_neg v, if_neg (fun q => v ⟨by omega, q.2⟩)]
  · rintro _ ⟨σ1, rfl, F1, A1, B1⟩
    have d5 : σ1 2 0 5 = nI S.r := (A1 5 (by decide)).trans C1
    have d38 : σ1 38 0 S.r = nI (S.lp S.r) := (F1 _ _ _ (by omega)).trans c38
    rw [WP_force]
    simp +decide (discharger := first | decide | assumption | omega) only [WP_go, cd, ↓reduceIte, Nat.reduceLT, Nat.reduceAdd, Nat.reduceSub, Nat.reduceMul, Nat.reduceEqDiff, WX_next, WX_call, WX_end, WX_none, xkt, xkn, xkc, xst, nb_, nbl_, nble_, decide_true, decide_false, Bool.and_true, Bool.true_and, Bool.and_false, Bool.false_and, Bool.not_true, Bool.not_false, Bool.true_or, Bool.false_or, cond_true, cond_false, List.getElem?_cons_zero, List.getElem?_cons_succ, List.getElem?_nil, List.set_cons_zero, List.set_cons_succ, List.length_cons, List.length_nil, xok, xtg, xcmp, xargs, xsum, xcat, xmn, xdp, xlo, xml, xmc, xrt, xrecv, xent, xmake, xec, xes, Nat.reduceLeDiff, Int.reduceAdd, Int.reduceToNat, Int.reduceLE, xz_cast, xz_cast0, xz_cast1, Bool.false_eq_true, not_false_eq_true, not_true_eq_false, and_true, true_and, and_self, true_or, or_true, WP_sw0, WP_swT, WP_swF, WX_ifT, WX_ifF, WX_ifN, Int32.reduceOfInt, Int.reduceNeg, List.replicate, Nat.zero_add, Nat.lt_irrefl, Option.toList, List.cons_append, List.nil_append, WK_ret, ↓q_m1d, ↓q_m2d, q_lit, q_ofN, q_cl, q_add, q_sub, q_m1, pk_mul, q_ltT, q_ltF, q_leN, q_eqT, q_eqF, q_n1lt, q_ltn1, q_len1, q_n1le, q_eqn1, q_n1eq, xin_nI, decide_eq_true_eq, Bool.not_eq_true', decide_eq_false_iff_not, up3_s, up3_t, up3_n, up3_k, up3_e, cd_98, cd_98, @WC_in 98, xo_iconst, xo_lconst, xo_iload, xo_lload, xo_aload, xo_istore, xo_astore, xo_iinc, xo_iadd, xo_isub, xo_imul, xo_iand, xo_idiv, xo_irem, xo_land, xo_lor, xo_lshl, xo_lshr, xo_lushr, xo_i2l, xo_l2i, xo_lcmp, xo_dup, xo_dup2, xo_pop, xo_goto, xo_icmp, xo_if, xo_switch, xo_getf, xo_puti, xo_putz, xo_putr, xo_iald, xo_bald, xo_lald, xo_aald, xo_iast, xo_bast, xo_last, xo_aast, xo_alen, xo_new, xo_newa, xo_throw, xo_call, xo_objinit, xo_abs, xo_max, xo_ret, hR, d5, d38]
    have G : ∀ t n k, t ≠ 2 → t ≠ 50 → up3 σ1 2 0 5 (nI (S.r - 1)) t n k = σ t n k := fun t n k a b => by rw [up3_t a]; exact F1 _ _ _ (by omega)
    have G2 : ∀ k, k ≠ 0 → k ≠ 5 → up3 σ1 2 0 5 (nI (S.r - 1)) 2 0 k = σ 2 0 k := fun k a b => by rw [up3_k b]; exact A1 k a
    have lq : ∀ x, x < S.lp (S.r - 1) → x < S.lp S.r := fun x hx => Nat.lt_of_lt_of_le hx (lp_le hP (by omega) (Nat.le_refl _))
    have rE : ∀ i, i ≤ (vS S).r → i ≤ S.r := fun i hi => by have hi : i ≤ S.r - 1 := hi; omega
    refine hQ _ ⟨up3_s, (G2 _ (by decide) (by decide)).trans C2, fun k hk => (G _ _ _ (by decide) (by decide)).trans (C3 k hk), (G2 _ (by decide) (by decide)).trans C4, (G2 _ (by decide) (by decide)).trans C5, fun i hi => (G _ _ _ (by decide) (by decide)).trans (C6 i (rE i hi)), fun i j hi hj => (G _ _ _ (by decide) (by decide)).trans (C7 i j (rE i hi) hj), fun i j d hi hj hd => (G _ _ _ (by decide) (by decide)).trans (C8 i j d (rE i hi) hj hd), fun i j hi hj => (G _ _ _ (by decide) (by decide)).trans (C9 i j (rE i hi) hj), fun i j hc hi hj => (G _ _ _ (by decide) (by decide)).trans (C10 i j hc (rE i hi) hj), fun i hi => (G _ _ _ (by decide) (by decide)).trans (C11 i (rE i hi)), fun i hi => (G _ _ _ (by decide) (by decide)).trans (C12 i (rE i hi)), fun i j i1 hi hj => (G _ _ _ (by decide) (by decide)).trans (C13 i j i1 (rE i hi) hj), fun i i1 hi => (G _ _ _ (by decide) (by decide)).trans (C14 i i1 (rE i hi)), fun i j i1 hi hj => (G _ _ _ (by decide) (by decide)).trans (C15 i j i1 (rE i hi) hj), fun x hx => (G _ _ _ (by decide) (by decide)).trans (C16 x (lq x hx)), fun x hx => (G _ _ _ (by decide) (by decide)).trans (C17 x (lq x hx)), fun x hx => (G _ _ _ (by decide) (by decide)).trans (C18 x (lq x hx)), fun x hx => (G _ _ _ (by decide) (by decide)).trans (C19 x (lq x hx)), fun x hx => (G _ _ _ (by decide) (by decide)).trans (C20 x (lq x hx)), fun x j hx hj => (G _ _ _ (by decide) (by decide)).trans (C21 x j (lq x hx) hj), fun x hx => ?_⟩ (fun t n k a b => by rw [up3_t b]; exact F1 _ _ _ (by omega))
    rw [up3_t (by decide), B1 x (lq x hx)]
    show nI (if x < S.lp S.r ∧ S.di x = S.r then 0 else S.di x) = nI (if S.di x = S.r then 0 else S.di x)
    by_cases u : S.di x = S.r
    · rw [if_pos ⟨lq x hx, u⟩, if_pos u]
    · rw [if_neg (fun q => u q.2), if_neg u]
