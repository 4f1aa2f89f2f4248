theorem law_lp {L : Nat} (hL : L ≤ 1536) : ∀ m i (S : ST) σ g ρ k c w z5 z6, L + 3 ≤ i + m → i ≤ 1540 → lwI S σ ρ c w i → WP 117 23 (lwL i z5 z6) [] (σ, g, ρ, k, L, c, w) QF := by
  have OUT : ∀ i (S : ST) σ g ρ k c w z5 z6, L < i + 3 → i ≤ 1540 → lwI S σ ρ c w i → WP 117 23 (lwL i z5 z6) [] (σ, g, ρ, k, L, c, w) QF := by
    intro i S σ g ρ k c w z5 z6 h h2 hI
    have hR := hI.2.2.2.1
    have hc := hI.2.2.2.2.1
    have hw := hI.2.2.2.2.2
    unfold lwL
    rw [WP_force]
    by_cases u : 3 ≤ L
    · simp +decide (discharger := first | decide | assumption | omega) only [WP_go, cd, ↓reduceIte, Nat.reduceLT, Nat.reduceAdd, Nat.reduceSub, Nat.reduceMul, Nat.reduceEqDiff, WX_next, WX_call, WX_end, WX_none, xkt, xkn, xkc, xst, nb_, nbl_, nble_, decide_true, decide_false, Bool.and_true, Bool.true_and, Bool.and_false, Bool.false_and, Bool.not_true, Bool.not_false, Bool.true_or, Bool.false_or, cond_true, cond_false, List.getElem?_cons_zero, List.getElem?_cons_succ, List.getElem?_nil, List.set_cons_zero, List.set_cons_succ, List.length_cons, List.length_nil, xok, xtg, xcmp, xargs, xsum, xcat, xmn, xdp, xlo, xml, xmc, xrt, xrecv, xent, xmake, xec, xes, Nat.reduceLeDiff, Int.reduceAdd, Int.reduceToNat, Int.reduceLE, xz_cast, xz_cast0, xz_cast1, Bool.false_eq_true, not_false_eq_true, not_true_eq_false, and_true, true_and, and_self, true_or, or_true, WP_sw0, WP_swT, WP_swF, WX_ifT, WX_ifF, WX_ifN, Int32.reduceOfInt, Int.reduceNeg, List.replicate, Nat.zero_add, Nat.lt_irrefl, Option.toList, List.cons_append, List.nil_append, WK_ret, ↓q_m1d, ↓q_m2d, q_lit, q_ofN, q_cl, q_add, q_sub, q_m1, pk_mul, q_ltT, q_ltF, q_leN, q_eqT, q_eqF, q_n1lt, q_ltn1, q_len1, q_n1le, q_eqn1, q_n1eq, xin_nI, decide_eq_true_eq, Bool.not_eq_true', decide_eq_false_iff_not, up3_s, up3_t, up3_n, up3_k, up3_e, cd_117, cd_117, @WC_in 117, xo_iconst, xo_lconst, xo_iload, xo_lload, xo_aload, xo_istore, xo_astore, xo_iinc, xo_iadd, xo_isub, xo_imul, xo_iand, xo_idiv, xo_irem, xo_land, xo_lor, xo_lshl, xo_lshr, xo_lushr, xo_i2l, xo_l2i, xo_lcmp, xo_dup, xo_dup2, xo_pop, xo_goto, xo_icmp, xo_if, xo_switch, xo_getf, xo_puti, xo_putz, xo_putr, xo_iald, xo_bald, xo_lald, xo_aald, xo_iast, xo_bast, xo_last, xo_aast, xo_alen, xo_new, xo_newa, xo_throw, xo_call, xo_objinit, xo_abs, xo_max, xo_ret, hR]
      exact ⟨rfl, by show c ≤ 601024; omega, by show w ≤ 7293034; omega⟩
    · have n1 : nI L - nI 3 < nI i := by
        rw [Int32.lt_iff_toInt_lt, pk_sub_toInt (by omega) (by omega), nI_toInt (by omega)]
        omega
      simp +decide (discharger := first | decide | assumption | omega) only [WP_go, cd, ↓reduceIte, Nat.reduceLT, Nat.reduceAdd, Nat.reduceSub, Nat.reduceMul, Nat.reduceEqDiff, WX_next, WX_call, WX_end, WX_none, xkt, xkn, xkc, xst, nb_, nbl_, nble_, decide_true, decide_false, Bool.and_true, Bool.true_and, Bool.and_false, Bool.false_and, Bool.not_true, Bool.not_false, Bool.true_or, Bool.false_or, cond_true, cond_false, List.getElem?_cons_zero, List.getElem?_cons_succ, List.getElem?_nil, List.set_cons_zero, List.set_cons_succ, List.length_cons, List.length_nil, xok, xtg, xcmp, xargs, xsum, xcat, xmn, xdp, xlo, xml, xmc, xrt, xrecv, xent, xmake, xec, xes, Nat.reduceLeDiff, Int.reduceAdd, Int.reduceToNat, Int.reduceLE, xz_cast, xz_cast0, xz_cast1, Bool.false_eq_true, not_false_eq_true, not_true_eq_false, and_true, true_and, and_self, true_or, or_true, WP_sw0, WP_swT, WP_swF, WX_ifT, WX_ifF, WX_ifN, Int32.reduceOfInt, Int.reduceNeg, List.replicate, Nat.zero_add, Nat.lt_irrefl, Option.toList, List.cons_append, List.nil_append, WK_ret, ↓q_m1d, ↓q_m2d, q_lit, q_ofN, q_cl, q_add, q_sub, q_m1, pk_mul, q_ltT, q_ltF, q_leN, q_eqT, q_eqF, q_n1lt, q_ltn1, q_len1, q_n1le, q_eqn1, q_n1eq, xin_nI, decide_eq_true_eq, Bool.not_eq_true', decide_eq_false_iff_not, up3_s, up3_t, up3_n, up3_k, up3_e, cd_117, cd_117, @WC_in 117, xo_iconst, xo_lconst, xo_iload, xo_lload, xo_aload, xo_istore, xo_astore, xo_iinc, xo_iadd, xo_isub, xo_imul, xo_iand, xo_idiv, xo_irem, xo_land, xo_lor, xo_lshl, xo_lshr, xo_lushr, xo_i2l, xo_l2i, xo_lcmp, xo_dup, xo_dup2, xo_pop, xo_goto, xo_icmp, xo_if, xo_switch, xo_getf, xo_puti, xo_putz, xo_putr, xo_iald, xo_bald, xo_lald, xo_aald, xo_iast, xo_bast, xo_last, xo_aast, xo_alen, xo_new, xo_newa, xo_throw, xo_call, xo_objinit, xo_abs, xo_max, xo_ret, hR]
      exact ⟨rfl, by show c ≤ 601024; omega, by show w ≤ 7293034; omega⟩
  intro m
  induction m with
  | zero =>
    intro i S σ g ρ k c w z5 z6 h h2 hI
    exact OUT i S σ g ρ k c w z5 z6 (by omega) h2 hI
  | succ m ih =>
    intro i S σ g ρ k c w z5 z6 h h2 hI
    by_cases u : L < i + 3
    · exact OUT i S σ g ρ k c w z5 z6 u h2 hI
    have hi : i + 3 ≤ L := by omega
    have NX : NXT L i := fun S σ g ρ k c w z5 z6 hI => ih (i + 3) S σ g ρ k c w z5 z6 (by omega) (by omega) hI
    have hR := hI.2.2.2.1
    have hc := hI.2.2.2.2.1
    have hw := hI.2.2.2.2.2
    rw [WP_force]
    unfold lwL
    simp +decide (discharger := first | decide | assumption | omega) only [WP_go, cd, ↓reduceIte, Nat.reduceLT, Nat.reduceAdd, Nat.reduceSub, Nat.reduceMul, Nat.reduceEqDiff, WX_next, WX_call, WX_end, WX_none, xkt, xkn, xkc, xst, nb_, nbl_, nble_, decide_true, decide_false, Bool.and_true, Bool.true_and, Bool.and_false, Bool.false_and, Bool.not_true, Bool.not_false, Bool.true_or, Bool.false_or, cond_true, cond_false, List.getElem?_cons_zero, List.getElem?_cons_succ, List.getElem?_nil, List.set_cons_zero, List.set_cons_succ, List.length_cons, List.length_nil, xok, xtg, xcmp, xargs, xsum, xcat, xmn, xdp, xlo, xml, xmc, xrt, xrecv, xent, xmake, xec, xes, Nat.reduceLeDiff, Int.reduceAdd, Int.reduceToNat, Int.reduceLE, xz_cast, xz_cast0, xz_cast1, Bool.false_eq_true, not_false_eq_true, not_true_eq_false, and_true, true_and, and_self, true_or, or_true, WP_sw0, WP_swT, WP_swF, WX_ifT, WX_ifF, WX_ifN, Int32.reduceOfInt, Int.reduceNeg, List.replicate, Nat.zero_add, Nat.lt_irrefl, Option.toList, List.cons_append, List.nil_append, WK_ret, ↓q_m1d, ↓q_m2d, q_lit, q_ofN, q_cl, q_add, q_sub, q_m1, pk_mul, q_ltT, q_ltF, q_leN, q_eqT, q_eqF, q_n1lt, q_ltn1, q_len1, q_n1le, q_eqn1, q_n1eq, xin_nI, decide_eq_true_eq, Bool.not_eq_true', decide_eq_false_iff_not, up3_s, up3_t, up3_n, up3_k, up3_e, cd_117, cd_117, @WC_in 117, xo_iconst, xo_lconst, xo_iload, xo_lload, xo_aload, xo_istore, xo_astore, xo_iinc, xo_iadd, xo_isub, xo_imul, xo_iand, xo_idiv, xo_irem, xo_land, xo_lor, xo_lshl, xo_lshr, xo_lushr, xo_i2l, xo_l2i, xo_lcmp, xo_dup, xo_dup2, xo_pop, xo_goto, xo_icmp, xo_if, xo_switch, xo_getf, xo_puti, xo_putz, xo_putr, xo_iald, xo_bald, xo_lald, xo_aald, xo_iast, xo_bast, xo_last, xo_aast, xo_alen, xo_new, xo_newa, xo_throw, xo_call, xo_objinit, xo_abs, xo_max, xo_ret, hR]
    rw [WP_sw]
    refine ⟨fun _ => lw_write hL hi hI NX, fun _ => ?_⟩
    rw [WP_sw]
    refine ⟨fun _ => lw_wipe hI NX, fun _ => ?_⟩
    rw [WP_sw]
    refine ⟨fun _ => lw_castOn hL hi hI NX, fun _ => ?_⟩
    rw [WP_sw]
    refine ⟨fun _ => lw_knit hL hi hI NX, fun _ => ?_⟩
    rw [WP_sw]
    refine ⟨fun _ => lw_place hI NX, fun _ => ?_⟩
    rw [WP_sw]
    refine ⟨fun _ => lw_ravel hI NX, fun _ => ?_⟩
    rw [WP_sw]
    refine ⟨fun _ => lw_number hL hi hI NX, fun _ => ?_⟩
    rw [WP_sw]
    refine ⟨fun _ => lw_program hL hi hI NX, fun _ => ?_⟩
    rw [WP_sw]
    refine ⟨fun _ => lw_parent hL hi hI NX, fun _ => ?_⟩
    rw [WP_sw]
    refine ⟨fun _ => lw_loop hL hi hI NX, fun _ => ?_⟩
    rw [WP_sw]
    refine ⟨fun _ => lw_cross hL hi hI NX, fun _ => ?_⟩
    rw [WP_sw]
    refine ⟨fun _ => lw_live hL hi hI NX, fun _ => ?_⟩
    rw [WP_sw]
    refine ⟨fun _ => lw_bed hL hi hI NX, fun _ => ?_⟩
    rw [WP_sw]
    refine ⟨fun _ => lw_side hL hi hI NX, fun _ => ?_⟩
    rw [WP_sw0]
    simp +decide (discharger := first | decide | assumption | omega) only [WP_go, cd, ↓reduceIte, Nat.reduceLT, Nat.reduceAdd, Nat.reduceSub, Nat.reduceMul, Nat.reduceEqDiff, WX_next, WX_call, WX_end, WX_none, xkt, xkn, xkc, xst, nb_, nbl_, nble_, decide_true, decide_false, Bool.and_true, Bool.true_and, Bool.and_false, Bool.false_and, Bool.not_true, Bool.not_false, Bool.true_or, Bool.false_or, cond_true, cond_false, List.getElem?_cons_zero, List.getElem?_cons_succ, List.getElem?_nil, List.set_cons_zero, List.set_cons_succ, List.length_cons, List.length_nil, xok, xtg, xcmp, xargs, xsum, xcat, xmn, xdp, xlo, xml, xmc, xrt, xrecv, xent, xmake, xec, xes, Nat.reduceLeDiff, Int.reduceAdd, Int.reduceToNat, Int.reduceLE, xz_cast, xz_cast0, xz_cast1, Bool.false_eq_true, not_false_eq_true, not_true_eq_false, and_true, true_and, and_self, true_or, or_true, WP_sw0, WP_swT, WP_swF, WX_ifT, WX_ifF, WX_ifN, Int32.reduceOfInt, Int.reduceNeg, List.replicate, Nat.zero_add, Nat.lt_irrefl, Option.toList, List.cons_append, List.nil_append, WK_ret, ↓q_m1d, ↓q_m2d, q_lit, q_ofN, q_cl, q_add, q_sub, q_m1, pk_mul, q_ltT, q_ltF, q_leN, q_eqT, q_eqF, q_n1lt, q_ltn1, q_len1, q_n1le, q_eqn1, q_n1eq, xin_nI, decide_eq_true_eq, Bool.not_eq_true', decide_eq_false_iff_not, up3_s, up3_t, up3_n, up3_k, up3_e, cd_117, cd_117, @WC_in 117, xo_iconst, xo_lconst, xo_iload, xo_lload, xo_aload, xo_istore, xo_astore, xo_iinc, xo_iadd, xo_isub, xo_imul, xo_iand, xo_idiv, xo_irem, xo_land, xo_lor, xo_lshl, xo_lshr, xo_lushr, xo_i2l, xo_l2i, xo_lcmp, xo_dup, xo_dup2, xo_pop, xo_goto, xo_icmp, xo_if, xo_switch, xo_getf, xo_puti, xo_putz, xo_putr, xo_iald, xo_bald, xo_lald, xo_aald, xo_iast, xo_bast, xo_last, xo_aast, xo_alen, xo_new, xo_newa, xo_throw, xo_call, xo_objinit, xo_abs, xo_max, xo_ret, hR]
    exact NX S _ _ _ _ _ _ _ _ ⟨hI.1, hI.2.1, hI.2.2.1, hR, by omega, by omega⟩
theorem law_start {σ : Nat → Nat → Nat → Int32} {g : Nat → Nat → Nat → Int64} {ρ : Nat → Nat → Nat → Option XR} {k : Nat → Nat} {L : Nat} (hL : L ≤ 1536) (hk : ∀ t, 1 ≤ t → k t = 0) : WC 117 [.inr (.inr (some (0, 0)))] (σ, g, ρ, k, L, 0, 0) QF := by
  have k1 := hk 1 (by decide)
  simp +decide (discharger := first | decide | assumption | omega) only [WP_go, cd, ↓reduceIte, Nat.reduceLT, Nat.reduceAdd, Nat.reduceSub, Nat.reduceMul, Nat.reduceEqDiff, WX_next, WX_call, WX_end, WX_none, xkt, xkn, xkc, xst, nb_, nbl_, nble_, decide_true, decide_false, Bool.and_true, Bool.true_and, Bool.and_false, Bool.false_and, Bool.not_true, Bool.not_false, Bool.true_or, Bool.false_or, cond_true, cond_false, List.getElem?_cons_zero, List.getElem?_cons_succ, List.getElem?_nil, List.set_cons_zero, List.set_cons_succ, List.length_cons, List.length_nil, xok, xtg, xcmp, xargs, xsum, xcat, xmn, xdp, xlo, xml, xmc, xrt, xrecv, xent, xmake, xec, xes, Nat.reduceLeDiff, Int.reduceAdd, Int.reduceToNat, Int.reduceLE, xz_cast, xz_cast0, xz_cast1, Bool.false_eq_true, not_false_eq_true, not_true_eq_false, and_true, true_and, and_self, true_or, or_true, WP_sw0, WP_swT, WP_swF, WX_ifT, WX_ifF, WX_ifN, Int32.reduceOfInt, Int.reduceNeg, List.replicate, Nat.zero_add, Nat.lt_irrefl, Option.toList, List.cons_append, List.nil_append, WK_ret, ↓q_m1d, ↓q_m2d, q_lit, q_ofN, q_cl, q_add, q_sub, q_m1, pk_mul, q_ltT, q_ltF, q_leN, q_eqT, q_eqF, q_n1lt, q_ltn1, q_len1, q_n1le, q_eqn1, q_n1eq, xin_nI, decide_eq_true_eq, Bool.not_eq_true', decide_eq_false_iff_not, up3_s, up3_t, up3_n, up3_k, up3_e, cd_117, cd_117, @WC_in 117, xo_iconst, xo_lconst, xo_iload, xo_lload, xo_aload, xo_istore, xo_astore, xo_iinc, xo_iadd, xo_isub, xo_imul, xo_iand, xo_idiv, xo_irem, xo_land, xo_lor, xo_lshl, xo_lshr, xo_lushr, xo_i2l, xo_l2i, xo_lcmp, xo_dup, xo_dup2, xo_pop, xo_goto, xo_icmp, xo_if, xo_switch, xo_getf, xo_puti, xo_putz, xo_putr, xo_iald, xo_bald, xo_lald, xo_aald, xo_iast, xo_bast, xo_last, xo_aast, xo_alen, xo_new, xo_newa, xo_throw, xo_call, xo_objinit, xo_abs, xo_max, xo_ret, up1_n, k1]
  refine k_class (fun t a b => by rw [up1_n (by omega)]; exact hk t (by omega)) (fun σ1 g1 ρ1 k1' s0 R1 v6 v7 v11 v41 v100 v22 v105 v106 v107 K1 => ?_)
  have q2 : k1' 2 = 0 := by rw [K1 2 (by decide), up1_n (by decide)]; exact hk 2 (by decide)
  simp +decide (discharger := first | decide | assumption | omega) only [WP_go, cd, ↓reduceIte, Nat.reduceLT, Nat.reduceAdd, Nat.reduceSub, Nat.reduceMul, Nat.reduceEqDiff, WX_next, WX_call, WX_end, WX_none, xkt, xkn, xkc, xst, nb_, nbl_, nble_, decide_true, decide_false, Bool.and_true, Bool.true_and, Bool.and_false, Bool.false_and, Bool.not_true, Bool.not_false, Bool.true_or, Bool.false_or, cond_true, cond_false, List.getElem?_cons_zero, List.getElem?_cons_succ, List.getElem?_nil, List.set_cons_zero, List.set_cons_succ, List.length_cons, List.length_nil, xok, xtg, xcmp, xargs, xsum, xcat, xmn, xdp, xlo, xml, xmc, xrt, xrecv, xent, xmake, xec, xes, Nat.reduceLeDiff, Int.reduceAdd, Int.reduceToNat, Int.reduceLE, xz_cast, xz_cast0, xz_cast1, Bool.false_eq_true, not_false_eq_true, not_true_eq_false, and_true, true_and, and_self, true_or, or_true, WP_sw0, WP_swT, WP_swF, WX_ifT, WX_ifF, WX_ifN, Int32.reduceOfInt, Int.reduceNeg, List.replicate, Nat.zero_add, Nat.lt_irrefl, Option.toList, List.cons_append, List.nil_append, WK_ret, ↓q_m1d, ↓q_m2d, q_lit, q_ofN, q_cl, q_add, q_sub, q_m1, pk_mul, q_ltT, q_ltF, q_leN, q_eqT, q_eqF, q_n1lt, q_ltn1, q_len1, q_n1le, q_eqn1, q_n1eq, xin_nI, decide_eq_true_eq, Bool.not_eq_true', decide_eq_false_iff_not, up3_s, up3_t, up3_n, up3_k, up3_e, cd_117, xo_iconst, xo_lconst, xo_iload, xo_lload, xo_aload, xo_istore, xo_astore, xo_iinc, xo_iadd, xo_isub, xo_imul, xo_iand, xo_idiv, xo_irem, xo_land, xo_lor, xo_lshl, xo_lshr, xo_lushr, xo_i2l, xo_l2i, xo_lcmp, xo_dup, xo_dup2, xo_pop, xo_goto, xo_icmp, xo_if, xo_switch, xo_getf, xo_puti, xo_putz, xo_putr, xo_iald, xo_bald, xo_lald, xo_aald, xo_iast, xo_bast, xo_last, xo_aast, xo_alen, xo_new, xo_newa, xo_throw, xo_call, xo_objinit, xo_abs, xo_max, xo_ret, up1_n, q2]
  refine k_model (fun t a b => ?_) (fun j => ?_) (fun σ2 g2 ρ2 k2 F2 RR2 I2 K2 r1 r2 r3 r4 r5 r6 r7 r8 r9 r10 r11 r12 r13 r14 r15 r16 r17 r18 r19 r20 r21 r22 r23 r24 r25 r26 r27 r28 r29 c' w' hc hw => ?_)
  · rw [up1_n (by omega), K1 t (by omega), up1_n (by omega)]; exact hk t (by omega)
  · rw [up2_s]
  have q3 : k2 3 = 0 := by rw [K2 3 (by decide), up1_n (by decide), K1 3 (by decide), up1_n (by decide)]; exact hk 3 (by decide)
  have fs : ∀ t n j, t < 33 → t ≠ 2 → σ2 t n j = σ1 t n j := fun t n j a b => by rw [F2 _ _ _ (by omega), up2_t b]
  have fr : ∀ t n j, t < 33 → t ≠ 2 → ρ2 t n j = ρ1 t n j := fun t n j a b => by rw [RR2 _ _ _ (by omega), up2_t b]
  have hC2 : CI S0 σ2 := by
    have z : ∀ (x : Nat) {P : Prop}, x < 0 → P := fun x P h => absurd h (Nat.not_lt_zero x)
    have zi : ∀ {i : Nat}, i ≤ S0.r → i = 0 := fun hi => Nat.le_zero.mp hi
    refine ⟨(fs _ _ _ (by decide) (by decide)).trans v6, (fs _ _ _ (by decide) (by decide)).trans v7, fun j hj => (fs _ _ _ (by decide) (by decide)).trans (v11 j), (fs _ _ _ (by decide) (by decide)).trans v41, fun i hi => ?_, fun i j hi hj => z j hj, fun i j d hi hj => z j hj, fun i j hi hj => z j hj, fun i j hi hj => ?_, fun i hi => ?_, fun i hi => ?_, fun i hi => ?_, fun i i1 hi => ?_, fun i i1 hi => ?_, fun i i1 hi => ?_, fun i i1 hi => ?_, fun i i1 hi => ?_, fun x hx => z x hx, fun x hx => z x hx, fun x hx => z x hx, fun x hx => z x hx, fun x hx => z x hx, fun x j hx => z x hx, fun i s hi => z i hi⟩
    · rw [zi hi]; exact (fs _ _ _ (by decide) (by decide)).trans v100
    · rw [zi hi]; exact (fs _ _ _ (by decide) (by decide)).trans (v22 j hj)
    · rw [zi hi]; exact (fs _ _ _ (by decide) (by decide)).trans v105
    · rw [zi hi]; exact (fs _ _ _ (by decide) (by decide)).trans v106
    · rw [zi hi]; exact (fs _ _ _ (by decide) (by decide)).trans v107
    · have := zi hi; omega
    · have := zi hi; omega
    · have := zi hi; omega
    · have := zi hi; omega
    · have := zi hi; omega
  have hR2 : RC ρ2 := by
    obtain ⟨x1, x2, x3, x4, x5, x6, x7, x8, x9, x10, x11, x12, x13, x14, x15, x16, x17, x18, x19, x20, x21, x22, x23, x24, x25, x26, x27, x28⟩ := R1
    have ff : ∀ t n j v, t < 33 → t ≠ 2 → ρ1 t n j = v → ρ2 t n j = v := fun t n j v a b e => (fr t n j a b).trans e
    exact ⟨ff _ _ _ _ (by decide) (by decide) x1, ff _ _ _ _ (by decide) (by decide) x2, ff _ _ _ _ (by decide) (by decide) x3, ff _ _ _ _ (by decide) (by decide) x4, ff _ _ _ _ (by decide) (by decide) x5, ff _ _ _ _ (by decide) (by decide) x6, ff _ _ _ _ (by decide) (by decide) x7, ff _ _ _ _ (by decide) (by decide) x8, fun i hi => ff _ _ _ _ (by decide) (by decide) (x9 i hi), ff _ _ _ _ (by decide) (by decide) x10, ff _ _ _ _ (by decide) (by decide) x11, ff _ _ _ _ (by decide) (by decide) x12, ff _ _ _ _ (by decide) (by decide) x13, fun i hi => ff _ _ _ _ (by decide) (by decide) (x14 i hi), fun i hi => ff _ _ _ _ (by decide) (by decide) (x15 i hi), fun i hi => ff _ _ _ _ (by decide) (by decide) (x16 i hi), fun i hi => ff _ _ _ _ (by decide) (by decide) (x17 i hi), fun i hi => ff _ _ _ _ (by decide) (by decide) (x18 i hi), ff _ _ _ _ (by decide) (by decide) x19, ff _ _ _ _ (by decide) (by decide) x20, ff _ _ _ _ (by decide) (by decide) x21, ff _ _ _ _ (by decide) (by decide) x22, ff _ _ _ _ (by decide) (by decide) x23, ff _ _ _ _ (by decide) (by decide) x24, ff _ _ _ _ (by decide) (by decide) x25, ff _ _ _ _ (by decide) (by decide) x26, ff _ _ _ _ (by decide) (by decide) x27, ff _ _ _ _ (by decide) (by decide) x28, r1, r2, r3, r4, r5, r6, r7, r8, r9, r10, r11, r12, r13, r14, r15, r16, r17, r18, r19, r20, r21, r22, r23, r24, r25, r26, r27, r28, r29⟩
  simp +decide (discharger := first | decide | assumption | omega) only [WP_go, cd, ↓reduceIte, Nat.reduceLT, Nat.reduceAdd, Nat.reduceSub, Nat.reduceMul, Nat.reduceEqDiff, WX_next, WX_call, WX_end, WX_none, xkt, xkn, xkc, xst, nb_, nbl_, nble_, decide_true, decide_false, Bool.and_true, Bool.true_and, Bool.and_false, Bool.false_and, Bool.not_true, Bool.not_false, Bool.true_or, Bool.false_or, cond_true, cond_false, List.getElem?_cons_zero, List.getElem?_cons_succ, List.getElem?_nil, List.set_cons_zero, List.set_cons_succ, List.length_cons, List.length_nil, xok, xtg, xcmp, xargs, xsum, xcat, xmn, xdp, xlo, xml, xmc, xrt, xrecv, xent, xmake, xec, xes, Nat.reduceLeDiff, Int.reduceAdd, Int.reduceToNat, Int.reduceLE, xz_cast, xz_cast0, xz_cast1, Bool.false_eq_true, not_false_eq_true, not_true_eq_false, and_true, true_and, and_self, true_or, or_true, WP_sw0, WP_swT, WP_swF, WX_ifT, WX_ifF, WX_ifN, Int32.reduceOfInt, Int.reduceNeg, List.replicate, Nat.zero_add, Nat.lt_irrefl, Option.toList, List.cons_append, List.nil_append, WK_ret, ↓q_m1d, ↓q_m2d, q_lit, q_ofN, q_cl, q_add, q_sub, q_m1, pk_mul, q_ltT, q_ltF, q_leN, q_eqT, q_eqF, q_n1lt, q_ltn1, q_len1, q_n1le, q_eqn1, q_n1eq, xin_nI, decide_eq_true_eq, Bool.not_eq_true', decide_eq_false_iff_not, up3_s, up3_t, up3_n, up3_k, up3_e, cd_117, xo_iconst, xo_lconst, xo_iload, xo_lload, xo_aload, xo_istore, xo_astore, xo_iinc, xo_iadd, xo_isub, xo_imul, xo_iand, xo_idiv, xo_irem, xo_land, xo_lor, xo_lshl, xo_lshr, xo_lushr, xo_i2l, xo_l2i, xo_lcmp, xo_dup, xo_dup2, xo_pop, xo_goto, xo_icmp, xo_if, xo_switch, xo_getf, xo_puti, xo_putz, xo_putr, xo_iald, xo_bald, xo_lald, xo_aald, xo_iast, xo_bast, xo_last, xo_aast, xo_alen, xo_new, xo_newa, xo_throw, xo_call, xo_objinit, xo_abs, xo_max, xo_ret, up1_n, q3]
  refine law_lp hL (L + 3) 0 S0 _ _ _ _ _ _ _ _ (by omega) (by omega) ⟨?_, ?_, PJ0, ?_, by omega, by omega⟩
  · exact hC2
  · exact I2
  · exact hR2
