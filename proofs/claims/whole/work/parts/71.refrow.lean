/-! the next row, by the reference: all together -/
theorem wvs_dvs {sel : Nat → Bool} {f : Nat → List Nat} {v : Nat} {b : Nat → Int32} {b' : Nat → Nat} {x : Nat} (h : b x = nI (b' x)) : ∀ {n : Nat}, wvs sel (fun _ => nI v) f b n x = nI (dvs sel f v b' n x)
  | 0 => h
  | n + 1 => by
    show (if sel n = true ∧ x ∈ f n then nI v else wvs sel (fun _ => nI v) f b n x) = nI (if sel n = true ∧ x ∈ f n then v else dvs sel f v b' n x)
    rw [wvs_dvs h]
    split <;> rfl
theorem r_knitRow {σ : Nat → Nat → Nat → Int32} {g : Nat → Nat → Nat → Int64} {ρ : Nat → Nat → Nat → Option XR} {k : Nat → Nat} {L c w : Nat} {Q : XO → XM → Prop} {S : ST} {N q : Nat} (hR : RC ρ) (hP : PJ S) (hC : RI S σ) (hq : q < 3) (hS7 : S.told = neg1) (h0 : S.cN 0 ≠ 0) (hK : KH S N) (hRP : RP S.T N σ (ft S.T N) (fg S.T N)) (hQ : ∀ σ', RI (nS S N q) σ' → (∀ t n k, t < 33 → t ≠ 2 → σ' t n k = σ t n k) → (∀ k, k = 0 → σ' 2 0 k = σ 2 0 k) → Q (.inl none) (σ', g, ρ, k, L, c, w)) : WC 94 [.inr (.inr (some (2, 0))), .inl (nI (fg S.T N)), .inl (nI q)] (σ, g, ρ, k, L, c, w) Q := by
  obtain ⟨k1, k2, k3, k4, k5, k6, k7⟩ := hK
  obtain ⟨C1, C2, C3, C4, C5, C6, C7, C8, C9, C10, C11, C12, C13, C14, C15, C16, C17, C18, C19, C20, C21, C22⟩ := hC
  have hV : VT S.T N := VT_of hP.2.2.1 k1
  have hn40 := hP.2.1
  have p4 := hP.2.2.2.1 S.r (Nat.le_refl _)
  have hf : ft S.T N ≤ 16 := by rw [k2]; exact p4
  have lpr := hP.2.2.2.2.2.1 S.r (Nat.le_refl _)
  have mk3 : S.lp S.r + mkc S.T N S.r (fg S.T N) (fg S.T N) ≤ 300 := by rw [mkc_all, md_cnt (Nat.le_refl N)]; exact k7
  have c38 := C11 S.r (Nat.le_refl _)
  have c39 := C12 S.r (Nat.le_refl _)
  have hBR : BR S.r (ft S.T N) (S.lp S.r) (S.st S.r) σ := by
    rw [k2]
    exact ⟨fun j hj => hP.2.2.2.2.1 S.r j (Nat.le_refl _) hj, fun j hj => C7 S.r j (Nat.le_refl _) hj, fun j d hj hd => C8 S.r j d (Nat.le_refl _) hj hd, fun j x hj hx => hP.2.2.2.2.2.2.1 S.r j x (Nat.le_refl _) hj hx, lpr⟩
  have hB36 : ∀ j, j < ft S.T N → σ 36 0 (16 * S.r + j) = nI (S.bd S.r j) := fun j hj => C9 S.r j (Nat.le_refl _) (by rw [← k2]; exact hj)
  have hRB : RB S.T N S.r (S.bd S.r) σ ρ := ⟨hR, by omega, hV, hf, k4, hRP, C1, by rw [k2]; exact C6 S.r (Nat.le_refl _), hB36, fun j hj => hP.2.2.2.2.2.2.2.2.2.2.2.2.2.2.2.2.2.2 S.r j (Nat.le_refl _) (by rw [← k2]; exact hj)⟩
  simp +decide (discharger := first | decide | assumption | omega) only [WP_go, cd, ↓reduceIte, Nat.reduceLT, Nat.reduceAdd, Nat.reduceSub, Nat.reduceMul, Nat.reduceEqDiff, WX_next, WX_call, WX_end, WX_none, xkt, xkn, xkc, xst, nb_, nbl_, nble_, decide_true, decide_false, Bool.and_true, Bool.true_and, Bool.and_false, Bool.false_and, Bool.not_true, Bool.not_false, Bool.true_or, Bool.false_or, cond_true, cond_false, List.getElem?_cons_zero, List.getElem?_cons_succ, List.getElem?_nil, List.set_cons_zero, List.set_cons_succ, List.length_cons, List.length_nil, xok, xtg, xcmp, xargs, xsum, xcat, xmn, xdp, xlo, xml, xmc, xrt, xrecv, xent, xmake, xec, xes, Nat.reduceLeDiff, Int.reduceAdd, Int.reduceToNat, Int.reduceLE, xz_cast, xz_cast0, xz_cast1, Bool.false_eq_true, not_false_eq_true, not_true_eq_false, and_true, true_and, and_self, true_or, or_true, WP_sw0, WP_swT, WP_swF, WX_ifT, WX_ifF, WX_ifN, Int32.reduceOfInt, Int.reduceNeg, List.replicate, Nat.zero_add, Nat.lt_irrefl, Option.toList, List.cons_append, List.nil_append, WK_ret, ↓q_m1d, ↓q_m2d, q_lit, q_ofN, q_cl, q_add, q_sub, q_m1, pk_mul, q_ltT, q_ltF, q_leN, q_eqT, q_eqF, q_n1lt, q_ltn1, q_len1, q_n1le, q_eqn1, q_n1eq, xin_nI, decide_eq_true_eq, Bool.not_eq_true', decide_eq_false_iff_not, up3_s, up3_t, up3_n, up3_k, up3_e, cd_94, cd_94, @WC_in 94, xo_iconst, xo_lconst, xo_iload, xo_lload, xo_aload, xo_istore, xo_astore, xo_iinc, xo_iadd, xo_isub, xo_imul, xo_iand, xo_idiv, xo_irem, xo_land, xo_lor, xo_lshl, xo_lshr, xo_lushr, xo_i2l, xo_l2i, xo_lcmp, xo_dup, xo_dup2, xo_pop, xo_goto, xo_icmp, xo_if, xo_switch, xo_getf, xo_puti, xo_putz, xo_putr, xo_iald, xo_bald, xo_lald, xo_aald, xo_iast, xo_bast, xo_last, xo_aast, xo_alen, xo_new, xo_newa, xo_throw, xo_call, xo_objinit, xo_abs, xo_max, xo_ret, hR, C1]
  refine r_transfers hRB ?_
  simp +decide (discharger := first | decide | assumption | omega) only [WP_go, cd, ↓reduceIte, Nat.reduceLT, Nat.reduceAdd, Nat.reduceSub, Nat.reduceMul, Nat.reduceEqDiff, WX_next, WX_call, WX_end, WX_none, xkt, xkn, xkc, xst, nb_, nbl_, nble_, decide_true, decide_false, Bool.and_true, Bool.true_and, Bool.and_false, Bool.false_and, Bool.not_true, Bool.not_false, Bool.true_or, Bool.false_or, cond_true, cond_false, List.getElem?_cons_zero, List.getElem?_cons_succ, List.getElem?_nil, List.set_cons_zero, List.set_cons_succ, List.length_cons, List.length_nil, xok, xtg, xcmp, xargs, xsum, xcat, xmn, xdp, xlo, xml, xmc, xrt, xrecv, xent, xmake, xec, xes, Nat.reduceLeDiff, Int.reduceAdd, Int.reduceToNat, Int.reduceLE, xz_cast, xz_cast0, xz_cast1, Bool.false_eq_true, not_false_eq_true, not_true_eq_false, and_true, true_and, and_self, true_or, or_true, WP_sw0, WP_swT, WP_swF, WX_ifT, WX_ifF, WX_ifN, Int32.reduceOfInt, Int.reduceNeg, List.replicate, Nat.zero_add, Nat.lt_irrefl, Option.toList, List.cons_append, List.nil_append, WK_ret, ↓q_m1d, ↓q_m2d, q_lit, q_ofN, q_cl, q_add, q_sub, q_m1, pk_mul, q_ltT, q_ltF, q_leN, q_eqT, q_eqF, q_n1lt, q_ltn1, q_len1, q_n1le, q_eqn1, q_n1eq, xin_nI, decide_eq_true_eq, Bool.not_eq_true', decide_eq_false_iff_not, up3_s, up3_t, up3_n, up3_k, up3_e, cd_94, xo_iconst, xo_lconst, xo_iload, xo_lload, xo_aload, xo_istore, xo_astore, xo_iinc, xo_iadd, xo_isub, xo_imul, xo_iand, xo_idiv, xo_irem, xo_land, xo_lor, xo_lshl, xo_lshr, xo_lushr, xo_i2l, xo_l2i, xo_lcmp, xo_dup, xo_dup2, xo_pop, xo_goto, xo_icmp, xo_if, xo_switch, xo_getf, xo_puti, xo_putz, xo_putr, xo_iald, xo_bald, xo_lald, xo_aald, xo_iast, xo_bast, xo_last, xo_aast, xo_alen, xo_new, xo_newa, xo_throw, xo_call, xo_objinit, xo_abs, xo_max, xo_ret, hR]
  refine r_rackings (bd := S.bd S.r) (r := S.r) (show RB S.T N S.r (S.bd S.r) (up3 σ 43 0 (4 * (S.r + 1)) (nI (aTr S.T N (S.bd S.r)))) ρ from hRB) ?_
  simp +decide (discharger := first | decide | assumption | omega) only [WP_go, cd, ↓reduceIte, Nat.reduceLT, Nat.reduceAdd, Nat.reduceSub, Nat.reduceMul, Nat.reduceEqDiff, WX_next, WX_call, WX_end, WX_none, xkt, xkn, xkc, xst, nb_, nbl_, nble_, decide_true, decide_false, Bool.and_true, Bool.true_and, Bool.and_false, Bool.false_and, Bool.not_true, Bool.not_false, Bool.true_or, Bool.false_or, cond_true, cond_false, List.getElem?_cons_zero, List.getElem?_cons_succ, List.getElem?_nil, List.set_cons_zero, List.set_cons_succ, List.length_cons, List.length_nil, xok, xtg, xcmp, xargs, xsum, xcat, xmn, xdp, xlo, xml, xmc, xrt, xrecv, xent, xmake, xec, xes, Nat.reduceLeDiff, Int.reduceAdd, Int.reduceToNat, Int.reduceLE, xz_cast, xz_cast0, xz_cast1, Bool.false_eq_true, not_false_eq_true, not_true_eq_false, and_true, true_and, and_self, true_or, or_true, WP_sw0, WP_swT, WP_swF, WX_ifT, WX_ifF, WX_ifN, Int32.reduceOfInt, Int.reduceNeg, List.replicate, Nat.zero_add, Nat.lt_irrefl, Option.toList, List.cons_append, List.nil_append, WK_ret, ↓q_m1d, ↓q_m2d, q_lit, q_ofN, q_cl, q_add, q_sub, q_m1, pk_mul, q_ltT, q_ltF, q_leN, q_eqT, q_eqF, q_n1lt, q_ltn1, q_len1, q_n1le, q_eqn1, q_n1eq, xin_nI, decide_eq_true_eq, Bool.not_eq_true', decide_eq_false_iff_not, up3_s, up3_t, up3_n, up3_k, up3_e, cd_94, xo_iconst, xo_lconst, xo_iload, xo_lload, xo_aload, xo_istore, xo_astore, xo_iinc, xo_iadd, xo_isub, xo_imul, xo_iand, xo_idiv, xo_irem, xo_land, xo_lor, xo_lshl, xo_lshr, xo_lushr, xo_i2l, xo_l2i, xo_lcmp, xo_dup, xo_dup2, xo_pop, xo_goto, xo_icmp, xo_if, xo_switch, xo_getf, xo_puti, xo_putz, xo_putr, xo_iald, xo_bald, xo_lald, xo_aald, xo_iast, xo_bast, xo_last, xo_aast, xo_alen, xo_new, xo_newa, xo_throw, xo_call, xo_objinit, xo_abs, xo_max, xo_ret, hR]
  refine r_released (bd := S.bd S.r) (r := S.r) (show RB S.T N S.r (S.bd S.r) (up3 (up3 σ 43 0 (4 * (S.r + 1)) (nI (aTr S.T N (S.bd S.r)))) 43 0 (4 * (S.r + 1) + 1) (nI (aRk S.T N))) ρ from hRB) ?_
  simp +decide (discharger := first | decide | assumption | omega) only [WP_go, cd, ↓reduceIte, Nat.reduceLT, Nat.reduceAdd, Nat.reduceSub, Nat.reduceMul, Nat.reduceEqDiff, WX_next, WX_call, WX_end, WX_none, xkt, xkn, xkc, xst, nb_, nbl_, nble_, decide_true, decide_false, Bool.and_true, Bool.true_and, Bool.and_false, Bool.false_and, Bool.not_true, Bool.not_false, Bool.true_or, Bool.false_or, cond_true, cond_false, List.getElem?_cons_zero, List.getElem?_cons_succ, List.getElem?_nil, List.set_cons_zero, List.set_cons_succ, List.length_cons, List.length_nil, xok, xtg, xcmp, xargs, xsum, xcat, xmn, xdp, xlo, xml, xmc, xrt, xrecv, xent, xmake, xec, xes, Nat.reduceLeDiff, Int.reduceAdd, Int.reduceToNat, Int.reduceLE, xz_cast, xz_cast0, xz_cast1, Bool.false_eq_true, not_false_eq_true, not_true_eq_false, and_true, true_and, and_self, true_or, or_true, WP_sw0, WP_swT, WP_swF, WX_ifT, WX_ifF, WX_ifN, Int32.reduceOfInt, Int.reduceNeg, List.replicate, Nat.zero_add, Nat.lt_irrefl, Option.toList, List.cons_append, List.nil_append, WK_ret, ↓q_m1d, ↓q_m2d, q_lit, q_ofN, q_cl, q_add, q_sub, q_m1, pk_mul, q_ltT, q_ltF, q_leN, q_eqT, q_eqF, q_n1lt, q_ltn1, q_len1, q_n1le, q_eqn1, q_n1eq, xin_nI, decide_eq_true_eq, Bool.not_eq_true', decide_eq_false_iff_not, up3_s, up3_t, up3_n, up3_k, up3_e, cd_94, xo_iconst, xo_lconst, xo_iload, xo_lload, xo_aload, xo_istore, xo_astore, xo_iinc, xo_iadd, xo_isub, xo_imul, xo_iand, xo_idiv, xo_irem, xo_land, xo_lor, xo_lshl, xo_lshr, xo_lushr, xo_i2l, xo_l2i, xo_lcmp, xo_dup, xo_dup2, xo_pop, xo_goto, xo_icmp, xo_if, xo_switch, xo_getf, xo_puti, xo_putz, xo_putr, xo_iald, xo_bald, xo_lald, xo_aald, xo_iast, xo_bast, xo_last, xo_aast, xo_alen, xo_new, xo_newa, xo_throw, xo_call, xo_objinit, xo_abs, xo_max, xo_ret, hR]
  refine r_makes (T := S.T) (N := N) hR k4 hV (Nat.le_refl _) (show ∀ j, j < fg S.T N → RG S.T N (up3 (up3 (up3 σ 43 0 (4 * (S.r + 1)) (nI (aTr S.T N (S.bd S.r)))) 43 0 (4 * (S.r + 1) + 1) (nI (aRk S.T N))) 43 0 (4 * (S.r + 1) + 2) (nI (cnt (pN S.T N) (ft S.T N)))) j from hRP.2) ?_
  rw [md_cnt (Nat.le_refl N)]
  simp +decide (discharger := first | decide | assumption | omega) only [WP_go, cd, ↓reduceIte, Nat.reduceLT, Nat.reduceAdd, Nat.reduceSub, Nat.reduceMul, Nat.reduceEqDiff, WX_next, WX_call, WX_end, WX_none, xkt, xkn, xkc, xst, nb_, nbl_, nble_, decide_true, decide_false, Bool.and_true, Bool.true_and, Bool.and_false, Bool.false_and, Bool.not_true, Bool.not_false, Bool.true_or, Bool.false_or, cond_true, cond_false, List.getElem?_cons_zero, List.getElem?_cons_succ, List.getElem?_nil, List.set_cons_zero, List.set_cons_succ, List.length_cons, List.length_nil, xok, xtg, xcmp, xargs, xsum, xcat, xmn, xdp, xlo, xml, xmc, xrt, xrecv, xent, xmake, xec, xes, Nat.reduceLeDiff, Int.reduceAdd, Int.reduceToNat, Int.reduceLE, xz_cast, xz_cast0, xz_cast1, Bool.false_eq_true, not_false_eq_true, not_true_eq_false, and_true, true_and, and_self, true_or, or_true, WP_sw0, WP_swT, WP_swF, WX_ifT, WX_ifF, WX_ifN, Int32.reduceOfInt, Int.reduceNeg, List.replicate, Nat.zero_add, Nat.lt_irrefl, Option.toList, List.cons_append, List.nil_append, WK_ret, ↓q_m1d, ↓q_m2d, q_lit, q_ofN, q_cl, q_add, q_sub, q_m1, pk_mul, q_ltT, q_ltF, q_leN, q_eqT, q_eqF, q_n1lt, q_ltn1, q_len1, q_n1le, q_eqn1, q_n1eq, xin_nI, decide_eq_true_eq, Bool.not_eq_true', decide_eq_false_iff_not, up3_s, up3_t, up3_n, up3_k, up3_e, cd_94, xo_iconst, xo_lconst, xo_iload, xo_lload, xo_aload, xo_istore, xo_astore, xo_iinc, xo_iadd, xo_isub, xo_imul, xo_iand, xo_idiv, xo_irem, xo_land, xo_lor, xo_lshl, xo_lshr, xo_lushr, xo_i2l, xo_l2i, xo_lcmp, xo_dup, xo_dup2, xo_pop, xo_goto, xo_icmp, xo_if, xo_switch, xo_getf, xo_puti, xo_putz, xo_putr, xo_iald, xo_bald, xo_lald, xo_aald, xo_iast, xo_bast, xo_last, xo_aast, xo_alen, xo_new, xo_newa, xo_throw, xo_call, xo_objinit, xo_abs, xo_max, xo_ret, hR, C1, c38, c39]
  generalize hσb : up3 (up3 (up3 (up3 (up3 (up3 (up3 σ 43 0 (4 * (S.r + 1)) (nI (aTr S.T N (S.bd S.r)))) 43 0 (4 * (S.r + 1) + 1) (nI (aRk S.T N))) 43 0 (4 * (S.r + 1) + 2) (nI (cnt (pN S.T N) (ft S.T N)))) 43 0 (4 * (S.r + 1) + 3) (nI (md S.T N))) 37 0 (S.r + 1) (nI (fg S.T N))) 38 0 (S.r + 1) (nI (S.lp S.r))) 39 0 (S.r + 1) (nI (S.dr S.r)) = σb
  have Fb : FrP (fun t _ => t = 43 ∨ t = 37 ∨ t = 38 ∨ t = 39) σ σb := by
    rw [← hσb]
    exact ((((((FrP.rf.up (by decide)).up (by decide)).up (by decide)).up (by decide)).up (by decide)).up (by decide)).up (by decide)
  have b37 : σb 37 0 (S.r + 1) = nI (fg S.T N) := by rw [← hσb]; simp +decide (discharger := first | decide | assumption | omega) only [up3_s, up3_t, up3_n, up3_k, up3_e]
  have b38 : σb 38 0 (S.r + 1) = nI (S.lp S.r) := by rw [← hσb]; simp +decide (discharger := first | decide | assumption | omega) only [up3_s, up3_t, up3_n, up3_k, up3_e]
  have b39 : σb 39 0 (S.r + 1) = nI (S.dr S.r) := by rw [← hσb]; simp +decide (discharger := first | decide | assumption | omega) only [up3_s, up3_t, up3_n, up3_k, up3_e]
  have b37' : ∀ y, y ≠ S.r + 1 → σb 37 0 y = σ 37 0 y := fun y hy => by rw [← hσb]; simp +decide (discharger := first | decide | assumption | omega) only [up3_s, up3_t, up3_n, up3_k, up3_e]
  have b38' : ∀ y, y ≠ S.r + 1 → σb 38 0 y = σ 38 0 y := fun y hy => by rw [← hσb]; simp +decide (discharger := first | decide | assumption | omega) only [up3_s, up3_t, up3_n, up3_k, up3_e]
  have b39' : ∀ y, y ≠ S.r + 1 → σb 39 0 y = σ 39 0 y := fun y hy => by rw [← hσb]; simp +decide (discharger := first | decide | assumption | omega) only [up3_s, up3_t, up3_n, up3_k, up3_e]
  have b43' : ∀ y, y < 4 * (S.r + 1) → σb 43 0 y = σ 43 0 y := fun y hy => by rw [← hσb]; simp +decide (discharger := first | decide | assumption | omega) only [up3_s, up3_t, up3_n, up3_k, up3_e]
  have b43 : ∀ k, k < 4 → σb 43 0 (4 * (S.r + 1) + k) = nI ([aTr S.T N (S.bd S.r), aRk S.T N, cnt (pN S.T N) (ft S.T N), md S.T N].getD k 0) := by
    intro k hk
    rw [← hσb]
    have : k = 0 ∨ k = 1 ∨ k = 2 ∨ k = 3 := by omega
    rcases this with rfl | rfl | rfl | rfl
    · simp +decide (discharger := first | decide | assumption | omega) only [up3_s, up3_t, up3_n, up3_k, up3_e]; rfl
    · simp +decide (discharger := first | decide | assumption | omega) only [up3_s, up3_t, up3_n, up3_k, up3_e]; rfl
    · simp +decide (discharger := first | decide | assumption | omega) only [up3_s, up3_t, up3_n, up3_k, up3_e]; rfl
    · simp +decide (discharger := first | decide | assumption | omega) only [up3_s, up3_t, up3_n, up3_k, up3_e]; rfl
  clear hσb
  have bBR : BR S.r (ft S.T N) (S.lp S.r) (S.st S.r) σb := ⟨hBR.1, fun j hj => (Fb _ _ _ (by omega)).trans (hBR.2.1 j hj), fun j d hj hd => (Fb _ _ _ (by omega)).trans (hBR.2.2.1 j d hj hd), hBR.2.2.2⟩
  refine r_makes_lp hR k6 hV hf k4 mk3 bBR k5 ((Fb _ _ _ (by omega)).trans C1) (fun c hc => RG_k (hRP.2 c hc) (Fb _ _ _ (by omega)) (Fb _ _ _ (by omega)) (fun d _ => Fb _ _ _ (by omega))) (fun j hj => (Fb _ _ _ (by omega)).trans (hB36 j hj)) b38 (fun x hx => ⟨(Fb _ _ _ (by omega)).trans (C16 x hx), (Fb _ _ _ (by omega)).trans (C17 x hx), (Fb _ _ _ (by omega)).trans (C18 x hx), (Fb _ _ _ (by omega)).trans (C19 x hx), (Fb _ _ _ (by omega)).trans (C20 x hx), hP.2.2.2.2.2.2.2.2.2.2.1 x hx, fun j hj => (Fb _ _ _ (by omega)).trans (C21 x j hx hj)⟩) (fun σ1 J => ?_)
  obtain ⟨F1, A34, A35, A36, A38, CS1, D1, E1, L1, Z1, O1⟩ := J
  rw [WP_force]
  simp +decide (discharger := first | decide | assumption | omega) only [WP_go, cd, ↓reduceIte, Nat.reduceLT, Nat.reduceAdd, Nat.reduceSub, Nat.reduceMul, Nat.reduceEqDiff, WX_next, WX_call, WX_end, WX_none, xkt, xkn, xkc, xst, nb_, nbl_, nble_, decide_true, decide_false, Bool.and_true, Bool.true_and, Bool.and_false, Bool.false_and, Bool.not_true, Bool.not_false, Bool.true_or, Bool.false_or, cond_true, cond_false, List.getElem?_cons_zero, List.getElem?_cons_succ, List.getElem?_nil, List.set_cons_zero, List.set_cons_succ, List.length_cons, List.length_nil, xok, xtg, xcmp, xargs, xsum, xcat, xmn, xdp, xlo, xml, xmc, xrt, xrecv, xent, xmake, xec, xes, Nat.reduceLeDiff, Int.reduceAdd, Int.reduceToNat, Int.reduceLE, xz_cast, xz_cast0, xz_cast1, Bool.false_eq_true, not_false_eq_true, not_true_eq_false, and_true, true_and, and_self, true_or, or_true, WP_sw0, WP_swT, WP_swF, WX_ifT, WX_ifF, WX_ifN, Int32.reduceOfInt, Int.reduceNeg, List.replicate, Nat.zero_add, Nat.lt_irrefl, Option.toList, List.cons_append, List.nil_append, WK_ret, ↓q_m1d, ↓q_m2d, q_lit, q_ofN, q_cl, q_add, q_sub, q_m1, pk_mul, q_ltT, q_ltF, q_leN, q_eqT, q_eqF, q_n1lt, q_ltn1, q_len1, q_n1le, q_eqn1, q_n1eq, xin_nI, decide_eq_true_eq, Bool.not_eq_true', decide_eq_false_iff_not, up3_s, up3_t, up3_n, up3_k, up3_e, cd_94, cd_94, @WC_in 94, xo_iconst, xo_lconst, xo_iload, xo_lload, xo_aload, xo_istore, xo_astore, xo_iinc, xo_iadd, xo_isub, xo_imul, xo_iand, xo_idiv, xo_irem, xo_land, xo_lor, xo_lshl, xo_lshr, xo_lushr, xo_i2l, xo_l2i, xo_lcmp, xo_dup, xo_dup2, xo_pop, xo_goto, xo_icmp, xo_if, xo_switch, xo_getf, xo_puti, xo_putz, xo_putr, xo_iald, xo_bald, xo_lald, xo_aald, xo_iast, xo_bast, xo_last, xo_aast, xo_alen, xo_new, xo_newa, xo_throw, xo_call, xo_objinit, xo_abs, xo_max, xo_ret, hR]
  have S1 : BR S.r (ft S.T N) (S.lp S.r) (S.st S.r) σ1 := ⟨hBR.1, fun j hj => (A35 _ (by omega)).trans (bBR.2.1 j hj), fun j d hj hd => (A34 _ (by have := hBR.1 j hj; omega)).trans (bBR.2.2.1 j d hj hd), hBR.2.2.2⟩
  refine r_drop (D := S.dr S.r) hR k6 hV hf k4 (fun j hj => (F1 _ _ _ (by omega)).trans ((Fb _ _ _ (by omega)).trans (hRP.1 j hj).1)) ((F1 _ _ _ (by omega)).trans ((Fb _ _ _ (by omega)).trans C1)) ((F1 _ _ _ (by omega)).trans ((b37' _ (by omega)).trans (by rw [k2]; exact C6 S.r (Nat.le_refl _)))) S1 ((F1 _ _ _ (by omega)).trans b39) (fun σ2 F2 X39 v39 v50 => ?_)
  have F2' : FrP (fun t _ => Pk t 0 ∨ t = 43 ∨ t = 37 ∨ t = 39) σ σ2 := (Fb.mono (fun t m u => by omega)).tr ((F1.mono (fun t m u => by omega)).tr (F2.mono (fun t m u => by omega)))
  have hrem : nI (S.r + 1) - nI (S.r + 1) / nI 2 * nI 2 = nI ((S.r + 1) % 2) := q_rem (by omega) (by omega) (by omega)
  have hm2 : (S.r + 1) % 2 < 2 := Nat.mod_lt _ (by omega)
  have d5 : σ2 2 0 5 = nI S.r := (F2' _ _ _ (by omega)).trans C1
  have d2 : σ2 2 0 2 = nI S.n := (F2' _ _ _ (by omega)).trans C4
  have sd : ∀ j, j < 3 → σ2 40 0 (3 * S.r + j) = S.sd S.r j := fun j hj => (F2' _ _ _ (by omega)).trans (C10 S.r j h0 (Nat.le_refl _) hj)
  have sd0 := sd 0 (by omega)
  have sd1 := sd 1 (by omega)
  have sd2 := sd 2 (by omega)
  have FIN : ∀ u0 u1 u2, (∀ j, j < 3 → [u0, u1, u2].getD j neg1 = if j = q then nI (1 - (S.r + 1) % 2) else S.sd S.r j) → WP 94 208 [some (.inr (.inr (some (2, 0)))), some (.inl (nI (fg S.T N))), some (.inl (nI q)), some (.inl (nI (S.r + 1))), some (.inl (nI 0))] [] (up3 (up3 (up3 (up3 σ2 40 0 (3 * (S.r + 1)) u0) 40 0 (3 * (S.r + 1) + 1) u1) 40 0 (3 * (S.r + 1) + 2) u2) 42 0 (S.r + 1) (nI S.n), g, ρ, k, L, c, w) Q := by
    intro u0 u1 u2 hu
    generalize hσ3 : up3 (up3 (up3 (up3 σ2 40 0 (3 * (S.r + 1)) u0) 40 0 (3 * (S.r + 1) + 1) u1) 40 0 (3 * (S.r + 1) + 2) u2) 42 0 (S.r + 1) (nI S.n) = σ3
    have F3 : FrP (fun t _ => t = 40 ∨ t = 42) σ2 σ3 := by rw [← hσ3]; exact (((FrP.rf.up (by decide)).up (by decide)).up (by decide)).up (by decide)
    have b42 : σ3 42 0 (S.r + 1) = nI S.n := by rw [← hσ3]; simp +decide (discharger := first | decide | assumption | omega) only [up3_s, up3_t, up3_n, up3_k, up3_e]
    have b42' : ∀ y, y ≠ S.r + 1 → σ3 42 0 y = σ 42 0 y := fun y hy => by rw [← hσ3]; simp +decide (discharger := first | decide | assumption | omega) only [up3_s, up3_t, up3_n, up3_k, up3_e]; exact F2' _ _ _ (by omega)
    have b40' : ∀ y, y < 3 * (S.r + 1) → σ3 40 0 y = σ 40 0 y := fun y hy => by rw [← hσ3]; simp +decide (discharger := first | decide | assumption | omega) only [up3_s, up3_t, up3_n, up3_k, up3_e]; exact F2' _ _ _ (by omega)
    have b40 : ∀ j, j < 3 → σ3 40 0 (3 * (S.r + 1) + j) = if j = q then nI (1 - (S.r + 1) % 2) else S.sd S.r j := by
      intro j hj
      rw [← hu j hj, ← hσ3]
      have : j = 0 ∨ j = 1 ∨ j = 2 := by omega
      rcases this with rfl | rfl | rfl
      · simp +decide (discharger := first | decide | assumption | omega) only [up3_s, up3_t, up3_n, up3_k, up3_e]; rfl
      · simp +decide (discharger := first | decide | assumption | omega) only [up3_s, up3_t, up3_n, up3_k, up3_e]; rfl
      · simp +decide (discharger := first | decide | assumption | omega) only [up3_s, up3_t, up3_n, up3_k, up3_e]; rfl
    clear hσ3
    refine lp_up (fun j => [some (.inr (.inr (some (2, 0)))), some (.inl (nI (fg S.T N))), some (.inl (nI q)), some (.inl (nI (S.r + 1))), some (.inl (nI j))]) (fun j M => ∃ σ', M = (σ', g, ρ, k, L, c, w) ∧ FrP (fun t _ => t = 41) σ3 σ' ∧ (∀ y, y < 40 * (S.r + 1) → σ' 41 0 y = σ3 41 0 y) ∧ (∀ k, k < j → σ' 41 0 (40 * (S.r + 1) + k) = nI (S.T k))) S.n ?_ ?_ 0 _ (by omega) ⟨_, rfl, FrP.rf, fun _ _ => rfl, fun k hk => absurd hk (by omega)⟩
    · rintro j _ hj ⟨σ4, rfl, F4, A4, B4⟩ ih
      have e2 : σ4 2 0 2 = nI S.n := (F4 _ _ _ (by omega)).trans ((F3 _ _ _ (by omega)).trans d2)
      have e33 : σ4 33 0 j = nI (S.T j) := (F4 _ _ _ (by omega)).trans ((F3 _ _ _ (by omega)).trans ((F2' _ _ _ (by omega)).trans (C3 j (by omega))))
      rw [WP_force]
      simp +decide (discharger := first | decide | assumption | omega) only [WP_go, cd, ↓reduceIte, Nat.reduceLT, Nat.reduceAdd, Nat.reduceSub, Nat.reduceMul, Nat.reduceEqDiff, WX_next, WX_call, WX_end, WX_none, xkt, xkn, xkc, xst, nb_, nbl_, nble_, decide_true, decide_false, Bool.and_true, Bool.true_and, Bool.and_false, Bool.false_and, Bool.not_true, Bool.not_false, Bool.true_or, Bool.false_or, cond_true, cond_false, List.getElem?_cons_zero, List.getElem?_cons_succ, List.getElem?_nil, List.set_cons_zero, List.set_cons_succ, List.length_cons, List.length_nil, xok, xtg, xcmp, xargs, xsum, xcat, xmn, xdp, xlo, xml, xmc, xrt, xrecv, xent, xmake, xec, xes, Nat.reduceLeDiff, Int.reduceAdd, Int.reduceToNat, Int.reduceLE, xz_cast, xz_cast0, xz_cast1, Bool.false_eq_true, not_false_eq_true, not_true_eq_false, and_true, true_and, and_self, true_or, or_true, WP_sw0, WP_swT, WP_swF, WX_ifT, WX_ifF, WX_ifN, Int32.reduceOfInt, Int.reduceNeg, List.replicate, Nat.zero_add, Nat.lt_irrefl, Option.toList, List.cons_append, List.nil_append, WK_ret, ↓q_m1d, ↓q_m2d, q_lit, q_ofN, q_cl, q_add, q_sub, q_m1, pk_mul, q_ltT, q_ltF, q_leN, q_eqT, q_eqF, q_n1lt, q_ltn1, q_len1, q_n1le, q_eqn1, q_n1eq, xin_nI, decide_eq_true_eq, Bool.not_eq_true', decide_eq_false_iff_not, up3_s, up3_t, up3_n, up3_k, up3_e, cd_94, cd_94, @WC_in 94, xo_iconst, xo_lconst, xo_iload, xo_lload, xo_aload, xo_istore, xo_astore, xo_iinc, xo_iadd, xo_isub, xo_imul, xo_iand, xo_idiv, xo_irem, xo_land, xo_lor, xo_lshl, xo_lshr, xo_lushr, xo_i2l, xo_l2i, xo_lcmp, xo_dup, xo_dup2, xo_pop, xo_goto, xo_icmp, xo_if, xo_switch, xo_getf, xo_puti, xo_putz, xo_putr, xo_iald, xo_bald, xo_lald, xo_aald, xo_iast, xo_bast, xo_last, xo_aast, xo_alen, xo_new, xo_newa, xo_throw, xo_call, xo_objinit, xo_abs, xo_max, xo_ret, hR, e2, e33]
      refine ih _ ⟨_, rfl, F4.up rfl, fun y hy => by rw [up3_k (by omega)]; exact A4 y hy, fun k hk => ?_⟩
      by_cases e : k = j
      · rw [e, up3_s]
      · rw [up3_k (by omega)]; exact B4 k (by omega)
    · rintro _ ⟨σ4, rfl, F4, A4, B4⟩
      have e2 : σ4 2 0 2 = nI S.n := (F4 _ _ _ (by omega)).trans ((F3 _ _ _ (by omega)).trans d2)
      rw [WP_force]
      simp +decide (discharger := first | decide | assumption | omega) only [WP_go, cd, ↓reduceIte, Nat.reduceLT, Nat.reduceAdd, Nat.reduceSub, Nat.reduceMul, Nat.reduceEqDiff, WX_next, WX_call, WX_end, WX_none, xkt, xkn, xkc, xst, nb_, nbl_, nble_, decide_true, decide_false, Bool.and_true, Bool.true_and, Bool.and_false, Bool.false_and, Bool.not_true, Bool.not_false, Bool.true_or, Bool.false_or, cond_true, cond_false, List.getElem?_cons_zero, List.getElem?_cons_succ, List.getElem?_nil, List.set_cons_zero, List.set_cons_succ, List.length_cons, List.length_nil, xok, xtg, xcmp, xargs, xsum, xcat, xmn, xdp, xlo, xml, xmc, xrt, xrecv, xent, xmake, xec, xes, Nat.reduceLeDiff, Int.reduceAdd, Int.reduceToNat, Int.reduceLE, xz_cast, xz_cast0, xz_cast1, Bool.false_eq_true, not_false_eq_true, not_true_eq_false, and_true, true_and, and_self, true_or, or_true, WP_sw0, WP_swT, WP_swF, WX_ifT, WX_ifF, WX_ifN, Int32.reduceOfInt, Int.reduceNeg, List.replicate, Nat.zero_add, Nat.lt_irrefl, Option.toList, List.cons_append, List.nil_append, WK_ret, ↓q_m1d, ↓q_m2d, q_lit, q_ofN, q_cl, q_add, q_sub, q_m1, pk_mul, q_ltT, q_ltF, q_leN, q_eqT, q_eqF, q_n1lt, q_ltn1, q_len1, q_n1le, q_eqn1, q_n1eq, xin_nI, decide_eq_true_eq, Bool.not_eq_true', decide_eq_false_iff_not, up3_s, up3_t, up3_n, up3_k, up3_e, cd_94, cd_94, @WC_in 94, xo_iconst, xo_lconst, xo_iload, xo_lload, xo_aload, xo_istore, xo_astore, xo_iinc, xo_iadd, xo_isub, xo_imul, xo_iand, xo_idiv, xo_irem, xo_land, xo_lor, xo_lshl, xo_lshr, xo_lushr, xo_i2l, xo_l2i, xo_lcmp, xo_dup, xo_dup2, xo_pop, xo_goto, xo_icmp, xo_if, xo_switch, xo_getf, xo_puti, xo_putz, xo_putr, xo_iald, xo_bald, xo_lald, xo_aald, xo_iast, xo_bast, xo_last, xo_aast, xo_alen, xo_new, xo_newa, xo_throw, xo_call, xo_objinit, xo_abs, xo_max, xo_ret, hR, e2]
      have lpE : (nS S N q).lp (nS S N q).r = S.lp S.r + mkc S.T N S.r (fg S.T N) (fg S.T N) := nS_lp1
      have z41 : ∀ t n k, t ≠ 41 → t ≠ 40 → t ≠ 42 → σ4 t n k = σ2 t n k := fun t n k a b d => (F4 _ _ _ a).trans (F3 _ _ _ (by omega))
      have z1 : ∀ t k, (t = 34 ∨ t = 35 ∨ t = 36 ∨ t = 38 ∨ (44 ≤ t ∧ t ≤ 49)) → σ4 t 0 k = σ1 t 0 k := fun t k a => (z41 t 0 k (by omega) (by omega) (by omega)).trans (F2 _ _ _ (by omega))
      have CZ : ∀ c, c < fg S.T N → σ4 35 0 (16 * (S.r + 1) + c) = nI (hm S.T N S.r (fg S.T N) (S.lp S.r) (msq S.T N (S.st S.r)) (fg S.T N) c).length ∧ ∀ d, d < (hm S.T N S.r (fg S.T N) (S.lp S.r) (msq S.T N (S.st S.r)) (fg S.T N) c).length → σ4 34 0 (64 * (S.r + 1) + 4 * c + d) = nI ((hm S.T N S.r (fg S.T N) (S.lp S.r) (msq S.T N (S.st S.r)) (fg S.T N) c).getD d 0) := by
        intro c hc
        have hcl := colo_lt (r := S.r) hc
        have cs := CS1 _ hcl
        have hh := hm_c (T := S.T) (N := N) (r := S.r) (lp := S.lp S.r) (h0 := msq S.T N (S.st S.r)) (Nat.le_refl _) hcl
        rw [← hh, colo_colo hc] at cs
        exact ⟨(z1 35 _ (by decide)).trans cs.1, fun d hd => (z1 34 _ (by decide)).trans (cs.2 d hd)⟩
      have LZ : ∀ x, x < S.lp S.r + mkc S.T N S.r (fg S.T N) (fg S.T N) → RDx σ4 (nS S N q).lo (nS S N q).pa x := fun x hx => RDx_k (L1 x hx) (fun t a b => z1 t x (by omega)) (fun j hj => z1 44 _ (by decide)) (fun _ => rfl) rfl
      have hpg : ∀ i y, i ≤ S.r → y < 4 → σ4 43 0 (4 * i + y) = σ 43 0 (4 * i + y) := fun i y a b => (z41 _ _ _ (by omega) (by omega) (by omega)).trans ((F2 _ _ _ (by omega)).trans ((F1 _ _ _ (by omega)).trans (b43' _ (by omega))))
      refine hQ _ ⟨?_, ?_, ?_, ?_, ?_, ?_, ?_, ?_, ?_, ?_, ?_, ?_, ?_, ?_, ?_, ?_, ?_, ?_, ?_, ?_, ?_, ?_⟩ (fun t n k a b => ?_) (fun k hk => ?_)
      · rw [up3_k (by decide), up3_s]; rfl
      · rw [up3_k (by decide), up3_k (by decide), z41 _ _ _ (by omega) (by omega) (by omega), F2' _ _ _ (by omega), C2, hS7]; rfl
      · intro k hk
        rw [up3_t (by decide), up3_t (by decide), z41 _ _ _ (by omega) (by omega) (by omega), F2' _ _ _ (by omega)]; exact C3 k hk
      · rw [up3_s]; rfl
      · rw [up3_k (by decide), up3_k (by decide), z41 _ _ _ (by omega) (by omega) (by omega), F2' _ _ _ (by omega), C5, nS_cN0 (by omega)]
      · intro i hi
        rw [up3_t (by decide), up3_t (by decide), z41 _ _ _ (by omega) (by omega) (by omega), F2 _ _ _ (by omega), F1 _ _ _ (by omega)]
        by_cases e : i = S.r + 1
        · rw [e, nS_cN1]; exact b37
        · have hi : i ≤ S.r + 1 := hi
          rw [nS_cN0 e, b37' i e]; exact C6 i (by omega)
      · intro i j hi hj
        rw [up3_t (by decide), up3_t (by decide)]
        by_cases e : i = S.r + 1
        · rw [e, nS_cN1] at hj
          rw [e, nS_st1]; exact (CZ j hj).1
        · have hi : i ≤ S.r + 1 := hi
          rw [nS_cN0 e] at hj
          have p16 := hP.2.2.2.1 i (by omega)
          rw [nS_st0 e, z1 35 _ (by decide), A35 _ (by omega), Fb _ _ _ (by omega)]; exact C7 i j (by omega) hj
      · intro i j d hi hj hd
        rw [up3_t (by decide), up3_t (by decide)]
        by_cases e : i = S.r + 1
        · rw [e, nS_cN1] at hj
          rw [e, nS_st1] at hd
          rw [e, nS_st1]; exact (CZ j hj).2 d hd
        · have hi : i ≤ S.r + 1 := hi
          rw [nS_cN0 e] at hj
          rw [nS_st0 e] at hd
          have p16 := hP.2.2.2.1 i (by omega)
          have p44 := hP.2.2.2.2.1 i j (by omega) hj
          rw [nS_st0 e, z1 34 _ (by decide), A34 _ (by omega), Fb _ _ _ (by omega)]; exact C8 i j d (by omega) hj hd
      · intro i j hi hj
        rw [up3_t (by decide), up3_t (by decide)]
        by_cases e : i = S.r + 1
        · rw [e, nS_cN1] at hj
          have := D1 (colo S.r (fg S.T N) j) (colo_lt hj)
          rw [colo_colo hj] at this
          rw [e, nS_bd1, z1 36 _ (by decide)]; exact this
        · have hi : i ≤ S.r + 1 := hi
          rw [nS_cN0 e] at hj
          have p16 := hP.2.2.2.1 i (by omega)
          rw [nS_bd0 e, z1 36 _ (by decide), A36 _ (by omega), Fb _ _ _ (by omega)]; exact C9 i j (by omega) hj
      · intro i j hc hi hj
        rw [nS_cN0 (by omega)] at hc
        rw [up3_t (by decide), up3_t (by decide), F4 _ _ _ (by omega)]
        by_cases e : i = S.r + 1
        · rw [e, nS_sd1]; exact b40 j hj
        · have hi : i ≤ S.r + 1 := hi
          rw [nS_sd0 e, b40' _ (by omega)]; exact C10 i j hc (by omega) hj
      · intro i hi
        rw [up3_t (by decide), up3_t (by decide), z1 38 _ (by decide)]
        by_cases e : i = S.r + 1
        · rw [e, nS_lp1]; exact E1
        · have hi : i ≤ S.r + 1 := hi
          rw [nS_lp0 e, A38 i e, b38' i e]; exact C11 i (by omega)
      · intro i hi
        rw [up3_t (by decide), up3_t (by decide), z41 _ _ _ (by omega) (by omega) (by omega)]
        by_cases e : i = S.r + 1
        · rw [e, nS_dr1]; exact v39
        · have hi : i ≤ S.r + 1 := hi
          rw [nS_dr0 e, X39 i e, F1 _ _ _ (by omega), b39' i e]; exact C12 i (by omega)
      · intro i y i1 hi hy
        rw [up3_t (by decide), up3_t (by decide)]
        by_cases e : i = S.r + 1
        · rw [e, nS_pg1, z41 _ _ _ (by omega) (by omega) (by omega), F2 _ _ _ (by omega), F1 _ _ _ (by omega)]; exact b43 y hy
        · have hi : i ≤ S.r + 1 := hi
          rw [nS_pg0 e, hpg i y (by omega) hy]; exact C13 i y i1 (by omega) hy
      · intro i i1 hi
        rw [up3_t (by decide), up3_t (by decide), F4 _ _ _ (by omega)]
        by_cases e : i = S.r + 1
        · rw [e, nS_ln1]; exact b42
        · have hi : i ≤ S.r + 1 := hi
          rw [nS_ln0 e, b42' i e]; exact C14 i i1 (by omega)
      · intro i y i1 hi hy
        rw [up3_t (by decide), up3_t (by decide)]
        by_cases e : i = S.r + 1
        · rw [e, nS_ln1] at hy
          rw [e, nS_tx1]; exact B4 y hy
        · have hi : i ≤ S.r + 1 := hi
          rw [nS_ln0 e] at hy
          have p40 := (hP.2.2.2.2.2.2.2.2.1 i i1 (by omega)).1
          rw [nS_tx0 e, A4 _ (by omega), F3 _ _ _ (by omega), F2' _ _ _ (by omega)]; exact C15 i y i1 (by omega) hy
      · intro x hx
        rw [lpE] at hx
        rw [up3_t (by decide), up3_t (by decide)]; exact (LZ x hx).1
      · intro x hx
        rw [lpE] at hx
        rw [up3_t (by decide), up3_t (by decide)]; exact (LZ x hx).2.1
      · intro x hx
        rw [lpE] at hx
        rw [up3_t (by decide), up3_t (by decide)]; exact (LZ x hx).2.2.1
      · intro x hx
        rw [lpE] at hx
        rw [up3_t (by decide), up3_t (by decide)]; exact (LZ x hx).2.2.2.1
      · intro x hx
        rw [lpE] at hx
        rw [up3_t (by decide), up3_t (by decide)]; exact (LZ x hx).2.2.2.2.1
      · intro x j hx hj
        rw [lpE] at hx
        rw [up3_t (by decide), up3_t (by decide)]; exact (LZ x hx).2.2.2.2.2.2 j hj
      · intro x hx
        rw [lpE] at hx
        rw [up3_t (by decide), up3_t (by decide), z41 _ _ _ (by omega) (by omega) (by omega), v50 x]
        refine wvs_dvs ?_
        show σ1 50 0 x = nI (if S.lp S.r ≤ x then 0 else S.di x)
        by_cases u : S.lp S.r ≤ x
        · rw [if_pos u]; exact Z1 x u hx
        · rw [if_neg u, O1 x (by omega), Fb _ _ _ (by omega)]; exact C22 x (by omega)
      · rw [up3_t b, up3_t b, z41 _ _ _ (by omega) (by omega) (by omega)]; exact F2' _ _ _ (by omega)
      · rw [hk, up3_k (by decide), up3_k (by decide), z41 _ _ _ (by omega) (by omega) (by omega)]; exact F2' _ _ _ (by omega)
  have hq3 : q = 0 ∨ q = 1 ∨ q = 2 := by omega
  rcases hq3 with rfl | rfl | rfl
  · simp +decide (discharger := first | decide | assumption | omega) only [WP_go, cd, ↓reduceIte, Nat.reduceLT, Nat.reduceAdd, Nat.reduceSub, Nat.reduceMul, Nat.reduceEqDiff, WX_next, WX_call, WX_end, WX_none, xkt, xkn, xkc, xst, nb_, nbl_, nble_, decide_true, decide_false, Bool.and_true, Bool.true_and, Bool.and_false, Bool.false_and, Bool.not_true, Bool.not_false, Bool.true_or, Bool.false_or, cond_true, cond_false, List.getElem?_cons_zero, List.getElem?_cons_succ, List.getElem?_nil, List.set_cons_zero, List.set_cons_succ, List.length_cons, List.length_nil, xok, xtg, xcmp, xargs, xsum, xcat, xmn, xdp, xlo, xml, xmc, xrt, xrecv, xent, xmake, xec, xes, Nat.reduceLeDiff, Int.reduceAdd, Int.reduceToNat, Int.reduceLE, xz_cast, xz_cast0, xz_cast1, Bool.false_eq_true, not_false_eq_true, not_true_eq_false, and_true, true_and, and_self, true_or, or_true, WP_sw0, WP_swT, WP_swF, WX_ifT, WX_ifF, WX_ifN, Int32.reduceOfInt, Int.reduceNeg, List.replicate, Nat.zero_add, Nat.lt_irrefl, Option.toList, List.cons_append, List.nil_append, WK_ret, ↓q_m1d, ↓q_m2d, q_lit, q_ofN, q_cl, q_add, q_sub, q_m1, pk_mul, q_ltT, q_ltF, q_leN, q_eqT, q_eqF, q_n1lt, q_ltn1, q_len1, q_n1le, q_eqn1, q_n1eq, xin_nI, decide_eq_true_eq, Bool.not_eq_true', decide_eq_false_iff_not, up3_s, up3_t, up3_n, up3_k, up3_e, cd_94, @WP_force 94 144, xo_iconst, xo_lconst, xo_iload, xo_lload, xo_aload, xo_istore, xo_astore, xo_iinc, xo_iadd, xo_isub, xo_imul, xo_iand, xo_idiv, xo_irem, xo_land, xo_lor, xo_lshl, xo_lshr, xo_lushr, xo_i2l, xo_l2i, xo_lcmp, xo_dup, xo_dup2, xo_pop, xo_goto, xo_icmp, xo_if, xo_switch, xo_getf, xo_puti, xo_putz, xo_putr, xo_iald, xo_bald, xo_lald, xo_aald, xo_iast, xo_bast, xo_last, xo_aast, xo_alen, xo_new, xo_newa, xo_throw, xo_call, xo_objinit, xo_abs, xo_max, xo_ret, hR, d5, d2, hrem, sd0, sd1, sd2]
    refine FIN _ _ _ (fun j hj => ?_)
    have : j = 0 ∨ j = 1 ∨ j = 2 := by omega
    rcases this with rfl | rfl | rfl <;> rfl
  · simp +decide (discharger := first | decide | assumption | omega) only [WP_go, cd, ↓reduceIte, Nat.reduceLT, Nat.reduceAdd, Nat.reduceSub, Nat.reduceMul, Nat.reduceEqDiff, WX_next, WX_call, WX_end, WX_none, xkt, xkn, xkc, xst, nb_, nbl_, nble_, decide_true, decide_false, Bool.and_true, Bool.true_and, Bool.and_false, Bool.false_and, Bool.not_true, Bool.not_false, Bool.true_or, Bool.false_or, cond_true, cond_false, List.getElem?_cons_zero, List.getElem?_cons_succ, List.getElem?_nil, List.set_cons_zero, List.set_cons_succ, List.length_cons, List.length_nil, xok, xtg, xcmp, xargs, xsum, xcat, xmn, xdp, xlo, xml, xmc, xrt, xrecv, xent, xmake, xec, xes, Nat.reduceLeDiff, Int.reduceAdd, Int.reduceToNat, Int.reduceLE, xz_cast, xz_cast0, xz_cast1, Bool.false_eq_true, not_false_eq_true, not_true_eq_false, and_true, true_and, and_self, true_or, or_true, WP_sw0, WP_swT, WP_swF, WX_ifT, WX_ifF, WX_ifN, Int32.reduceOfInt, Int.reduceNeg, List.replicate, Nat.zero_add, Nat.lt_irrefl, Option.toList, List.cons_append, List.nil_append, WK_ret, ↓q_m1d, ↓q_m2d, q_lit, q_ofN, q_cl, q_add, q_sub, q_m1, pk_mul, q_ltT, q_ltF, q_leN, q_eqT, q_eqF, q_n1lt, q_ltn1, q_len1, q_n1le, q_eqn1, q_n1eq, xin_nI, decide_eq_true_eq, Bool.not_eq_true', decide_eq_false_iff_not, up3_s, up3_t, up3_n, up3_k, up3_e, cd_94, @WP_force 94 144, xo_iconst, xo_lconst, xo_iload, xo_lload, xo_aload, xo_istore, xo_astore, xo_iinc, xo_iadd, xo_isub, xo_imul, xo_iand, xo_idiv, xo_irem, xo_land, xo_lor, xo_lshl, xo_lshr, xo_lushr, xo_i2l, xo_l2i, xo_lcmp, xo_dup, xo_dup2, xo_pop, xo_goto, xo_icmp, xo_if, xo_switch, xo_getf, xo_puti, xo_putz, xo_putr, xo_iald, xo_bald, xo_lald, xo_aald, xo_iast, xo_bast, xo_last, xo_aast, xo_alen, xo_new, xo_newa, xo_throw, xo_call, xo_objinit, xo_abs, xo_max, xo_ret, hR, d5, d2, hrem, sd0, sd1, sd2]
    refine FIN _ _ _ (fun j hj => ?_)
    have : j = 0 ∨ j = 1 ∨ j = 2 := by omega
    rcases this with rfl | rfl | rfl <;> rfl
  · simp +decide (discharger := first | decide | assumption | omega) only [WP_go, cd, ↓reduceIte, Nat.reduceLT, Nat.reduceAdd, Nat.reduceSub, Nat.reduceMul, Nat.reduceEqDiff, WX_next, WX_call, WX_end, WX_none, xkt, xkn, xkc, xst, nb_, nbl_, nble_, decide_true, decide_false, Bool.and_true, Bool.true_and, Bool.and_false, Bool.false_and, Bool.not_true, Bool.not_false, Bool.true_or, Bool.false_or, cond_true, cond_false, List.getElem?_cons_zero, List.getElem?_cons_succ, List.getElem?_nil, List.set_cons_zero, List.set_cons_succ, List.length_cons, List.length_nil, xok, xtg, xcmp, xargs, xsum, xcat, xmn, xdp, xlo, xml, xmc, xrt, xrecv, xent, xmake, xec, xes, Nat.reduceLeDiff, Int.reduceAdd, Int.reduceToNat, Int.reduceLE, xz_cast, xz_cast0, xz_cast1, Bool.false_eq_true, not_false_eq_true, not_true_eq_false, and_true, true_and, and_self, true_or, or_true, WP_sw0, WP_swT, WP_swF, WX_ifT, WX_ifF, WX_ifN, Int32.reduceOfInt, Int.reduceNeg, List.replicate, Nat.zero_add, Nat.lt_irrefl, Option.toList, List.cons_append, List.nil_append, WK_ret, ↓q_m1d, ↓q_m2d, q_lit, q_ofN, q_cl, q_add, q_sub, q_m1, pk_mul, q_ltT, q_ltF, q_leN, q_eqT, q_eqF, q_n1lt, q_ltn1, q_len1, q_n1le, q_eqn1, q_n1eq, xin_nI, decide_eq_true_eq, Bool.not_eq_true', decide_eq_false_iff_not, up3_s, up3_t, up3_n, up3_k, up3_e, cd_94, @WP_force 94 144, xo_iconst, xo_lconst, xo_iload, xo_lload, xo_aload, xo_istore, xo_astore, xo_iinc, xo_iadd, xo_isub, xo_imul, xo_iand, xo_idiv, xo_irem, xo_land, xo_lor, xo_lshl, xo_lshr, xo_lushr, xo_i2l, xo_l2i, xo_lcmp, xo_dup, xo_dup2, xo_pop, xo_goto, xo_icmp, xo_if, xo_switch, xo_getf, xo_puti, xo_putz, xo_putr, xo_iald, xo_bald, xo_lald, xo_aald, xo_iast, xo_bast, xo_last, xo_aast, xo_alen, xo_new, xo_newa, xo_throw, xo_call, xo_objinit, xo_abs, xo_max, xo_ret, hR, d5, d2, hrem, sd0, sd1, sd2]
    refine FIN _ _ _ (fun j hj => ?_)
    have : j = 0 ∨ j = 1 ∨ j = 2 := by omega
    rcases this with rfl | rfl | rfl <;> rfl
