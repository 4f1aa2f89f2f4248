/-! casting on -/
def oS (S : ST) (n : Nat) : ST := (0, S.T, S.n, S.told, fun _ => n, fun _ j => [j], fun _ _ => 0, fun _ j => if j = 0 then nI 1 else neg1, fun _ => n, fun _ => 0, S.pg, S.tx, S.ln, fun x k => if k = 1 then x else 0, fun _ => [], fun _ => 0)
theorem oS_wh {S : ST} {n x : Nat} (h : x < n) : (oS S n).wh x = nI x := by
  show (match whr (fun j => [j]) x n with | some q => nI q | none => if 0 = 0 then neg1 else neg2) = nI x
  rw [whr_yes (j := x) (whr_out (fun j hj e => by rw [List.mem_singleton] at e; omega)) (List.mem_singleton.mpr rfl) h]
theorem oPJ {S : ST} {n : Nat} (hP : PJ S) (h1 : 1 ≤ n) (h16 : n ≤ 16) : PJ (oS S n) := by
  refine ⟨by show 0 ≤ 20; omega, hP.2.1, hP.2.2.1, fun i hi => h16, fun i j hi hj => by show [j].length ≤ 4; simp, fun i hi => by show n ≤ 300; omega, fun i j x hi hj hx => ?_, fun i hi => Nat.le_refl _, fun i i1 hi => ?_, fun h => ?_, fun x hx => by show ([] : List Nat).length ≤ 4; simp, fun i j j' x hi hj hj' hx hx' => ?_, fun i j hi hj => by show [j].Nodup; simp, fun i j x hi => ?_, fun x hx => Nat.le_refl _, fun i j x hi hj hx => Or.inl rfl, fun i x hi => ?_, fun x hx h => absurd rfl h, fun i j hi hj => by show 0 ≤ 1; omega⟩
  · have hx : x ∈ [j] := hx
    have hj : j < n := hj
    rw [List.mem_singleton] at hx
    show x < n
    omega
  · have hi : i ≤ 0 := hi
    omega
  · have h : n = 0 := h
    omega
  · have hx : x ∈ [j] := hx
    have hx' : x ∈ [j'] := hx'
    rw [List.mem_singleton] at hx hx'
    omega
  · have hi : i < 0 := hi
    omega
  · have hi : i < 0 := hi
    omega
def cst (i c : Nat) : List Nat := if c < i then [c] else []
theorem cst_y {i c : Nat} (h : c < i) : cst i c = [c] := if_pos h
theorem cst_n {i c : Nat} (h : ¬ c < i) : cst i c = [] := if_neg h
abbrev Pc (t m : Nat) : Prop := (t = 10 ∨ t = 19 ∨ t = 20 ∨ t = 21 ∨ t = 22) ∧ m = 0 ∨ (23 ≤ t ∧ t ≤ 28)
theorem c_castOn {σ : Nat → Nat → Nat → Int32} {g : Nat → Nat → Nat → Int64} {ρ : Nat → Nat → Nat → Option XR} {k : Nat → Nat} {L c w : Nat} {Q : XO → XM → Prop} {S : ST} {x : Int32} (hR : RC ρ) (hC : CI S σ) (hP : PJ S) (hQ1 : (x < nI 1 ∨ ¬ x < nI 17) → Q (.inr 1) (σ, g, ρ, k, L, c + 1, w + 6)) (hQ2 : ∀ n σ', 1 ≤ n → n ≤ 16 → x = nI n → CI (oS S n) σ' → (∀ t n k, 33 ≤ t ∨ t = 0 → σ' t n k = σ t n k) → (∀ k, σ' 2 0 k = σ 2 0 k) → Q (.inl none) (σ', g, ρ, k, L, c, w)) : WC 3 [.inr (.inr (some (1, 0))), .inl x] (σ, g, ρ, k, L, c, w) Q := by
  rcases q_ix' x 17 (by omega) with h | ⟨h, h', h''⟩ | ⟨n, hn, rfl⟩
  · have h1 : x < nI 1 := by
      rw [Int32.lt_iff_toInt_lt, nI_toInt (by omega)] at h ⊢
      omega
    simp +decide (discharger := first | decide | assumption | omega) only [WP_go, cd, ↓reduceIte, Nat.reduceLT, Nat.reduceAdd, Nat.reduceSub, Nat.reduceMul, Nat.reduceEqDiff, WX_next, WX_call, WX_end, WX_none, xkt, xkn, xkc, xst, nb_, nbl_, nble_, decide_true, decide_false, Bool.and_true, Bool.true_and, Bool.and_false, Bool.false_and, Bool.not_true, Bool.not_false, Bool.true_or, Bool.false_or, cond_true, cond_false, List.getElem?_cons_zero, List.getElem?_cons_succ, List.getElem?_nil, List.set_cons_zero, List.set_cons_succ, List.length_cons, List.length_nil, xok, xtg, xcmp, xargs, xsum, xcat, xmn, xdp, xlo, xml, xmc, xrt, xrecv, xent, xmake, xec, xes, Nat.reduceLeDiff, Int.reduceAdd, Int.reduceToNat, Int.reduceLE, xz_cast, xz_cast0, xz_cast1, Bool.false_eq_true, not_false_eq_true, not_true_eq_false, and_true, true_and, and_self, true_or, or_true, WP_sw0, WP_swT, WP_swF, WX_ifT, WX_ifF, WX_ifN, Int32.reduceOfInt, Int.reduceNeg, List.replicate, Nat.zero_add, Nat.lt_irrefl, Option.toList, List.cons_append, List.nil_append, WK_ret, ↓q_m1d, ↓q_m2d, q_lit, q_ofN, q_cl, q_add, q_sub, q_m1, pk_mul, q_ltT, q_ltF, q_leN, q_eqT, q_eqF, q_n1lt, q_ltn1, q_len1, q_n1le, q_eqn1, q_n1eq, xin_nI, decide_eq_true_eq, Bool.not_eq_true', decide_eq_false_iff_not, up3_s, up3_t, up3_n, up3_k, up3_e, cd_3, cd_3, @WC_in 3, xo_iconst, xo_lconst, xo_iload, xo_lload, xo_aload, xo_istore, xo_astore, xo_iinc, xo_iadd, xo_isub, xo_imul, xo_iand, xo_idiv, xo_irem, xo_land, xo_lor, xo_lshl, xo_lshr, xo_lushr, xo_i2l, xo_l2i, xo_lcmp, xo_dup, xo_dup2, xo_pop, xo_goto, xo_icmp, xo_if, xo_switch, xo_getf, xo_puti, xo_putz, xo_putr, xo_iald, xo_bald, xo_lald, xo_aald, xo_iast, xo_bast, xo_last, xo_aast, xo_alen, xo_new, xo_newa, xo_throw, xo_call, xo_objinit, xo_abs, xo_max, xo_ret, hR]
    exact hQ1 (Or.inl h1)
  · have h1 : ¬ x < nI 1 := fun e => h'' (by
      rw [Int32.lt_iff_toInt_lt, nI_toInt (by omega)] at e ⊢
      omega)
    have h3 : nI 16 < x := q_gt h'' (by omega)
    simp +decide (discharger := first | decide | assumption | omega) only [WP_go, cd, ↓reduceIte, Nat.reduceLT, Nat.reduceAdd, Nat.reduceSub, Nat.reduceMul, Nat.reduceEqDiff, WX_next, WX_call, WX_end, WX_none, xkt, xkn, xkc, xst, nb_, nbl_, nble_, decide_true, decide_false, Bool.and_true, Bool.true_and, Bool.and_false, Bool.false_and, Bool.not_true, Bool.not_false, Bool.true_or, Bool.false_or, cond_true, cond_false, List.getElem?_cons_zero, List.getElem?_cons_succ, List.getElem?_nil, List.set_cons_zero, List.set_cons_succ, List.length_cons, List.length_nil, xok, xtg, xcmp, xargs, xsum, xcat, xmn, xdp, xlo, xml, xmc, xrt, xrecv, xent, xmake, xec, xes, Nat.reduceLeDiff, Int.reduceAdd, Int.reduceToNat, Int.reduceLE, xz_cast, xz_cast0, xz_cast1, Bool.false_eq_true, not_false_eq_true, not_true_eq_false, and_true, true_and, and_self, true_or, or_true, WP_sw0, WP_swT, WP_swF, WX_ifT, WX_ifF, WX_ifN, Int32.reduceOfInt, Int.reduceNeg, List.replicate, Nat.zero_add, Nat.lt_irrefl, Option.toList, List.cons_append, List.nil_append, WK_ret, ↓q_m1d, ↓q_m2d, q_lit, q_ofN, q_cl, q_add, q_sub, q_m1, pk_mul, q_ltT, q_ltF, q_leN, q_eqT, q_eqF, q_n1lt, q_ltn1, q_len1, q_n1le, q_eqn1, q_n1eq, xin_nI, decide_eq_true_eq, Bool.not_eq_true', decide_eq_false_iff_not, up3_s, up3_t, up3_n, up3_k, up3_e, cd_3, cd_3, @WC_in 3, xo_iconst, xo_lconst, xo_iload, xo_lload, xo_aload, xo_istore, xo_astore, xo_iinc, xo_iadd, xo_isub, xo_imul, xo_iand, xo_idiv, xo_irem, xo_land, xo_lor, xo_lshl, xo_lshr, xo_lushr, xo_i2l, xo_l2i, xo_lcmp, xo_dup, xo_dup2, xo_pop, xo_goto, xo_icmp, xo_if, xo_switch, xo_getf, xo_puti, xo_putz, xo_putr, xo_iald, xo_bald, xo_lald, xo_aald, xo_iast, xo_bast, xo_last, xo_aast, xo_alen, xo_new, xo_newa, xo_throw, xo_call, xo_objinit, xo_abs, xo_max, xo_ret, hR]
    exact hQ1 (Or.inr h'')
  by_cases hn0 : n = 0
  · subst hn0
    simp +decide (discharger := first | decide | assumption | omega) only [WP_go, cd, ↓reduceIte, Nat.reduceLT, Nat.reduceAdd, Nat.reduceSub, Nat.reduceMul, Nat.reduceEqDiff, WX_next, WX_call, WX_end, WX_none, xkt, xkn, xkc, xst, nb_, nbl_, nble_, decide_true, decide_false, Bool.and_true, Bool.true_and, Bool.and_false, Bool.false_and, Bool.not_true, Bool.not_false, Bool.true_or, Bool.false_or, cond_true, cond_false, List.getElem?_cons_zero, List.getElem?_cons_succ, List.getElem?_nil, List.set_cons_zero, List.set_cons_succ, List.length_cons, List.length_nil, xok, xtg, xcmp, xargs, xsum, xcat, xmn, xdp, xlo, xml, xmc, xrt, xrecv, xent, xmake, xec, xes, Nat.reduceLeDiff, Int.reduceAdd, Int.reduceToNat, Int.reduceLE, xz_cast, xz_cast0, xz_cast1, Bool.false_eq_true, not_false_eq_true, not_true_eq_false, and_true, true_and, and_self, true_or, or_true, WP_sw0, WP_swT, WP_swF, WX_ifT, WX_ifF, WX_ifN, Int32.reduceOfInt, Int.reduceNeg, List.replicate, Nat.zero_add, Nat.lt_irrefl, Option.toList, List.cons_append, List.nil_append, WK_ret, ↓q_m1d, ↓q_m2d, q_lit, q_ofN, q_cl, q_add, q_sub, q_m1, pk_mul, q_ltT, q_ltF, q_leN, q_eqT, q_eqF, q_n1lt, q_ltn1, q_len1, q_n1le, q_eqn1, q_n1eq, xin_nI, decide_eq_true_eq, Bool.not_eq_true', decide_eq_false_iff_not, up3_s, up3_t, up3_n, up3_k, up3_e, cd_3, cd_3, @WC_in 3, xo_iconst, xo_lconst, xo_iload, xo_lload, xo_aload, xo_istore, xo_astore, xo_iinc, xo_iadd, xo_isub, xo_imul, xo_iand, xo_idiv, xo_irem, xo_land, xo_lor, xo_lshl, xo_lshr, xo_lushr, xo_i2l, xo_l2i, xo_lcmp, xo_dup, xo_dup2, xo_pop, xo_goto, xo_icmp, xo_if, xo_switch, xo_getf, xo_puti, xo_putz, xo_putr, xo_iald, xo_bald, xo_lald, xo_aald, xo_iast, xo_bast, xo_last, xo_aast, xo_alen, xo_new, xo_newa, xo_throw, xo_call, xo_objinit, xo_abs, xo_max, xo_ret, hR]
    exact hQ1 (Or.inl (by decide))
  have hQ := fun σ' => hQ2 n σ' (by omega) (by omega) rfl
  clear hQ1 hQ2
  obtain ⟨C1, C2, C3, C4, -⟩ := hC
  simp +decide (discharger := first | decide | assumption | omega) only [WP_go, cd, ↓reduceIte, Nat.reduceLT, Nat.reduceAdd, Nat.reduceSub, Nat.reduceMul, Nat.reduceEqDiff, WX_next, WX_call, WX_end, WX_none, xkt, xkn, xkc, xst, nb_, nbl_, nble_, decide_true, decide_false, Bool.and_true, Bool.true_and, Bool.and_false, Bool.false_and, Bool.not_true, Bool.not_false, Bool.true_or, Bool.false_or, cond_true, cond_false, List.getElem?_cons_zero, List.getElem?_cons_succ, List.getElem?_nil, List.set_cons_zero, List.set_cons_succ, List.length_cons, List.length_nil, xok, xtg, xcmp, xargs, xsum, xcat, xmn, xdp, xlo, xml, xmc, xrt, xrecv, xent, xmake, xec, xes, Nat.reduceLeDiff, Int.reduceAdd, Int.reduceToNat, Int.reduceLE, xz_cast, xz_cast0, xz_cast1, Bool.false_eq_true, not_false_eq_true, not_true_eq_false, and_true, true_and, and_self, true_or, or_true, WP_sw0, WP_swT, WP_swF, WX_ifT, WX_ifF, WX_ifN, Int32.reduceOfInt, Int.reduceNeg, List.replicate, Nat.zero_add, Nat.lt_irrefl, Option.toList, List.cons_append, List.nil_append, WK_ret, ↓q_m1d, ↓q_m2d, q_lit, q_ofN, q_cl, q_add, q_sub, q_m1, pk_mul, q_ltT, q_ltF, q_leN, q_eqT, q_eqF, q_n1lt, q_ltn1, q_len1, q_n1le, q_eqn1, q_n1eq, xin_nI, decide_eq_true_eq, Bool.not_eq_true', decide_eq_false_iff_not, up3_s, up3_t, up3_n, up3_k, up3_e, cd_3, cd_3, @WC_in 3, xo_iconst, xo_lconst, xo_iload, xo_lload, xo_aload, xo_istore, xo_astore, xo_iinc, xo_iadd, xo_isub, xo_imul, xo_iand, xo_idiv, xo_irem, xo_land, xo_lor, xo_lshl, xo_lshr, xo_lushr, xo_i2l, xo_l2i, xo_lcmp, xo_dup, xo_dup2, xo_pop, xo_goto, xo_icmp, xo_if, xo_switch, xo_getf, xo_puti, xo_putz, xo_putr, xo_iald, xo_bald, xo_lald, xo_aald, xo_iast, xo_bast, xo_last, xo_aast, xo_alen, xo_new, xo_newa, xo_throw, xo_call, xo_objinit, xo_abs, xo_max, xo_ret, hR]
  refine c_begin hR (by omega) (fun σ1 F1 v0 o1 z1 => ?_)
  simp +decide (discharger := first | decide | assumption | omega) only [WP_go, cd, ↓reduceIte, Nat.reduceLT, Nat.reduceAdd, Nat.reduceSub, Nat.reduceMul, Nat.reduceEqDiff, WX_next, WX_call, WX_end, WX_none, xkt, xkn, xkc, xst, nb_, nbl_, nble_, decide_true, decide_false, Bool.and_true, Bool.true_and, Bool.and_false, Bool.false_and, Bool.not_true, Bool.not_false, Bool.true_or, Bool.false_or, cond_true, cond_false, List.getElem?_cons_zero, List.getElem?_cons_succ, List.getElem?_nil, List.set_cons_zero, List.set_cons_succ, List.length_cons, List.length_nil, xok, xtg, xcmp, xargs, xsum, xcat, xmn, xdp, xlo, xml, xmc, xrt, xrecv, xent, xmake, xec, xes, Nat.reduceLeDiff, Int.reduceAdd, Int.reduceToNat, Int.reduceLE, xz_cast, xz_cast0, xz_cast1, Bool.false_eq_true, not_false_eq_true, not_true_eq_false, and_true, true_and, and_self, true_or, or_true, WP_sw0, WP_swT, WP_swF, WX_ifT, WX_ifF, WX_ifN, Int32.reduceOfInt, Int.reduceNeg, List.replicate, Nat.zero_add, Nat.lt_irrefl, Option.toList, List.cons_append, List.nil_append, WK_ret, ↓q_m1d, ↓q_m2d, q_lit, q_ofN, q_cl, q_add, q_sub, q_m1, pk_mul, q_ltT, q_ltF, q_leN, q_eqT, q_eqF, q_n1lt, q_ltn1, q_len1, q_n1le, q_eqn1, q_n1eq, xin_nI, decide_eq_true_eq, Bool.not_eq_true', decide_eq_false_iff_not, up3_s, up3_t, up3_n, up3_k, up3_e, cd_3, xo_iconst, xo_lconst, xo_iload, xo_lload, xo_aload, xo_istore, xo_astore, xo_iinc, xo_iadd, xo_isub, xo_imul, xo_iand, xo_idiv, xo_irem, xo_land, xo_lor, xo_lshl, xo_lshr, xo_lushr, xo_i2l, xo_l2i, xo_lcmp, xo_dup, xo_dup2, xo_pop, xo_goto, xo_icmp, xo_if, xo_switch, xo_getf, xo_puti, xo_putz, xo_putr, xo_iald, xo_bald, xo_lald, xo_aald, xo_iast, xo_bast, xo_last, xo_aast, xo_alen, xo_new, xo_newa, xo_throw, xo_call, xo_objinit, xo_abs, xo_max, xo_ret, hR]
  refine lp_up (fun i => [some (.inr (.inr (some (1, 0)))), some (.inl (nI n)), some (.inr (.inr (some (10, 0)))), some (.inl (nI i))]) (fun i M => ∃ σ', M = (σ', g, ρ, k, L, c, w) ∧ FrP Pc σ σ' ∧ σ' 10 0 0 = nI n ∧ RS 0 (cst i) σ' ∧ (∀ c, c < i → σ' 21 0 c = nI 0) ∧ (∀ y, y < i → LDx σ' (fun x k => if k = 1 then x else 0) (fun _ => []) y) ∧ (∀ y, y < i → σ' 27 0 y = nI y)) n ?_ ?_ 0 _ (by omega) ⟨_, rfl, F1.mono (fun t m u => by omega), v0, fun c hc => ⟨by rw [cst_n (by omega)]; simp, by rw [cst_n (by omega)]; exact z1 c hc, fun d hd => absurd hd (by rw [cst_n (by omega)]; simp)⟩, fun c hc => absurd hc (by omega), fun y hy => absurd hy (by omega), fun y hy => absurd hy (by omega)⟩
  · rintro i _ hi ⟨σ2, rfl, F2, A2, H2, B2, D2, W2⟩ ih
    rw [WP_force]
    simp +decide (discharger := first | decide | assumption | omega) only [WP_go, cd, ↓reduceIte, Nat.reduceLT, Nat.reduceAdd, Nat.reduceSub, Nat.reduceMul, Nat.reduceEqDiff, WX_next, WX_call, WX_end, WX_none, xkt, xkn, xkc, xst, nb_, nbl_, nble_, decide_true, decide_false, Bool.and_true, Bool.true_and, Bool.and_false, Bool.false_and, Bool.not_true, Bool.not_false, Bool.true_or, Bool.false_or, cond_true, cond_false, List.getElem?_cons_zero, List.getElem?_cons_succ, List.getElem?_nil, List.set_cons_zero, List.set_cons_succ, List.length_cons, List.length_nil, xok, xtg, xcmp, xargs, xsum, xcat, xmn, xdp, xlo, xml, xmc, xrt, xrecv, xent, xmake, xec, xes, Nat.reduceLeDiff, Int.reduceAdd, Int.reduceToNat, Int.reduceLE, xz_cast, xz_cast0, xz_cast1, Bool.false_eq_true, not_false_eq_true, not_true_eq_false, and_true, true_and, and_self, true_or, or_true, WP_sw0, WP_swT, WP_swF, WX_ifT, WX_ifF, WX_ifN, Int32.reduceOfInt, Int.reduceNeg, List.replicate, Nat.zero_add, Nat.lt_irrefl, Option.toList, List.cons_append, List.nil_append, WK_ret, ↓q_m1d, ↓q_m2d, q_lit, q_ofN, q_cl, q_add, q_sub, q_m1, pk_mul, q_ltT, q_ltF, q_leN, q_eqT, q_eqF, q_n1lt, q_ltn1, q_len1, q_n1le, q_eqn1, q_n1eq, xin_nI, decide_eq_true_eq, Bool.not_eq_true', decide_eq_false_iff_not, up3_s, up3_t, up3_n, up3_k, up3_e, cd_3, cd_3, @WC_in 3, xo_iconst, xo_lconst, xo_iload, xo_lload, xo_aload, xo_istore, xo_astore, xo_iinc, xo_iadd, xo_isub, xo_imul, xo_iand, xo_idiv, xo_irem, xo_land, xo_lor, xo_lshl, xo_lshr, xo_lushr, xo_i2l, xo_l2i, xo_lcmp, xo_dup, xo_dup2, xo_pop, xo_goto, xo_icmp, xo_if, xo_switch, xo_getf, xo_puti, xo_putz, xo_putr, xo_iald, xo_bald, xo_lald, xo_aald, xo_iast, xo_bast, xo_last, xo_aast, xo_alen, xo_new, xo_newa, xo_throw, xo_call, xo_objinit, xo_abs, xo_max, xo_ret, hR]
    refine c_mkLoop (ro := 0) (be := 0) (ca := 0) hR (by omega) (fun σ3 F3 O3 v1 v2 v3 v4 v5 O28 N28 => ?_)
    simp +decide (discharger := first | decide | assumption | omega) only [WP_go, cd, ↓reduceIte, Nat.reduceLT, Nat.reduceAdd, Nat.reduceSub, Nat.reduceMul, Nat.reduceEqDiff, WX_next, WX_call, WX_end, WX_none, xkt, xkn, xkc, xst, nb_, nbl_, nble_, decide_true, decide_false, Bool.and_true, Bool.true_and, Bool.and_false, Bool.false_and, Bool.not_true, Bool.not_false, Bool.true_or, Bool.false_or, cond_true, cond_false, List.getElem?_cons_zero, List.getElem?_cons_succ, List.getElem?_nil, List.set_cons_zero, List.set_cons_succ, List.length_cons, List.length_nil, xok, xtg, xcmp, xargs, xsum, xcat, xmn, xdp, xlo, xml, xmc, xrt, xrecv, xent, xmake, xec, xes, Nat.reduceLeDiff, Int.reduceAdd, Int.reduceToNat, Int.reduceLE, xz_cast, xz_cast0, xz_cast1, Bool.false_eq_true, not_false_eq_true, not_true_eq_false, and_true, true_and, and_self, true_or, or_true, WP_sw0, WP_swT, WP_swF, WX_ifT, WX_ifF, WX_ifN, Int32.reduceOfInt, Int.reduceNeg, List.replicate, Nat.zero_add, Nat.lt_irrefl, Option.toList, List.cons_append, List.nil_append, WK_ret, ↓q_m1d, ↓q_m2d, q_lit, q_ofN, q_cl, q_add, q_sub, q_m1, pk_mul, q_ltT, q_ltF, q_leN, q_eqT, q_eqF, q_n1lt, q_ltn1, q_len1, q_n1le, q_eqn1, q_n1eq, xin_nI, decide_eq_true_eq, Bool.not_eq_true', decide_eq_false_iff_not, up3_s, up3_t, up3_n, up3_k, up3_e, cd_3, xo_iconst, xo_lconst, xo_iload, xo_lload, xo_aload, xo_istore, xo_astore, xo_iinc, xo_iadd, xo_isub, xo_imul, xo_iand, xo_idiv, xo_irem, xo_land, xo_lor, xo_lshl, xo_lshr, xo_lushr, xo_i2l, xo_l2i, xo_lcmp, xo_dup, xo_dup2, xo_pop, xo_goto, xo_icmp, xo_if, xo_switch, xo_getf, xo_puti, xo_putz, xo_putr, xo_iald, xo_bald, xo_lald, xo_aald, xo_iast, xo_bast, xo_last, xo_aast, xo_alen, xo_new, xo_newa, xo_throw, xo_call, xo_objinit, xo_abs, xo_max, xo_ret, hR]
    have H3 : RS 0 (cst i) (up3 σ3 21 0 i (nI 0)) := RS_f (RS_f H2 F3 (by omega) (by omega)) (FrP.rf.up (P := fun t _ => t = 21) rfl) (by decide) (by decide)
    have e0 : cst i i = ([] : List Nat) := cst_n (by omega)
    have d10 := (H3 i (by omega)).2.1
    have PU := RS_push (x := i) H3 (show i < 16 by omega) (by rw [e0]; simp)
    rw [e0] at d10 PU
    refine c_push hR (by omega) (by omega) (n := 0) (by omega) d10 ?_
    simp +decide (discharger := first | decide | assumption | omega) only [WP_go, cd, ↓reduceIte, Nat.reduceLT, Nat.reduceAdd, Nat.reduceSub, Nat.reduceMul, Nat.reduceEqDiff, WX_next, WX_call, WX_end, WX_none, xkt, xkn, xkc, xst, nb_, nbl_, nble_, decide_true, decide_false, Bool.and_true, Bool.true_and, Bool.and_false, Bool.false_and, Bool.not_true, Bool.not_false, Bool.true_or, Bool.false_or, cond_true, cond_false, List.getElem?_cons_zero, List.getElem?_cons_succ, List.getElem?_nil, List.set_cons_zero, List.set_cons_succ, List.length_cons, List.length_nil, xok, xtg, xcmp, xargs, xsum, xcat, xmn, xdp, xlo, xml, xmc, xrt, xrecv, xent, xmake, xec, xes, Nat.reduceLeDiff, Int.reduceAdd, Int.reduceToNat, Int.reduceLE, xz_cast, xz_cast0, xz_cast1, Bool.false_eq_true, not_false_eq_true, not_true_eq_false, and_true, true_and, and_self, true_or, or_true, WP_sw0, WP_swT, WP_swF, WX_ifT, WX_ifF, WX_ifN, Int32.reduceOfInt, Int.reduceNeg, List.replicate, Nat.zero_add, Nat.lt_irrefl, Option.toList, List.cons_append, List.nil_append, WK_ret, ↓q_m1d, ↓q_m2d, q_lit, q_ofN, q_cl, q_add, q_sub, q_m1, pk_mul, q_ltT, q_ltF, q_leN, q_eqT, q_eqF, q_n1lt, q_ltn1, q_len1, q_n1le, q_eqn1, q_n1eq, xin_nI, decide_eq_true_eq, Bool.not_eq_true', decide_eq_false_iff_not, up3_s, up3_t, up3_n, up3_k, up3_e, cd_3, xo_iconst, xo_lconst, xo_iload, xo_lload, xo_aload, xo_istore, xo_astore, xo_iinc, xo_iadd, xo_isub, xo_imul, xo_iand, xo_idiv, xo_irem, xo_land, xo_lor, xo_lshl, xo_lshr, xo_lushr, xo_i2l, xo_l2i, xo_lcmp, xo_dup, xo_dup2, xo_pop, xo_goto, xo_icmp, xo_if, xo_switch, xo_getf, xo_puti, xo_putz, xo_putr, xo_iald, xo_bald, xo_lald, xo_aald, xo_iast, xo_bast, xo_last, xo_aast, xo_alen, xo_new, xo_newa, xo_throw, xo_call, xo_objinit, xo_abs, xo_max, xo_ret, hR]
    refine ih _ ⟨_, rfl, ((((F2.tr (F3.mono (fun t m u => by omega))).up (Or.inl ⟨Or.inr (Or.inr (Or.inr (Or.inl rfl))), rfl⟩)).up (Or.inl ⟨Or.inr (Or.inl rfl), rfl⟩)).up (Or.inl ⟨Or.inr (Or.inr (Or.inl rfl)), rfl⟩)), ?_, RS_e PU (fun q' _ => ?_), fun c' hc => ?_, fun y hy => ?_, fun y hy => ?_⟩
    · rw [up3_t (by decide), up3_t (by decide), up3_t (by decide), F3 _ _ _ (by omega)]; exact A2
    · unfold upL
      by_cases e : q' = i
      · rw [if_pos e, cst_y (by omega), e]; rfl
      · rw [if_neg e]
        by_cases u : q' < i
        · rw [cst_y u, cst_y (by omega)]
        · rw [cst_n u, cst_n (by omega)]
    · rw [up3_t (by decide), up3_t (by decide)]
      by_cases e : c' = i
      · rw [e, up3_s]
      · rw [up3_k e, F3 _ _ _ (by omega)]; exact B2 c' (by omega)
    · have U : ∀ t k, t ≠ 19 → t ≠ 20 → t ≠ 21 → up3 (up3 (up3 σ3 21 0 i (nI 0)) 19 0 (i * 4 + 0) (nI i)) 20 0 i (nI (0 + 1)) t 0 k = σ3 t 0 k := fun t k a b d => by rw [up3_t b, up3_t a, up3_t d]
      by_cases e : y = i
      · subst e
        refine ⟨(U _ _ (by decide) (by decide) (by decide)).trans v1, (U _ _ (by decide) (by decide) (by decide)).trans v2, (U _ _ (by decide) (by decide) (by decide)).trans v3, (U _ _ (by decide) (by decide) (by decide)).trans v4, fun j hj => (U _ _ (by decide) (by decide) (by decide)).trans (N28 j hj)⟩
      · exact LDx_k (D2 y (by omega)) (fun t t1 t2 t3 => (U t y (by rintro rfl; exact absurd t3 (by decide)) (by rintro rfl; exact absurd t3 (by decide)) (by rintro rfl; exact absurd t3 (by decide))).trans (O3 t y t1 e)) (fun j hj => (U _ _ (by decide) (by decide) (by decide)).trans (O28 _ (by omega))) (fun _ => rfl) rfl
    · rw [up3_t (by decide), up3_t (by decide), up3_t (by decide)]
      by_cases e : y = i
      · rw [e]; exact v5
      · rw [O3 27 y (by decide) e]; exact W2 y (by omega)
  · rintro _ ⟨σ2, rfl, F2, A2, H2, B2, D2, W2⟩
    rw [WP_force]
    simp +decide (discharger := first | decide | assumption | omega) only [WP_go, cd, ↓reduceIte, Nat.reduceLT, Nat.reduceAdd, Nat.reduceSub, Nat.reduceMul, Nat.reduceEqDiff, WX_next, WX_call, WX_end, WX_none, xkt, xkn, xkc, xst, nb_, nbl_, nble_, decide_true, decide_false, Bool.and_true, Bool.true_and, Bool.and_false, Bool.false_and, Bool.not_true, Bool.not_false, Bool.true_or, Bool.false_or, cond_true, cond_false, List.getElem?_cons_zero, List.getElem?_cons_succ, List.getElem?_nil, List.set_cons_zero, List.set_cons_succ, List.length_cons, List.length_nil, xok, xtg, xcmp, xargs, xsum, xcat, xmn, xdp, xlo, xml, xmc, xrt, xrecv, xent, xmake, xec, xes, Nat.reduceLeDiff, Int.reduceAdd, Int.reduceToNat, Int.reduceLE, xz_cast, xz_cast0, xz_cast1, Bool.false_eq_true, not_false_eq_true, not_true_eq_false, and_true, true_and, and_self, true_or, or_true, WP_sw0, WP_swT, WP_swF, WX_ifT, WX_ifF, WX_ifN, Int32.reduceOfInt, Int.reduceNeg, List.replicate, Nat.zero_add, Nat.lt_irrefl, Option.toList, List.cons_append, List.nil_append, WK_ret, ↓q_m1d, ↓q_m2d, q_lit, q_ofN, q_cl, q_add, q_sub, q_m1, pk_mul, q_ltT, q_ltF, q_leN, q_eqT, q_eqF, q_n1lt, q_ltn1, q_len1, q_n1le, q_eqn1, q_n1eq, xin_nI, decide_eq_true_eq, Bool.not_eq_true', decide_eq_false_iff_not, up3_s, up3_t, up3_n, up3_k, up3_e, cd_3, cd_3, @WC_in 3, xo_iconst, xo_lconst, xo_iload, xo_lload, xo_aload, xo_istore, xo_astore, xo_iinc, xo_iadd, xo_isub, xo_imul, xo_iand, xo_idiv, xo_irem, xo_land, xo_lor, xo_lshl, xo_lshr, xo_lushr, xo_i2l, xo_l2i, xo_lcmp, xo_dup, xo_dup2, xo_pop, xo_goto, xo_icmp, xo_if, xo_switch, xo_getf, xo_puti, xo_putz, xo_putr, xo_iald, xo_bald, xo_lald, xo_aald, xo_iast, xo_bast, xo_last, xo_aast, xo_alen, xo_new, xo_newa, xo_throw, xo_call, xo_objinit, xo_abs, xo_max, xo_ret, hR]
    generalize hσ3 : up3 (up3 (up3 (up3 (up3 (up3 (up3 σ2 10 0 5 (nI n)) 10 0 6 (nI 0)) 10 0 7 (nI 0)) 22 0 0 (nI 1)) 22 0 1 neg1) 22 0 2 neg1) 1 0 6 (nI 0) = σ3
    have U : ∀ t n k, t ≠ 1 → t ≠ 10 → t ≠ 22 → σ3 t n k = σ2 t n k := fun t n k a b d => by rw [← hσ3, up3_t a, up3_t d, up3_t d, up3_t d, up3_t b, up3_t b, up3_t b]
    have w6 : σ3 1 0 6 = nI 0 := by rw [← hσ3]; exact up3_s
    have w7 : σ3 1 0 7 = σ2 1 0 7 := by rw [← hσ3]; simp +decide (discharger := first | decide | assumption | omega) only [up3_s, up3_t, up3_n, up3_k, up3_e]
    have x0 : σ3 10 0 0 = nI n := by rw [← hσ3]; simp +decide (discharger := first | decide | assumption | omega) only [up3_s, up3_t, up3_n, up3_k, up3_e]; exact A2
    have x5 : σ3 10 0 5 = nI n := by rw [← hσ3]; simp +decide (discharger := first | decide | assumption | omega) only [up3_s, up3_t, up3_n, up3_k, up3_e]
    have x6 : σ3 10 0 6 = nI 0 := by rw [← hσ3]; simp +decide (discharger := first | decide | assumption | omega) only [up3_s, up3_t, up3_n, up3_k, up3_e]
    have x7 : σ3 10 0 7 = nI 0 := by rw [← hσ3]; simp +decide (discharger := first | decide | assumption | omega) only [up3_s, up3_t, up3_n, up3_k, up3_e]
    have y0 : ∀ j, j < 3 → σ3 22 0 j = if j = 0 then nI 1 else neg1 := by
      intro j hj
      rw [← hσ3]
      have : j = 0 ∨ j = 1 ∨ j = 2 := by omega
      rcases this with rfl | rfl | rfl
      · simp +decide (discharger := first | decide | assumption | omega) only [up3_s, up3_t, up3_n, up3_k, up3_e]; first | done | rfl
      · simp +decide (discharger := first | decide | assumption | omega) only [up3_s, up3_t, up3_n, up3_k, up3_e]; first | done | rfl
      · simp +decide (discharger := first | decide | assumption | omega) only [up3_s, up3_t, up3_n, up3_k, up3_e]; first | done | rfl
    have G : ∀ t n k, t ≠ 1 → ¬ Pc t n → t ≠ 10 → t ≠ 22 → σ3 t n k = σ t n k := fun t n k a b d e => (U _ _ _ a d e).trans (F2 _ _ _ b)
    clear hσ3
    have HZ : ∀ j, j < n → σ3 20 0 j = nI 1 ∧ σ3 19 0 (j * 4 + 0) = nI j := by
      intro j hj
      have := H2 j (by omega)
      rw [cst_y hj] at this
      exact ⟨(U _ _ _ (by decide) (by decide) (by decide)).trans this.2.1, (U _ _ _ (by decide) (by decide) (by decide)).trans (this.2.2 0 (by simp))⟩
    have zi : ∀ i, i ≤ (oS S n).r → i = 0 := fun i hi => Nat.le_zero.mp hi
    refine hQ _ ⟨w6, ?_, ?_, ?_, ?_, ?_, ?_, ?_, ?_, ?_, ?_, ?_, ?_, ?_, ?_, ?_, ?_, ?_, ?_, ?_, ?_, ?_, ?_, ?_⟩ (fun t n k ht => G _ _ _ (by omega) (by omega) (by omega) (by omega)) (fun k => G _ _ _ (by omega) (by omega) (by omega) (by omega))
    · rw [w7, F2 _ _ _ (by omega)]; exact C2
    · intro k hk
      rw [G _ _ _ (by omega) (by omega) (by omega) (by omega)]; exact C3 k hk
    · rw [G _ _ _ (by omega) (by omega) (by omega) (by omega)]; exact C4
    · intro i hi
      rw [zi i hi]; exact x0
    · intro i j hi hj
      rw [zi i hi]; exact (HZ j hj).1
    · intro i j d hi hj hd
      have hd : d < 1 := hd
      have : d = 0 := by omega
      subst this
      rw [zi i hi]; exact (HZ j hj).2
    · intro i j hi hj
      rw [zi i hi, U _ _ _ (by decide) (by decide) (by decide)]; exact B2 j hj
    · intro i j hi hj
      rw [zi i hi]; exact y0 j hj
    · intro i hi
      rw [zi i hi]; exact x5
    · intro i hi
      rw [zi i hi]; exact x6
    · intro i hi
      rw [zi i hi]; exact x7
    · intro i i1 hi
      have := zi i hi; omega
    · intro i i1 hi
      have := zi i hi; omega
    · intro i i1 hi
      have := zi i hi; omega
    · intro i i1 hi
      have := zi i hi; omega
    · intro i i1 hi
      have := zi i hi; omega
    · intro x hx
      rw [U _ _ _ (by decide) (by decide) (by decide)]; exact (D2 x hx).1
    · intro x hx
      rw [U _ _ _ (by decide) (by decide) (by decide)]; exact (D2 x hx).2.1
    · intro x hx
      rw [U _ _ _ (by decide) (by decide) (by decide)]; exact (D2 x hx).2.2.1
    · intro x hx
      rw [U _ _ _ (by decide) (by decide) (by decide)]; exact (D2 x hx).2.2.2.1
    · intro x hx
      rw [U _ _ _ (by decide) (by decide) (by decide), oS_wh (S := S) (n := n) hx]; exact W2 x hx
    · intro x j hx hj
      rw [U _ _ _ (by decide) (by decide) (by decide)]; exact (D2 x hx).2.2.2.2 j hj
    · intro i s hi
      have hi : i < 0 := hi
      omega
theorem r_castOn {σ : Nat → Nat → Nat → Int32} {g : Nat → Nat → Nat → Int64} {ρ : Nat → Nat → Nat → Option XR} {k : Nat → Nat} {L c w : Nat} {Q : XO → XM → Prop} {S : ST} {x : Int32} (hR : RC ρ) (hC : RI S σ) (hP : PJ S) (hQ1 : (x < nI 1 ∨ ¬ x < nI 17) → Q (.inl none) (up3 σ 2 0 0 (nI 1), g, ρ, k, L, c, w)) (hQ2 : ∀ n σ', 1 ≤ n → n ≤ 16 → x = nI n → RI (oS S n) σ' → (∀ t n k, t < 33 → t ≠ 2 → σ' t n k = σ t n k) → σ' 2 0 0 = nI 0 → Q (.inl none) (σ', g, ρ, k, L, c, w)) : WC 97 [.inr (.inr (some (2, 0))), .inl x] (σ, g, ρ, k, L, c, w) Q := by
  rcases q_ix' x 17 (by omega) with h | ⟨h, h', h''⟩ | ⟨n, hn, rfl⟩
  · have h1 : x < nI 1 := by
      rw [Int32.lt_iff_toInt_lt, nI_toInt (by omega)] at h ⊢
      omega
    simp +decide (discharger := first | decide | assumption | omega) only [WP_go, cd, ↓reduceIte, Nat.reduceLT, Nat.reduceAdd, Nat.reduceSub, Nat.reduceMul, Nat.reduceEqDiff, WX_next, WX_call, WX_end, WX_none, xkt, xkn, xkc, xst, nb_, nbl_, nble_, decide_true, decide_false, Bool.and_true, Bool.true_and, Bool.and_false, Bool.false_and, Bool.not_true, Bool.not_false, Bool.true_or, Bool.false_or, cond_true, cond_false, List.getElem?_cons_zero, List.getElem?_cons_succ, List.getElem?_nil, List.set_cons_zero, List.set_cons_succ, List.length_cons, List.length_nil, xok, xtg, xcmp, xargs, xsum, xcat, xmn, xdp, xlo, xml, xmc, xrt, xrecv, xent, xmake, xec, xes, Nat.reduceLeDiff, Int.reduceAdd, Int.reduceToNat, Int.reduceLE, xz_cast, xz_cast0, xz_cast1, Bool.false_eq_true, not_false_eq_true, not_true_eq_false, and_true, true_and, and_self, true_or, or_true, WP_sw0, WP_swT, WP_swF, WX_ifT, WX_ifF, WX_ifN, Int32.reduceOfInt, Int.reduceNeg, List.replicate, Nat.zero_add, Nat.lt_irrefl, Option.toList, List.cons_append, List.nil_append, WK_ret, ↓q_m1d, ↓q_m2d, q_lit, q_ofN, q_cl, q_add, q_sub, q_m1, pk_mul, q_ltT, q_ltF, q_leN, q_eqT, q_eqF, q_n1lt, q_ltn1, q_len1, q_n1le, q_eqn1, q_n1eq, xin_nI, decide_eq_true_eq, Bool.not_eq_true', decide_eq_false_iff_not, up3_s, up3_t, up3_n, up3_k, up3_e, cd_97, cd_97, @WC_in 97, xo_iconst, xo_lconst, xo_iload, xo_lload, xo_aload, xo_istore, xo_astore, xo_iinc, xo_iadd, xo_isub, xo_imul, xo_iand, xo_idiv, xo_irem, xo_land, xo_lor, xo_lshl, xo_lshr, xo_lushr, xo_i2l, xo_l2i, xo_lcmp, xo_dup, xo_dup2, xo_pop, xo_goto, xo_icmp, xo_if, xo_switch, xo_getf, xo_puti, xo_putz, xo_putr, xo_iald, xo_bald, xo_lald, xo_aald, xo_iast, xo_bast, xo_last, xo_aast, xo_alen, xo_new, xo_newa, xo_throw, xo_call, xo_objinit, xo_abs, xo_max, xo_ret, hR]
    exact hQ1 (Or.inl h1)
  · have h1 : ¬ x < nI 1 := fun e => h'' (by
      rw [Int32.lt_iff_toInt_lt, nI_toInt (by omega)] at e ⊢
      omega)
    have h3 : nI 16 < x := q_gt h'' (by omega)
    simp +decide (discharger := first | decide | assumption | omega) only [WP_go, cd, ↓reduceIte, Nat.reduceLT, Nat.reduceAdd, Nat.reduceSub, Nat.reduceMul, Nat.reduceEqDiff, WX_next, WX_call, WX_end, WX_none, xkt, xkn, xkc, xst, nb_, nbl_, nble_, decide_true, decide_false, Bool.and_true, Bool.true_and, Bool.and_false, Bool.false_and, Bool.not_true, Bool.not_false, Bool.true_or, Bool.false_or, cond_true, cond_false, List.getElem?_cons_zero, List.getElem?_cons_succ, List.getElem?_nil, List.set_cons_zero, List.set_cons_succ, List.length_cons, List.length_nil, xok, xtg, xcmp, xargs, xsum, xcat, xmn, xdp, xlo, xml, xmc, xrt, xrecv, xent, xmake, xec, xes, Nat.reduceLeDiff, Int.reduceAdd, Int.reduceToNat, Int.reduceLE, xz_cast, xz_cast0, xz_cast1, Bool.false_eq_true, not_false_eq_true, not_true_eq_false, and_true, true_and, and_self, true_or, or_true, WP_sw0, WP_swT, WP_swF, WX_ifT, WX_ifF, WX_ifN, Int32.reduceOfInt, Int.reduceNeg, List.replicate, Nat.zero_add, Nat.lt_irrefl, Option.toList, List.cons_append, List.nil_append, WK_ret, ↓q_m1d, ↓q_m2d, q_lit, q_ofN, q_cl, q_add, q_sub, q_m1, pk_mul, q_ltT, q_ltF, q_leN, q_eqT, q_eqF, q_n1lt, q_ltn1, q_len1, q_n1le, q_eqn1, q_n1eq, xin_nI, decide_eq_true_eq, Bool.not_eq_true', decide_eq_false_iff_not, up3_s, up3_t, up3_n, up3_k, up3_e, cd_97, cd_97, @WC_in 97, xo_iconst, xo_lconst, xo_iload, xo_lload, xo_aload, xo_istore, xo_astore, xo_iinc, xo_iadd, xo_isub, xo_imul, xo_iand, xo_idiv, xo_irem, xo_land, xo_lor, xo_lshl, xo_lshr, xo_lushr, xo_i2l, xo_l2i, xo_lcmp, xo_dup, xo_dup2, xo_pop, xo_goto, xo_icmp, xo_if, xo_switch, xo_getf, xo_puti, xo_putz, xo_putr, xo_iald, xo_bald, xo_lald, xo_aald, xo_iast, xo_bast, xo_last, xo_aast, xo_alen, xo_new, xo_newa, xo_throw, xo_call, xo_objinit, xo_abs, xo_max, xo_ret, hR]
    exact hQ1 (Or.inr h'')
  by_cases hn0 : n = 0
  · subst hn0
    simp +decide (discharger := first | decide | assumption | omega) only [WP_go, cd, ↓reduceIte, Nat.reduceLT, Nat.reduceAdd, Nat.reduceSub, Nat.reduceMul, Nat.reduceEqDiff, WX_next, WX_call, WX_end, WX_none, xkt, xkn, xkc, xst, nb_, nbl_, nble_, decide_true, decide_false, Bool.and_true, Bool.true_and, Bool.and_false, Bool.false_and, Bool.not_true, Bool.not_false, Bool.true_or, Bool.false_or, cond_true, cond_false, List.getElem?_cons_zero, List.getElem?_cons_succ, List.getElem?_nil, List.set_cons_zero, List.set_cons_succ, List.length_cons, List.length_nil, xok, xtg, xcmp, xargs, xsum, xcat, xmn, xdp, xlo, xml, xmc, xrt, xrecv, xent, xmake, xec, xes, Nat.reduceLeDiff, Int.reduceAdd, Int.reduceToNat, Int.reduceLE, xz_cast, xz_cast0, xz_cast1, Bool.false_eq_true, not_false_eq_true, not_true_eq_false, and_true, true_and, and_self, true_or, or_true, WP_sw0, WP_swT, WP_swF, WX_ifT, WX_ifF, WX_ifN, Int32.reduceOfInt, Int.reduceNeg, List.replicate, Nat.zero_add, Nat.lt_irrefl, Option.toList, List.cons_append, List.nil_append, WK_ret, ↓q_m1d, ↓q_m2d, q_lit, q_ofN, q_cl, q_add, q_sub, q_m1, pk_mul, q_ltT, q_ltF, q_leN, q_eqT, q_eqF, q_n1lt, q_ltn1, q_len1, q_n1le, q_eqn1, q_n1eq, xin_nI, decide_eq_true_eq, Bool.not_eq_true', decide_eq_false_iff_not, up3_s, up3_t, up3_n, up3_k, up3_e, cd_97, cd_97, @WC_in 97, xo_iconst, xo_lconst, xo_iload, xo_lload, xo_aload, xo_istore, xo_astore, xo_iinc, xo_iadd, xo_isub, xo_imul, xo_iand, xo_idiv, xo_irem, xo_land, xo_lor, xo_lshl, xo_lshr, xo_lushr, xo_i2l, xo_l2i, xo_lcmp, xo_dup, xo_dup2, xo_pop, xo_goto, xo_icmp, xo_if, xo_switch, xo_getf, xo_puti, xo_putz, xo_putr, xo_iald, xo_bald, xo_lald, xo_aald, xo_iast, xo_bast, xo_last, xo_aast, xo_alen, xo_new, xo_newa, xo_throw, xo_call, xo_objinit, xo_abs, xo_max, xo_ret, hR]
    exact hQ1 (Or.inl (by decide))
  have hQ := fun σ' => hQ2 n σ' (by omega) (by omega) rfl
  clear hQ1 hQ2
  obtain ⟨C1, C2, C3, C4, -⟩ := hC
  simp +decide (discharger := first | decide | assumption | omega) only [WP_go, cd, ↓reduceIte, Nat.reduceLT, Nat.reduceAdd, Nat.reduceSub, Nat.reduceMul, Nat.reduceEqDiff, WX_next, WX_call, WX_end, WX_none, xkt, xkn, xkc, xst, nb_, nbl_, nble_, decide_true, decide_false, Bool.and_true, Bool.true_and, Bool.and_false, Bool.false_and, Bool.not_true, Bool.not_false, Bool.true_or, Bool.false_or, cond_true, cond_false, List.getElem?_cons_zero, List.getElem?_cons_succ, List.getElem?_nil, List.set_cons_zero, List.set_cons_succ, List.length_cons, List.length_nil, xok, xtg, xcmp, xargs, xsum, xcat, xmn, xdp, xlo, xml, xmc, xrt, xrecv, xent, xmake, xec, xes, Nat.reduceLeDiff, Int.reduceAdd, Int.reduceToNat, Int.reduceLE, xz_cast, xz_cast0, xz_cast1, Bool.false_eq_true, not_false_eq_true, not_true_eq_false, and_true, true_and, and_self, true_or, or_true, WP_sw0, WP_swT, WP_swF, WX_ifT, WX_ifF, WX_ifN, Int32.reduceOfInt, Int.reduceNeg, List.replicate, Nat.zero_add, Nat.lt_irrefl, Option.toList, List.cons_append, List.nil_append, WK_ret, ↓q_m1d, ↓q_m2d, q_lit, q_ofN, q_cl, q_add, q_sub, q_m1, pk_mul, q_ltT, q_ltF, q_leN, q_eqT, q_eqF, q_n1lt, q_ltn1, q_len1, q_n1le, q_eqn1, q_n1eq, xin_nI, decide_eq_true_eq, Bool.not_eq_true', decide_eq_false_iff_not, up3_s, up3_t, up3_n, up3_k, up3_e, cd_97, cd_97, @WC_in 97, xo_iconst, xo_lconst, xo_iload, xo_lload, xo_aload, xo_istore, xo_astore, xo_iinc, xo_iadd, xo_isub, xo_imul, xo_iand, xo_idiv, xo_irem, xo_land, xo_lor, xo_lshl, xo_lshr, xo_lushr, xo_i2l, xo_l2i, xo_lcmp, xo_dup, xo_dup2, xo_pop, xo_goto, xo_icmp, xo_if, xo_switch, xo_getf, xo_puti, xo_putz, xo_putr, xo_iald, xo_bald, xo_lald, xo_aald, xo_iast, xo_bast, xo_last, xo_aast, xo_alen, xo_new, xo_newa, xo_throw, xo_call, xo_objinit, xo_abs, xo_max, xo_ret, hR]
  generalize hσ1 : up3 (up3 (up3 (up3 (up3 (up3 σ 2 0 0 (nI 0)) 2 0 4 _) 2 0 5 (nI 0)) 37 0 0 (nI n)) 38 0 0 (nI n)) 39 0 0 (nI 0) = σ1
  have U1 : ∀ t n k, t ≠ 2 → t ≠ 37 → t ≠ 38 → t ≠ 39 → σ1 t n k = σ t n k := fun t n k a b d e => by rw [← hσ1, up3_t e, up3_t d, up3_t b, up3_t a, up3_t a, up3_t a]
  have u0 : σ1 2 0 0 = nI 0 := by rw [← hσ1]; simp +decide (discharger := first | decide | assumption | omega) only [up3_s, up3_t, up3_n, up3_k, up3_e]
  have u4 : σ1 2 0 4 = nI 1 := by rw [← hσ1]; simp +decide (discharger := first | decide | assumption | omega) only [up3_s, up3_t, up3_n, up3_k, up3_e]; first | done | exact nar01 (by omega)
  have u5 : σ1 2 0 5 = nI 0 := by rw [← hσ1]; simp +decide (discharger := first | decide | assumption | omega) only [up3_s, up3_t, up3_n, up3_k, up3_e]
  have u2 : σ1 2 0 2 = σ 2 0 2 := by rw [← hσ1]; simp +decide (discharger := first | decide | assumption | omega) only [up3_s, up3_t, up3_n, up3_k, up3_e]
  have u3 : σ1 2 0 3 = σ 2 0 3 := by rw [← hσ1]; simp +decide (discharger := first | decide | assumption | omega) only [up3_s, up3_t, up3_n, up3_k, up3_e]
  have u37 : σ1 37 0 0 = nI n := by rw [← hσ1]; simp +decide (discharger := first | decide | assumption | omega) only [up3_s, up3_t, up3_n, up3_k, up3_e]
  have u38 : σ1 38 0 0 = nI n := by rw [← hσ1]; simp +decide (discharger := first | decide | assumption | omega) only [up3_s, up3_t, up3_n, up3_k, up3_e]
  have u39 : σ1 39 0 0 = nI 0 := by rw [← hσ1]; simp +decide (discharger := first | decide | assumption | omega) only [up3_s, up3_t, up3_n, up3_k, up3_e]
  clear hσ1
  refine lp_up (fun i => [some (.inr (.inr (some (2, 0)))), some (.inl (nI n)), some (.inl (nI i))]) (fun i M => ∃ σ', M = (σ', g, ρ, k, L, c, w) ∧ FrP (fun t _ => t = 34 ∨ t = 35 ∨ t = 36 ∨ (45 ≤ t ∧ t ≤ 50)) σ1 σ' ∧ (∀ y, y < i → σ' 34 0 (4 * y) = nI y ∧ σ' 35 0 y = nI 1 ∧ σ' 36 0 y = nI 0 ∧ σ' 45 0 y = nI 0 ∧ σ' 46 0 y = nI 0 ∧ σ' 47 0 y = nI y ∧ σ' 48 0 y = nI 0 ∧ σ' 49 0 y = nI 0 ∧ σ' 50 0 y = nI 0)) n ?_ ?_ 0 _ (by omega) ⟨_, rfl, FrP.rf, fun y hy => absurd hy (by omega)⟩
  · rintro i _ hi ⟨σ2, rfl, F2, A2⟩ ih
    rw [WP_force]
    simp +decide (discharger := first | decide | assumption | omega) only [WP_go, cd, ↓reduceIte, Nat.reduceLT, Nat.reduceAdd, Nat.reduceSub, Nat.reduceMul, Nat.reduceEqDiff, WX_next, WX_call, WX_end, WX_none, xkt, xkn, xkc, xst, nb_, nbl_, nble_, decide_true, decide_false, Bool.and_true, Bool.true_and, Bool.and_false, Bool.false_and, Bool.not_true, Bool.not_false, Bool.true_or, Bool.false_or, cond_true, cond_false, List.getElem?_cons_zero, List.getElem?_cons_succ, List.getElem?_nil, List.set_cons_zero, List.set_cons_succ, List.length_cons, List.length_nil, xok, xtg, xcmp, xargs, xsum, xcat, xmn, xdp, xlo, xml, xmc, xrt, xrecv, xent, xmake, xec, xes, Nat.reduceLeDiff, Int.reduceAdd, Int.reduceToNat, Int.reduceLE, xz_cast, xz_cast0, xz_cast1, Bool.false_eq_true, not_false_eq_true, not_true_eq_false, and_true, true_and, and_self, true_or, or_true, WP_sw0, WP_swT, WP_swF, WX_ifT, WX_ifF, WX_ifN, Int32.reduceOfInt, Int.reduceNeg, List.replicate, Nat.zero_add, Nat.lt_irrefl, Option.toList, List.cons_append, List.nil_append, WK_ret, ↓q_m1d, ↓q_m2d, q_lit, q_ofN, q_cl, q_add, q_sub, q_m1, pk_mul, q_ltT, q_ltF, q_leN, q_eqT, q_eqF, q_n1lt, q_ltn1, q_len1, q_n1le, q_eqn1, q_n1eq, xin_nI, decide_eq_true_eq, Bool.not_eq_true', decide_eq_false_iff_not, up3_s, up3_t, up3_n, up3_k, up3_e, cd_97, cd_97, @WC_in 97, xo_iconst, xo_lconst, xo_iload, xo_lload, xo_aload, xo_istore, xo_astore, xo_iinc, xo_iadd, xo_isub, xo_imul, xo_iand, xo_idiv, xo_irem, xo_land, xo_lor, xo_lshl, xo_lshr, xo_lushr, xo_i2l, xo_l2i, xo_lcmp, xo_dup, xo_dup2, xo_pop, xo_goto, xo_icmp, xo_if, xo_switch, xo_getf, xo_puti, xo_putz, xo_putr, xo_iald, xo_bald, xo_lald, xo_aald, xo_iast, xo_bast, xo_last, xo_aast, xo_alen, xo_new, xo_newa, xo_throw, xo_call, xo_objinit, xo_abs, xo_max, xo_ret, hR]
    refine ih _ ⟨_, rfl, ((((((((F2.up (by decide)).up (by decide)).up (by decide)).up (by decide)).up (by decide)).up (by decide)).up (by decide)).up (by decide)).up (by decide), fun y hy => ?_⟩
    by_cases e : y = i
    · subst e
      exact ⟨by simp +decide (discharger := first | decide | assumption | omega) only [up3_s, up3_t, up3_n, up3_k, up3_e], by simp +decide (discharger := first | decide | assumption | omega) only [up3_s, up3_t, up3_n, up3_k, up3_e], by simp +decide (discharger := first | decide | assumption | omega) only [up3_s, up3_t, up3_n, up3_k, up3_e], by simp +decide (discharger := first | decide | assumption | omega) only [up3_s, up3_t, up3_n, up3_k, up3_e], by simp +decide (discharger := first | decide | assumption | omega) only [up3_s, up3_t, up3_n, up3_k, up3_e], by simp +decide (discharger := first | decide | assumption | omega) only [up3_s, up3_t, up3_n, up3_k, up3_e], by simp +decide (discharger := first | decide | assumption | omega) only [up3_s, up3_t, up3_n, up3_k, up3_e], by simp +decide (discharger := first | decide | assumption | omega) only [up3_s, up3_t, up3_n, up3_k, up3_e], by simp +decide (discharger := first | decide | assumption | omega) only [up3_s, up3_t, up3_n, up3_k, up3_e]⟩
    · obtain ⟨q1, q2, q3, q4, q5, q6, q7, q8, q9⟩ := A2 y (by omega)
      exact ⟨by simp +decide (discharger := first | decide | assumption | omega) only [up3_s, up3_t, up3_n, up3_k, up3_e]; exact q1, by simp +decide (discharger := first | decide | assumption | omega) only [up3_s, up3_t, up3_n, up3_k, up3_e]; exact q2, by simp +decide (discharger := first | decide | assumption | omega) only [up3_s, up3_t, up3_n, up3_k, up3_e]; exact q3, by simp +decide (discharger := first | decide | assumption | omega) only [up3_s, up3_t, up3_n, up3_k, up3_e]; exact q4, by simp +decide (discharger := first | decide | assumption | omega) only [up3_s, up3_t, up3_n, up3_k, up3_e]; exact q5, by simp +decide (discharger := first | decide | assumption | omega) only [up3_s, up3_t, up3_n, up3_k, up3_e]; exact q6, by simp +decide (discharger := first | decide | assumption | omega) only [up3_s, up3_t, up3_n, up3_k, up3_e]; exact q7, by simp +decide (discharger := first | decide | assumption | omega) only [up3_s, up3_t, up3_n, up3_k, up3_e]; exact q8, by simp +decide (discharger := first | decide | assumption | omega) only [up3_s, up3_t, up3_n, up3_k, up3_e]; exact q9⟩
  · rintro _ ⟨σ2, rfl, F2, A2⟩
    rw [WP_force]
    simp +decide (discharger := first | decide | assumption | omega) only [WP_go, cd, ↓reduceIte, Nat.reduceLT, Nat.reduceAdd, Nat.reduceSub, Nat.reduceMul, Nat.reduceEqDiff, WX_next, WX_call, WX_end, WX_none, xkt, xkn, xkc, xst, nb_, nbl_, nble_, decide_true, decide_false, Bool.and_true, Bool.true_and, Bool.and_false, Bool.false_and, Bool.not_true, Bool.not_false, Bool.true_or, Bool.false_or, cond_true, cond_false, List.getElem?_cons_zero, List.getElem?_cons_succ, List.getElem?_nil, List.set_cons_zero, List.set_cons_succ, List.length_cons, List.length_nil, xok, xtg, xcmp, xargs, xsum, xcat, xmn, xdp, xlo, xml, xmc, xrt, xrecv, xent, xmake, xec, xes, Nat.reduceLeDiff, Int.reduceAdd, Int.reduceToNat, Int.reduceLE, xz_cast, xz_cast0, xz_cast1, Bool.false_eq_true, not_false_eq_true, not_true_eq_false, and_true, true_and, and_self, true_or, or_true, WP_sw0, WP_swT, WP_swF, WX_ifT, WX_ifF, WX_ifN, Int32.reduceOfInt, Int.reduceNeg, List.replicate, Nat.zero_add, Nat.lt_irrefl, Option.toList, List.cons_append, List.nil_append, WK_ret, ↓q_m1d, ↓q_m2d, q_lit, q_ofN, q_cl, q_add, q_sub, q_m1, pk_mul, q_ltT, q_ltF, q_leN, q_eqT, q_eqF, q_n1lt, q_ltn1, q_len1, q_n1le, q_eqn1, q_n1eq, xin_nI, decide_eq_true_eq, Bool.not_eq_true', decide_eq_false_iff_not, up3_s, up3_t, up3_n, up3_k, up3_e, cd_97, cd_97, @WC_in 97, xo_iconst, xo_lconst, xo_iload, xo_lload, xo_aload, xo_istore, xo_astore, xo_iinc, xo_iadd, xo_isub, xo_imul, xo_iand, xo_idiv, xo_irem, xo_land, xo_lor, xo_lshl, xo_lshr, xo_lushr, xo_i2l, xo_l2i, xo_lcmp, xo_dup, xo_dup2, xo_pop, xo_goto, xo_icmp, xo_if, xo_switch, xo_getf, xo_puti, xo_putz, xo_putr, xo_iald, xo_bald, xo_lald, xo_aald, xo_iast, xo_bast, xo_last, xo_aast, xo_alen, xo_new, xo_newa, xo_throw, xo_call, xo_objinit, xo_abs, xo_max, xo_ret, hR]
    generalize hσ3 : up3 (up3 (up3 σ2 40 0 0 (nI 1)) 40 0 1 neg1) 40 0 2 neg1 = σ3
    have U : ∀ t n k, t ≠ 40 → σ3 t n k = σ2 t n k := fun t n k a => by rw [← hσ3, up3_t a, up3_t a, up3_t a]
    have y0 : ∀ j, j < 3 → σ3 40 0 j = if j = 0 then nI 1 else neg1 := by
      intro j hj
      rw [← hσ3]
      have : j = 0 ∨ j = 1 ∨ j = 2 := by omega
      rcases this with rfl | rfl | rfl
      · simp +decide (discharger := first | decide | assumption | omega) only [up3_s, up3_t, up3_n, up3_k, up3_e]; first | done | rfl
      · simp +decide (discharger := first | decide | assumption | omega) only [up3_s, up3_t, up3_n, up3_k, up3_e]; first | done | rfl
      · simp +decide (discharger := first | decide | assumption | omega) only [up3_s, up3_t, up3_n, up3_k, up3_e]; first | done | rfl
    clear hσ3
    have zi : ∀ i, i ≤ (oS S n).r → i = 0 := fun i hi => Nat.le_zero.mp hi
    have two : ∀ k, σ3 2 0 k = σ1 2 0 k := fun k => (U _ _ _ (by decide)).trans (F2 _ _ _ (by omega))
    refine hQ _ ⟨(two 5).trans u5, (two 3).trans (u3.trans C2), fun k hk => ?_, (two 2).trans (u2.trans C4), ?_, ?_, ?_, ?_, ?_, ?_, ?_, ?_, ?_, ?_, ?_, ?_, ?_, ?_, ?_, ?_, ?_, ?_⟩ (fun t n k ht h2 => ?_) ((two 0).trans u0)
    · rw [U _ _ _ (by decide), F2 _ _ _ (by omega), U1 _ _ _ (by decide) (by decide) (by decide) (by decide)]; exact C3 k hk
    · rw [two 4, u4]
      show nI 1 = nI (if n = 0 then 0 else 1)
      rw [if_neg hn0]
    · intro i hi
      rw [zi i hi, U _ _ _ (by decide), F2 _ _ _ (by omega)]; exact u37
    · intro i j hi hj
      rw [zi i hi, U _ _ _ (by decide), Nat.mul_zero, Nat.zero_add]; exact (A2 j hj).2.1
    · intro i j d hi hj hd
      have hd : d < 1 := hd
      have : d = 0 := by omega
      subst this
      rw [zi i hi, U _ _ _ (by decide), Nat.mul_zero, Nat.zero_add]; exact (A2 j hj).1
    · intro i j hi hj
      rw [zi i hi, U _ _ _ (by decide), Nat.mul_zero, Nat.zero_add]; exact (A2 j hj).2.2.1
    · intro i j _ hi hj
      rw [zi i hi, Nat.mul_zero, Nat.zero_add]; exact y0 j hj
    · intro i hi
      rw [zi i hi, U _ _ _ (by decide), F2 _ _ _ (by omega)]; exact u38
    · intro i hi
      rw [zi i hi, U _ _ _ (by decide), F2 _ _ _ (by omega)]; exact u39
    · intro i q i1 hi
      have := zi i hi; omega
    · intro i i1 hi
      have := zi i hi; omega
    · intro i q i1 hi
      have := zi i hi; omega
    · intro x hx
      rw [U _ _ _ (by decide)]; exact (A2 x hx).2.2.2.2.1
    · intro x hx
      rw [U _ _ _ (by decide)]; exact (A2 x hx).2.2.2.2.2.1
    · intro x hx
      rw [U _ _ _ (by decide)]; exact (A2 x hx).2.2.2.2.2.2.1
    · intro x hx
      rw [U _ _ _ (by decide)]; exact (A2 x hx).2.2.2.2.2.2.2.1
    · intro x hx
      rw [U _ _ _ (by decide)]; exact (A2 x hx).2.2.2.1
    · intro x j hx hj
      exact absurd hj (Nat.not_lt_zero j)
    · intro x hx
      rw [U _ _ _ (by decide)]; exact (A2 x hx).2.2.2.2.2.2.2.2
    · rw [U _ _ _ (by omega), F2 _ _ _ (by omega), U1 _ _ _ h2 (by omega) (by omega) (by omega)]
