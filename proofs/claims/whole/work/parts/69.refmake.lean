/-! one column of the next row, by the reference -/
theorem fm_take {f : Nat → List Nat} {l : List Nat} {k : Nat} (h : k < l.length) : ((l.take k).flatMap f).length + (f (l.getD k 0)).length ≤ (l.flatMap f).length := by
  have e : l = l.take (k + 1) ++ l.drop (k + 1) := (List.take_append_drop _ _).symm
  have e2 : (l.flatMap f).length = ((l.take (k + 1)).flatMap f).length + ((l.drop (k + 1)).flatMap f).length := by
    rw [← List.length_append, ← List.flatMap_append, ← e]
  rw [e2, take_s h, List.flatMap_append, List.length_append]
  simp
theorem getD_ap {l m : List Nat} {d : Nat} (h : d < l.length) : (l ++ m).getD d 0 = l.getD d 0 := by
  rw [List.getD_eq_getElem?_getD, List.getD_eq_getElem?_getD, List.getElem?_append_left h]
/-- the row below, by the reference -/
abbrev BR (r n lp : Nat) (f : Nat → List Nat) (σ : Nat → Nat → Nat → Int32) : Prop := (∀ j, j < n → (f j).length ≤ 4) ∧ (∀ j, j < n → σ 35 0 (16 * r + j) = nI (f j).length) ∧ (∀ j d, j < n → d < (f j).length → σ 34 0 (64 * r + 4 * j + d) = nI ((f j).getD d 0)) ∧ (∀ j x, j < n → x ∈ f j → x < lp) ∧ lp ≤ 300
abbrev mkL (r G a be n to Lq q : Nat) (k : Nat) (z10 z11 z12 : Option XV) : XL := [some (.inr (.inr (some (2, 0)))), some (.inl (nI G)), some (.inl (nI q)), some (.inl (nI (r + 1))), some (.inl (nI a)), some (.inl (nI be)), some (.inl (nI n)), some (.inl (nI to)), some (.inl (nI Lq)), some (.inl (nI k)), z10, z11, z12]
theorem r_mlp {σ : Nat → Nat → Nat → Int32} {g : Nat → Nat → Nat → Int64} {ρ : Nat → Nat → Nat → Option XR} {k : Nat → Nat} {L c w : Nat} {Q : XO → XM → Prop} {r G a be Lq q n lp K B : Nat} {f : Nat → List Nat} {l : List Nat} (hR : RC ρ) (hr : r < 20) (hn : n ≤ 16) (hG : G < 16) (ha : a < 256) (hL : Lq ≤ 300) (hS : BR r n lp f σ) (hl : ∀ j, j ∈ l → j < n) (hl3 : l.length ≤ 3) (h4 : (l.flatMap f).length ≤ 4) (h5 : σ 2 0 5 = nI r) (h60 : σ 60 0 G = nI l.length) (h61 : ∀ d, d < l.length → σ 61 0 (3 * G + d) = nI (l.getD d 0)) (hK : ((a = 116 ∨ a = 109) ∧ K = 34 ∧ B = 64 * (r + 1) + 4 * G) ∨ (¬ (a = 116 ∨ a = 109) ∧ K = 44 ∧ B = 4 * Lq ∧ Lq < 300)) (fin : ∀ σ' z10 z11 z12, FrP (fun t _ => t = K) σ σ' → (∀ y, (y < B ∨ B + 4 ≤ y) → σ' K 0 y = σ K 0 y) → (∀ d, d < (l.flatMap f).length → σ' K 0 (B + d) = nI ((l.flatMap f).getD d 0)) → WP 92 91 (mkL r G a be (l.flatMap f).length (64 * (r + 1) + 4 * G) Lq q l.length z10 z11 z12) [] (σ', g, ρ, k, L, c, w) Q) : ∀ z10 z11 z12, WP 92 91 (mkL r G a be 0 (64 * (r + 1) + 4 * G) Lq q 0 z10 z11 z12) [] (σ, g, ρ, k, L, c, w) Q := by
  have hK' : K = 34 ∧ 64 * (r + 1) ≤ B ∨ K = 44 := by omega
  intro z10 z11 z12
  refine lp_upL (fun k' lv M => ∃ σ' z10 z11 z12, lv = mkL r G a be ((l.take k').flatMap f).length (64 * (r + 1) + 4 * G) Lq q k' z10 z11 z12 ∧ M = (σ', g, ρ, k, L, c, w) ∧ FrP (fun t _ => t = K) σ σ' ∧ (∀ y, (y < B ∨ B + 4 ≤ y) → σ' K 0 y = σ K 0 y) ∧ (∀ d, d < ((l.take k').flatMap f).length → σ' K 0 (B + d) = nI (((l.take k').flatMap f).getD d 0))) l.length ?_ ?_ 0 _ _ (by omega) ⟨_, _, _, _, rfl, rfl, FrP.rf, fun y _ => rfl, fun d hd => absurd hd (Nat.not_lt_zero d)⟩
  · rintro k' _ _ hk ⟨σ1, z10, z11, z12, rfl, rfl, F1, A1, B1⟩ ih
    have hc := hl _ (getD_mem hk)
    have ht := fm_take (f := f) hk
    have KEEP : ∀ σ', FrP (fun t _ => t = K) σ σ' → (∀ y, (y < B ∨ B + 4 ≤ y) → σ' K 0 y = σ K 0 y) → σ' 2 0 5 = nI r ∧ σ' 60 0 G = nI l.length ∧ (∀ d, d < l.length → σ' 61 0 (3 * G + d) = nI (l.getD d 0)) ∧ BR r n lp f σ' := by
      intro σ' F A
      refine ⟨(F _ _ _ (by omega)).trans h5, (F _ _ _ (by omega)).trans h60, fun d hd => (F _ _ _ (by omega)).trans (h61 d hd), hS.1, fun j hj => (F _ _ _ (by omega)).trans (hS.2.1 j hj), fun j d hj hd => ?_, hS.2.2.2⟩
      have hfj := hS.1 j hj
      rw [← hS.2.2.1 j d hj hd]
      by_cases e : K = 34
      · subst e
        exact A _ (by omega)
      · exact F _ _ _ (fun u => e u.symm)
    obtain ⟨c5, c60, c61, S1⟩ := KEEP σ1 F1 A1
    have c61 := c61 k' hk
    generalize hcc : l.getD k' 0 = cc at *
    have hf4 := hS.1 cc hc
    unfold mkL
    rw [WP_force]
    simp +decide (discharger := first | decide | assumption | omega) only [WP_go, cd, ↓reduceIte, Nat.reduceLT, Nat.reduceAdd, Nat.reduceSub, Nat.reduceMul, Nat.reduceEqDiff, WX_next, WX_call, WX_end, WX_none, xkt, xkn, xkc, xst, nb_, nbl_, nble_, decide_true, decide_false, Bool.and_true, Bool.true_and, Bool.and_false, Bool.false_and, Bool.not_true, Bool.not_false, Bool.true_or, Bool.false_or, cond_true, cond_false, List.getElem?_cons_zero, List.getElem?_cons_succ, List.getElem?_nil, List.set_cons_zero, List.set_cons_succ, List.length_cons, List.length_nil, xok, xtg, xcmp, xargs, xsum, xcat, xmn, xdp, xlo, xml, xmc, xrt, xrecv, xent, xmake, xec, xes, Nat.reduceLeDiff, Int.reduceAdd, Int.reduceToNat, Int.reduceLE, xz_cast, xz_cast0, xz_cast1, Bool.false_eq_true, not_false_eq_true, not_true_eq_false, and_true, true_and, and_self, true_or, or_true, WP_sw0, WP_swT, WP_swF, WX_ifT, WX_ifF, WX_ifN, Int32.reduceOfInt, Int.reduceNeg, List.replicate, Nat.zero_add, Nat.lt_irrefl, Option.toList, List.cons_append, List.nil_append, WK_ret, ↓q_m1d, ↓q_m2d, q_lit, q_ofN, q_cl, q_add, q_sub, q_m1, pk_mul, q_ltT, q_ltF, q_leN, q_eqT, q_eqF, q_n1lt, q_ltn1, q_len1, q_n1le, q_eqn1, q_n1eq, xin_nI, decide_eq_true_eq, Bool.not_eq_true', decide_eq_false_iff_not, up3_s, up3_t, up3_n, up3_k, up3_e, cd_92, cd_92, @WC_in 92, xo_iconst, xo_lconst, xo_iload, xo_lload, xo_aload, xo_istore, xo_astore, xo_iinc, xo_iadd, xo_isub, xo_imul, xo_iand, xo_idiv, xo_irem, xo_land, xo_lor, xo_lshl, xo_lshr, xo_lushr, xo_i2l, xo_l2i, xo_lcmp, xo_dup, xo_dup2, xo_pop, xo_goto, xo_icmp, xo_if, xo_switch, xo_getf, xo_puti, xo_putz, xo_putr, xo_iald, xo_bald, xo_lald, xo_aald, xo_iast, xo_bast, xo_last, xo_aast, xo_alen, xo_new, xo_newa, xo_throw, xo_call, xo_objinit, xo_abs, xo_max, xo_ret, hR, c5, c60, c61]
    refine lp_upL (fun d lv M => ∃ σ' z12, lv = mkL r G a be ((l.take k').flatMap f ++ (f cc).take d).length (64 * (r + 1) + 4 * G) Lq q k' (some (.inl (nI cc))) (some (.inl (nI d))) z12 ∧ M = (σ', g, ρ, k, L, c, w) ∧ FrP (fun t _ => t = K) σ σ' ∧ (∀ y, (y < B ∨ B + 4 ≤ y) → σ' K 0 y = σ K 0 y) ∧ (∀ d', d' < ((l.take k').flatMap f ++ (f cc).take d).length → σ' K 0 (B + d') = nI (((l.take k').flatMap f ++ (f cc).take d).getD d' 0))) (f cc).length ?_ ?_ 0 _ _ (by omega) ⟨σ1, z12, by rw [List.take_zero, List.append_nil], rfl, F1, A1, by rw [List.take_zero, List.append_nil]; exact B1⟩
    · rintro d _ _ hd ⟨σ2, z12, rfl, rfl, F2, A2, B2⟩ ih2
      obtain ⟨d5, d60, d61, S2⟩ := KEEP σ2 F2 A2
      have s35 := S2.2.1 cc hc
      have s34 := S2.2.2.1 cc d hc hd
      have hlen : ((l.take k').flatMap f ++ (f cc).take d).length = ((l.take k').flatMap f).length + d := by
        rw [List.length_append, List.length_take, Nat.min_eq_left (by omega)]
      have hnext : (l.take k').flatMap f ++ (f cc).take (d + 1) = ((l.take k').flatMap f ++ (f cc).take d) ++ [(f cc).getD d 0] := by rw [take_s hd, List.append_assoc]
      generalize hZ : (l.take k').flatMap f ++ (f cc).take d = Z at *
      have hZ4 : Z.length < 4 := by omega
      have ih3 : ∀ z12, WP 92 118 (mkL r G a be (Z.length + 1) (64 * (r + 1) + 4 * G) Lq q k' (some (.inl (nI cc))) (some (.inl (nI (d + 1)))) z12) [] (up3 σ2 K 0 (B + Z.length) (nI ((f cc).getD d 0)), g, ρ, k, L, c, w) Q := by
        intro z12
        refine ih2 _ _ ⟨_, z12, by rw [hnext, List.length_append]; rfl, rfl, F2.up rfl, fun y hy => ?_, fun d' hd' => ?_⟩
        · rw [up3_k (by omega)]; exact A2 y hy
        · rw [hnext, List.length_append] at hd'
          have hd' : d' < Z.length + 1 := hd'
          rw [hnext, getD_app]
          by_cases e : d' < Z.length
          · rw [if_pos e, up3_k (by omega)]; exact B2 d' e
          · rw [if_neg e, if_pos (by omega), up3_e (by omega)]
      unfold mkL at ih3 ⊢
      rw [WP_force]
      rcases hK with ⟨hk1, rfl, rfl⟩ | ⟨hk1, rfl, rfl, hL2⟩
      · rcases hk1 with rfl | rfl
        · simp +decide (discharger := first | decide | assumption | omega) only [WP_go, cd, ↓reduceIte, Nat.reduceLT, Nat.reduceAdd, Nat.reduceSub, Nat.reduceMul, Nat.reduceEqDiff, WX_next, WX_call, WX_end, WX_none, xkt, xkn, xkc, xst, nb_, nbl_, nble_, decide_true, decide_false, Bool.and_true, Bool.true_and, Bool.and_false, Bool.false_and, Bool.not_true, Bool.not_false, Bool.true_or, Bool.false_or, cond_true, cond_false, List.getElem?_cons_zero, List.getElem?_cons_succ, List.getElem?_nil, List.set_cons_zero, List.set_cons_succ, List.length_cons, List.length_nil, xok, xtg, xcmp, xargs, xsum, xcat, xmn, xdp, xlo, xml, xmc, xrt, xrecv, xent, xmake, xec, xes, Nat.reduceLeDiff, Int.reduceAdd, Int.reduceToNat, Int.reduceLE, xz_cast, xz_cast0, xz_cast1, Bool.false_eq_true, not_false_eq_true, not_true_eq_false, and_true, true_and, and_self, true_or, or_true, WP_sw0, WP_swT, WP_swF, WX_ifT, WX_ifF, WX_ifN, Int32.reduceOfInt, Int.reduceNeg, List.replicate, Nat.zero_add, Nat.lt_irrefl, Option.toList, List.cons_append, List.nil_append, WK_ret, ↓q_m1d, ↓q_m2d, q_lit, q_ofN, q_cl, q_add, q_sub, q_m1, pk_mul, q_ltT, q_ltF, q_leN, q_eqT, q_eqF, q_n1lt, q_ltn1, q_len1, q_n1le, q_eqn1, q_n1eq, xin_nI, decide_eq_true_eq, Bool.not_eq_true', decide_eq_false_iff_not, up3_s, up3_t, up3_n, up3_k, up3_e, cd_92, cd_92, @WC_in 92, cd_79, @WC_in 79, xo_iconst, xo_lconst, xo_iload, xo_lload, xo_aload, xo_istore, xo_astore, xo_iinc, xo_iadd, xo_isub, xo_imul, xo_iand, xo_idiv, xo_irem, xo_land, xo_lor, xo_lshl, xo_lshr, xo_lushr, xo_i2l, xo_l2i, xo_lcmp, xo_dup, xo_dup2, xo_pop, xo_goto, xo_icmp, xo_if, xo_switch, xo_getf, xo_puti, xo_putz, xo_putr, xo_iald, xo_bald, xo_lald, xo_aald, xo_iast, xo_bast, xo_last, xo_aast, xo_alen, xo_new, xo_newa, xo_throw, xo_call, xo_objinit, xo_abs, xo_max, xo_ret, hR, d5, s35, s34]
          exact ih3 _
        · simp +decide (discharger := first | decide | assumption | omega) only [WP_go, cd, ↓reduceIte, Nat.reduceLT, Nat.reduceAdd, Nat.reduceSub, Nat.reduceMul, Nat.reduceEqDiff, WX_next, WX_call, WX_end, WX_none, xkt, xkn, xkc, xst, nb_, nbl_, nble_, decide_true, decide_false, Bool.and_true, Bool.true_and, Bool.and_false, Bool.false_and, Bool.not_true, Bool.not_false, Bool.true_or, Bool.false_or, cond_true, cond_false, List.getElem?_cons_zero, List.getElem?_cons_succ, List.getElem?_nil, List.set_cons_zero, List.set_cons_succ, List.length_cons, List.length_nil, xok, xtg, xcmp, xargs, xsum, xcat, xmn, xdp, xlo, xml, xmc, xrt, xrecv, xent, xmake, xec, xes, Nat.reduceLeDiff, Int.reduceAdd, Int.reduceToNat, Int.reduceLE, xz_cast, xz_cast0, xz_cast1, Bool.false_eq_true, not_false_eq_true, not_true_eq_false, and_true, true_and, and_self, true_or, or_true, WP_sw0, WP_swT, WP_swF, WX_ifT, WX_ifF, WX_ifN, Int32.reduceOfInt, Int.reduceNeg, List.replicate, Nat.zero_add, Nat.lt_irrefl, Option.toList, List.cons_append, List.nil_append, WK_ret, ↓q_m1d, ↓q_m2d, q_lit, q_ofN, q_cl, q_add, q_sub, q_m1, pk_mul, q_ltT, q_ltF, q_leN, q_eqT, q_eqF, q_n1lt, q_ltn1, q_len1, q_n1le, q_eqn1, q_n1eq, xin_nI, decide_eq_true_eq, Bool.not_eq_true', decide_eq_false_iff_not, up3_s, up3_t, up3_n, up3_k, up3_e, cd_92, cd_92, @WC_in 92, cd_79, @WC_in 79, xo_iconst, xo_lconst, xo_iload, xo_lload, xo_aload, xo_istore, xo_astore, xo_iinc, xo_iadd, xo_isub, xo_imul, xo_iand, xo_idiv, xo_irem, xo_land, xo_lor, xo_lshl, xo_lshr, xo_lushr, xo_i2l, xo_l2i, xo_lcmp, xo_dup, xo_dup2, xo_pop, xo_goto, xo_icmp, xo_if, xo_switch, xo_getf, xo_puti, xo_putz, xo_putr, xo_iald, xo_bald, xo_lald, xo_aald, xo_iast, xo_bast, xo_last, xo_aast, xo_alen, xo_new, xo_newa, xo_throw, xo_call, xo_objinit, xo_abs, xo_max, xo_ret, hR, d5, s35, s34]
          exact ih3 _
      · simp +decide (discharger := first | decide | assumption | omega) only [WP_go, cd, ↓reduceIte, Nat.reduceLT, Nat.reduceAdd, Nat.reduceSub, Nat.reduceMul, Nat.reduceEqDiff, WX_next, WX_call, WX_end, WX_none, xkt, xkn, xkc, xst, nb_, nbl_, nble_, decide_true, decide_false, Bool.and_true, Bool.true_and, Bool.and_false, Bool.false_and, Bool.not_true, Bool.not_false, Bool.true_or, Bool.false_or, cond_true, cond_false, List.getElem?_cons_zero, List.getElem?_cons_succ, List.getElem?_nil, List.set_cons_zero, List.set_cons_succ, List.length_cons, List.length_nil, xok, xtg, xcmp, xargs, xsum, xcat, xmn, xdp, xlo, xml, xmc, xrt, xrecv, xent, xmake, xec, xes, Nat.reduceLeDiff, Int.reduceAdd, Int.reduceToNat, Int.reduceLE, xz_cast, xz_cast0, xz_cast1, Bool.false_eq_true, not_false_eq_true, not_true_eq_false, and_true, true_and, and_self, true_or, or_true, WP_sw0, WP_swT, WP_swF, WX_ifT, WX_ifF, WX_ifN, Int32.reduceOfInt, Int.reduceNeg, List.replicate, Nat.zero_add, Nat.lt_irrefl, Option.toList, List.cons_append, List.nil_append, WK_ret, ↓q_m1d, ↓q_m2d, q_lit, q_ofN, q_cl, q_add, q_sub, q_m1, pk_mul, q_ltT, q_ltF, q_leN, q_eqT, q_eqF, q_n1lt, q_ltn1, q_len1, q_n1le, q_eqn1, q_n1eq, xin_nI, decide_eq_true_eq, Bool.not_eq_true', decide_eq_false_iff_not, up3_s, up3_t, up3_n, up3_k, up3_e, cd_92, cd_92, @WC_in 92, cd_79, @WC_in 79, xo_iconst, xo_lconst, xo_iload, xo_lload, xo_aload, xo_istore, xo_astore, xo_iinc, xo_iadd, xo_isub, xo_imul, xo_iand, xo_idiv, xo_irem, xo_land, xo_lor, xo_lshl, xo_lshr, xo_lushr, xo_i2l, xo_l2i, xo_lcmp, xo_dup, xo_dup2, xo_pop, xo_goto, xo_icmp, xo_if, xo_switch, xo_getf, xo_puti, xo_putz, xo_putr, xo_iald, xo_bald, xo_lald, xo_aald, xo_iast, xo_bast, xo_last, xo_aast, xo_alen, xo_new, xo_newa, xo_throw, xo_call, xo_objinit, xo_abs, xo_max, xo_ret, hR, d5, s35, s34]
        exact ih3 _
    · rintro _ _ ⟨σ2, z12, rfl, rfl, F2, A2, B2⟩
      obtain ⟨d5, d60, d61, S2⟩ := KEEP σ2 F2 A2
      have s35 := S2.2.1 cc hc
      have hnext : (l.take (k' + 1)).flatMap f = (l.take k').flatMap f ++ (f cc).take (f cc).length := by
        rw [take_s hk, List.flatMap_append, List.take_length, hcc]; simp
      rw [← hnext] at B2 ⊢
      have ih := ih _ _ ⟨σ2, some (.inl (nI cc)), some (.inl (nI (f cc).length)), z12, rfl, rfl, F2, A2, B2⟩
      unfold mkL at ih ⊢
      rw [WP_force]
      simp +decide (discharger := first | decide | assumption | omega) only [WP_go, cd, ↓reduceIte, Nat.reduceLT, Nat.reduceAdd, Nat.reduceSub, Nat.reduceMul, Nat.reduceEqDiff, WX_next, WX_call, WX_end, WX_none, xkt, xkn, xkc, xst, nb_, nbl_, nble_, decide_true, decide_false, Bool.and_true, Bool.true_and, Bool.and_false, Bool.false_and, Bool.not_true, Bool.not_false, Bool.true_or, Bool.false_or, cond_true, cond_false, List.getElem?_cons_zero, List.getElem?_cons_succ, List.getElem?_nil, List.set_cons_zero, List.set_cons_succ, List.length_cons, List.length_nil, xok, xtg, xcmp, xargs, xsum, xcat, xmn, xdp, xlo, xml, xmc, xrt, xrecv, xent, xmake, xec, xes, Nat.reduceLeDiff, Int.reduceAdd, Int.reduceToNat, Int.reduceLE, xz_cast, xz_cast0, xz_cast1, Bool.false_eq_true, not_false_eq_true, not_true_eq_false, and_true, true_and, and_self, true_or, or_true, WP_sw0, WP_swT, WP_swF, WX_ifT, WX_ifF, WX_ifN, Int32.reduceOfInt, Int.reduceNeg, List.replicate, Nat.zero_add, Nat.lt_irrefl, Option.toList, List.cons_append, List.nil_append, WK_ret, ↓q_m1d, ↓q_m2d, q_lit, q_ofN, q_cl, q_add, q_sub, q_m1, pk_mul, q_ltT, q_ltF, q_leN, q_eqT, q_eqF, q_n1lt, q_ltn1, q_len1, q_n1le, q_eqn1, q_n1eq, xin_nI, decide_eq_true_eq, Bool.not_eq_true', decide_eq_false_iff_not, up3_s, up3_t, up3_n, up3_k, up3_e, cd_92, cd_92, @WC_in 92, cd_79, @WC_in 79, xo_iconst, xo_lconst, xo_iload, xo_lload, xo_aload, xo_istore, xo_astore, xo_iinc, xo_iadd, xo_isub, xo_imul, xo_iand, xo_idiv, xo_irem, xo_land, xo_lor, xo_lshl, xo_lshr, xo_lushr, xo_i2l, xo_l2i, xo_lcmp, xo_dup, xo_dup2, xo_pop, xo_goto, xo_icmp, xo_if, xo_switch, xo_getf, xo_puti, xo_putz, xo_putr, xo_iald, xo_bald, xo_lald, xo_aald, xo_iast, xo_bast, xo_last, xo_aast, xo_alen, xo_new, xo_newa, xo_throw, xo_call, xo_objinit, xo_abs, xo_max, xo_ret, hR, d5, s35]
      exact ih
  · rintro _ _ ⟨σ1, z10, z11, z12, rfl, rfl, F1, A1, B1⟩
    rw [List.take_length] at B1 ⊢
    exact fin σ1 _ _ _ F1 A1 B1
/-- a column's stack by the reference -/
def CS (R : Nat) (σ : Nat → Nat → Nat → Int32) (c : Nat) (l : List Nat) : Prop := σ 35 0 (16 * R + c) = nI l.length ∧ ∀ d, d < l.length → σ 34 0 (64 * R + 4 * c + d) = nI (l.getD d 0)
abbrev Pk (t _ : Nat) : Prop := t = 34 ∨ t = 35 ∨ t = 36 ∨ t = 38 ∨ (44 ≤ t ∧ t ≤ 50)
/-- what a step of the reference leaves alone -/
abbrev KF (r G Lq : Nat) (σ σ' : Nat → Nat → Nat → Int32) : Prop := FrP Pk σ σ' ∧ (∀ y, (y < 64 * (r + 1) + 4 * G ∨ 64 * (r + 1) + 4 * G + 4 ≤ y) → σ' 34 0 y = σ 34 0 y) ∧ (∀ y, y ≠ 16 * (r + 1) + G → σ' 35 0 y = σ 35 0 y) ∧ (∀ y, y ≠ 16 * (r + 1) + G → σ' 36 0 y = σ 36 0 y) ∧ (∀ y, y ≠ r + 1 → σ' 38 0 y = σ 38 0 y) ∧ (∀ y, y < 4 * Lq → σ' 44 0 y = σ 44 0 y) ∧ (∀ t y, 45 ≤ t → t ≤ 50 → y < Lq → σ' t 0 y = σ t 0 y)
theorem r_make {σ : Nat → Nat → Nat → Int32} {g : Nat → Nat → Nat → Int64} {ρ : Nat → Nat → Nat → Option XR} {k : Nat → Nat} {L c w : Nat} {Q : XO → XM → Prop} {T : Nat → Nat} {N r G Lq q lp : Nat} {f : Nat → List Nat} {bd : Nat → Nat} (hR : RC ρ) (hr : r < 20) (hV : VT T N) (hf : ft T N ≤ 16) (hg : fg T N ≤ 16) (hG : G < fg T N) (hL : Lq ≤ 300) (hL2 : pK T N G = true → Lq < 300) (hS : BR r (ft T N) lp f σ) (hov : fsb (ovb T (fun j => (f j).length)) N = none) (h5 : σ 2 0 5 = nI r) (hRG : RG T N σ G) (hB : ∀ j, j < ft T N → σ 36 0 (16 * r + j) = nI (bd j)) (h38 : σ 38 0 (r + 1) = nI Lq) (hQ0 : ∀ σ', pK T N G = false → KF r G Lq σ σ' → (∀ t, 44 ≤ t → t ≤ 50 → σ' t 0 = σ t 0) → σ' 36 0 (16 * (r + 1) + G) = nI (nbd T N bd G) → CS (r + 1) σ' G (msq T N f G) → σ' 38 0 (r + 1) = nI Lq → Q (.inl none) (σ', g, ρ, k, L, c, w)) (hQ1 : ∀ σ', pK T N G = true → KF r G Lq σ σ' → σ' 36 0 (16 * (r + 1) + G) = nI (nbd T N bd G) → CS (r + 1) σ' G (if sg T (idx (fg T) N G) = 116 then msq T N f G ++ [Lq] else [Lq]) → σ' 38 0 (r + 1) = nI (Lq + 1) → σ' 45 0 Lq = nI (if sg T (idx (fg T) N G) = 116 then [] else msq T N f G).length → (∀ d, d < (if sg T (idx (fg T) N G) = 116 then [] else msq T N f G).length → σ' 44 0 (4 * Lq + d) = nI ((if sg T (idx (fg T) N G) = 116 then [] else msq T N f G).getD d 0)) → σ' 46 0 Lq = nI (r + 1) → σ' 47 0 Lq = nI G → σ' 48 0 Lq = nI (nbd T N bd G) → σ' 49 0 Lq = nI q → σ' 50 0 Lq = nI 0 → Q (.inl none) (σ', g, ρ, k, L, c, w)) : WC 92 [.inr (.inr (some (2, 0))), .inl (nI G), .inl (nI q)] (σ, g, ρ, k, L, c, w) Q := by
  obtain ⟨s1, s2, s3⟩ := idx_ok (f := fg T) rfl hG
  have b0 := (hV _ s1).1
  obtain ⟨r59, r60, r61⟩ := hRG
  have hgv : 0 < gvn T (idx (fg T) N G) := by rw [fg_s] at s3; omega
  have n120 : sg T (idx (fg T) N G) ≠ 120 := by
    intro e
    unfold gvn gv at hgv
    rw [if_neg (by omega), if_pos e] at hgv
    omega
  have ml := msq_len hV hG hS.1 hov
  have hl3 : (src T N G).length ≤ 3 := sro_3 T _ _
  have hls : ∀ j, j ∈ src T N G → j < ft T N := fun j hj => ((src_mem hV hG).mp hj).1
  -- the source of a tuck or a miss is its first column
  have hkeep : sg T (idx (fg T) N G) = 116 ∨ sg T (idx (fg T) N G) = 109 → ft T (idx (fg T) N G) < ft T N ∧ σ 61 0 (3 * G) = nI (ft T (idx (fg T) N G)) := by
    intro hk
    have nc : ¬ cb T (idx (fg T) N G) := fun (u : sg T _ = 60 ∨ sg T _ = 62) => by omega
    have hs0 : src T N G = [ft T (idx (fg T) N G)] := by
      unfold src sro
      rw [if_neg nc, if_neg (by omega), if_neg (by omega), if_neg (by omega), if_neg (by omega)]
    refine ⟨hls _ (by rw [hs0]; simp), ?_⟩
    have := r61 0 (by rw [hs0]; simp)
    rw [hs0] at this
    exact this
  generalize ha : sg T (idx (fg T) N G) = a at *
  have hnb : nbd T N bd G = if a = 112 then 1 else if a = 116 ∨ a = 109 then bd (ft T (idx (fg T) N G)) else 0 := by
    unfold nbd bdn
    rw [ha]
  have KEY : WP 92 91 (mkL r G a (nbd T N bd G) 0 (64 * (r + 1) + 4 * G) Lq q 0 none none none) [] (σ, g, ρ, k, L, c, w) Q := by
    by_cases hk : a = 116 ∨ a = 109
    · refine r_mlp (K := 34) (B := 64 * (r + 1) + 4 * G) hR hr hf (by omega) b0 hL hS hls hl3 (by unfold msq at ml; omega) h5 r60 r61 (Or.inl ⟨hk, rfl, rfl⟩) (fun σ1 z10 z11 z12 F1 A1 B1 => ?_) _ _ _
      have em : (src T N G).flatMap f = msq T N f G := rfl
      rw [em] at B1 ⊢
      have c60 : σ1 60 0 G = nI (src T N G).length := (F1 _ _ _ (by omega)).trans r60
      unfold mkL
      rw [WP_force]
      rcases hk with rfl | rfl
      · have hp : pK T N G = true := by unfold pK; rw [ha]; decide
        have hL2 := hL2 hp
        rw [if_pos rfl] at ml hQ1
        simp +decide (discharger := first | decide | assumption | omega) only [WP_go, cd, ↓reduceIte, Nat.reduceLT, Nat.reduceAdd, Nat.reduceSub, Nat.reduceMul, Nat.reduceEqDiff, WX_next, WX_call, WX_end, WX_none, xkt, xkn, xkc, xst, nb_, nbl_, nble_, decide_true, decide_false, Bool.and_true, Bool.true_and, Bool.and_false, Bool.false_and, Bool.not_true, Bool.not_false, Bool.true_or, Bool.false_or, cond_true, cond_false, List.getElem?_cons_zero, List.getElem?_cons_succ, List.getElem?_nil, List.set_cons_zero, List.set_cons_succ, List.length_cons, List.length_nil, xok, xtg, xcmp, xargs, xsum, xcat, xmn, xdp, xlo, xml, xmc, xrt, xrecv, xent, xmake, xec, xes, Nat.reduceLeDiff, Int.reduceAdd, Int.reduceToNat, Int.reduceLE, xz_cast, xz_cast0, xz_cast1, Bool.false_eq_true, not_false_eq_true, not_true_eq_false, and_true, true_and, and_self, true_or, or_true, WP_sw0, WP_swT, WP_swF, WX_ifT, WX_ifF, WX_ifN, Int32.reduceOfInt, Int.reduceNeg, List.replicate, Nat.zero_add, Nat.lt_irrefl, Option.toList, List.cons_append, List.nil_append, WK_ret, ↓q_m1d, ↓q_m2d, q_lit, q_ofN, q_cl, q_add, q_sub, q_m1, pk_mul, q_ltT, q_ltF, q_leN, q_eqT, q_eqF, q_n1lt, q_ltn1, q_len1, q_n1le, q_eqn1, q_n1eq, xin_nI, decide_eq_true_eq, Bool.not_eq_true', decide_eq_false_iff_not, up3_s, up3_t, up3_n, up3_k, up3_e, cd_92, cd_92, @WC_in 92, xo_iconst, xo_lconst, xo_iload, xo_lload, xo_aload, xo_istore, xo_astore, xo_iinc, xo_iadd, xo_isub, xo_imul, xo_iand, xo_idiv, xo_irem, xo_land, xo_lor, xo_lshl, xo_lshr, xo_lushr, xo_i2l, xo_l2i, xo_lcmp, xo_dup, xo_dup2, xo_pop, xo_goto, xo_icmp, xo_if, xo_switch, xo_getf, xo_puti, xo_putz, xo_putr, xo_iald, xo_bald, xo_lald, xo_aald, xo_iast, xo_bast, xo_last, xo_aast, xo_alen, xo_new, xo_newa, xo_throw, xo_call, xo_objinit, xo_abs, xo_max, xo_ret, hR, c60]
        refine hQ1 _ hp ⟨?_, ?_, ?_, ?_, ?_, ?_, ?_⟩ (by simp +decide (discharger := first | decide | assumption | omega) only [up3_s, up3_t, up3_n, up3_k, up3_e]) ⟨?_, ?_⟩ (by simp +decide (discharger := first | decide | assumption | omega) only [up3_s, up3_t, up3_n, up3_k, up3_e]) (by simp +decide (discharger := first | decide | assumption | omega) only [up3_s, up3_t, up3_n, up3_k, up3_e]; rfl) (fun d hd => absurd hd (Nat.not_lt_zero d)) (by simp +decide (discharger := first | decide | assumption | omega) only [up3_s, up3_t, up3_n, up3_k, up3_e]) (by simp +decide (discharger := first | decide | assumption | omega) only [up3_s, up3_t, up3_n, up3_k, up3_e]) (by simp +decide (discharger := first | decide | assumption | omega) only [up3_s, up3_t, up3_n, up3_k, up3_e]) (by simp +decide (discharger := first | decide | assumption | omega) only [up3_s, up3_t, up3_n, up3_k, up3_e]) (by simp +decide (discharger := first | decide | assumption | omega) only [up3_s, up3_t, up3_n, up3_k, up3_e])
        · exact (((((((((((F1.mono (P' := Pk) (fun t m u => by omega)).up (by omega)).up (by omega)).up (by omega)).up (by omega)).up (by omega)).up (by omega)).up (by omega)).up (by omega)).up (by omega)).up (by omega))
        · intro y hy
          simp +decide (discharger := first | decide | assumption | omega) only [up3_s, up3_t, up3_n, up3_k, up3_e]; exact A1 y hy
        · intro y hy
          simp +decide (discharger := first | decide | assumption | omega) only [up3_s, up3_t, up3_n, up3_k, up3_e]; exact F1 _ _ _ (by omega)
        · intro y hy
          simp +decide (discharger := first | decide | assumption | omega) only [up3_s, up3_t, up3_n, up3_k, up3_e]; exact F1 _ _ _ (by omega)
        · intro y hy
          simp +decide (discharger := first | decide | assumption | omega) only [up3_s, up3_t, up3_n, up3_k, up3_e]; exact F1 _ _ _ (by omega)
        · intro y hy
          simp +decide (discharger := first | decide | assumption | omega) only [up3_s, up3_t, up3_n, up3_k, up3_e]; exact F1 _ _ _ (by omega)
        · intro t y t1 t2 hy
          have : t = 45 ∨ t = 46 ∨ t = 47 ∨ t = 48 ∨ t = 49 ∨ t = 50 := by omega
          rcases this with rfl | rfl | rfl | rfl | rfl | rfl <;> simp +decide (discharger := first | decide | assumption | omega) only [up3_s, up3_t, up3_n, up3_k, up3_e] <;> exact F1 _ _ _ (by omega)
        · rw [List.length_append]; simp +decide (discharger := first | decide | assumption | omega) only [up3_s, up3_t, up3_n, up3_k, up3_e]; rfl
        · intro d hd
          rw [List.length_append] at hd
          have hd : d < (msq T N f G).length + 1 := hd
          rw [getD_app]
          by_cases e : d < (msq T N f G).length
          · rw [if_pos e]; simp +decide (discharger := first | decide | assumption | omega) only [up3_s, up3_t, up3_n, up3_k, up3_e]; exact B1 d e
          · rw [if_neg e, if_pos (by omega)]; simp +decide (discharger := first | decide | assumption | omega) only [up3_s, up3_t, up3_n, up3_k, up3_e]
      · have hp : pK T N G = false := by unfold pK; rw [ha]; decide
        simp +decide (discharger := first | decide | assumption | omega) only [WP_go, cd, ↓reduceIte, Nat.reduceLT, Nat.reduceAdd, Nat.reduceSub, Nat.reduceMul, Nat.reduceEqDiff, WX_next, WX_call, WX_end, WX_none, xkt, xkn, xkc, xst, nb_, nbl_, nble_, decide_true, decide_false, Bool.and_true, Bool.true_and, Bool.and_false, Bool.false_and, Bool.not_true, Bool.not_false, Bool.true_or, Bool.false_or, cond_true, cond_false, List.getElem?_cons_zero, List.getElem?_cons_succ, List.getElem?_nil, List.set_cons_zero, List.set_cons_succ, List.length_cons, List.length_nil, xok, xtg, xcmp, xargs, xsum, xcat, xmn, xdp, xlo, xml, xmc, xrt, xrecv, xent, xmake, xec, xes, Nat.reduceLeDiff, Int.reduceAdd, Int.reduceToNat, Int.reduceLE, xz_cast, xz_cast0, xz_cast1, Bool.false_eq_true, not_false_eq_true, not_true_eq_false, and_true, true_and, and_self, true_or, or_true, WP_sw0, WP_swT, WP_swF, WX_ifT, WX_ifF, WX_ifN, Int32.reduceOfInt, Int.reduceNeg, List.replicate, Nat.zero_add, Nat.lt_irrefl, Option.toList, List.cons_append, List.nil_append, WK_ret, ↓q_m1d, ↓q_m2d, q_lit, q_ofN, q_cl, q_add, q_sub, q_m1, pk_mul, q_ltT, q_ltF, q_leN, q_eqT, q_eqF, q_n1lt, q_ltn1, q_len1, q_n1le, q_eqn1, q_n1eq, xin_nI, decide_eq_true_eq, Bool.not_eq_true', decide_eq_false_iff_not, up3_s, up3_t, up3_n, up3_k, up3_e, cd_92, cd_92, @WC_in 92, xo_iconst, xo_lconst, xo_iload, xo_lload, xo_aload, xo_istore, xo_astore, xo_iinc, xo_iadd, xo_isub, xo_imul, xo_iand, xo_idiv, xo_irem, xo_land, xo_lor, xo_lshl, xo_lshr, xo_lushr, xo_i2l, xo_l2i, xo_lcmp, xo_dup, xo_dup2, xo_pop, xo_goto, xo_icmp, xo_if, xo_switch, xo_getf, xo_puti, xo_putz, xo_putr, xo_iald, xo_bald, xo_lald, xo_aald, xo_iast, xo_bast, xo_last, xo_aast, xo_alen, xo_new, xo_newa, xo_throw, xo_call, xo_objinit, xo_abs, xo_max, xo_ret, hR, c60]
        refine hQ0 _ hp ⟨?_, ?_, ?_, ?_, ?_, ?_, ?_⟩ ?_ (by simp +decide (discharger := first | decide | assumption | omega) only [up3_s, up3_t, up3_n, up3_k, up3_e]) ⟨?_, ?_⟩ ?_
        · exact (((F1.mono (P' := Pk) (fun t m u => by omega)).up (by omega)).up (by omega))
        · intro y hy
          simp +decide (discharger := first | decide | assumption | omega) only [up3_s, up3_t, up3_n, up3_k, up3_e]; exact A1 y hy
        · intro y hy
          simp +decide (discharger := first | decide | assumption | omega) only [up3_s, up3_t, up3_n, up3_k, up3_e]; exact F1 _ _ _ (by omega)
        · intro y hy
          simp +decide (discharger := first | decide | assumption | omega) only [up3_s, up3_t, up3_n, up3_k, up3_e]; exact F1 _ _ _ (by omega)
        · intro y hy
          simp +decide (discharger := first | decide | assumption | omega) only [up3_s, up3_t, up3_n, up3_k, up3_e]; exact F1 _ _ _ (by omega)
        · intro y hy
          simp +decide (discharger := first | decide | assumption | omega) only [up3_s, up3_t, up3_n, up3_k, up3_e]; exact F1 _ _ _ (by omega)
        · intro t y t1 t2 hy
          simp +decide (discharger := first | decide | assumption | omega) only [up3_s, up3_t, up3_n, up3_k, up3_e]; exact F1 _ _ _ (by omega)
        · intro t t1 t2
          funext y
          simp +decide (discharger := first | decide | assumption | omega) only [up3_s, up3_t, up3_n, up3_k, up3_e]; exact F1 _ _ _ (by omega)
        · simp +decide (discharger := first | decide | assumption | omega) only [up3_s, up3_t, up3_n, up3_k, up3_e]
        · intro d hd
          simp +decide (discharger := first | decide | assumption | omega) only [up3_s, up3_t, up3_n, up3_k, up3_e]; exact B1 d hd
        · simp +decide (discharger := first | decide | assumption | omega) only [up3_s, up3_t, up3_n, up3_k, up3_e]; exact (F1 _ _ _ (by omega)).trans h38
    · have hp : pK T N G = true := by unfold pK; rw [ha, decide_eq_false (by omega)]; rfl
      have hL2 := hL2 hp
      have h116 : ¬ a = 116 := fun e => hk (Or.inl e)
      rw [if_neg h116] at ml hQ1
      refine r_mlp (K := 44) (B := 4 * Lq) hR hr hf (by omega) b0 hL hS hls hl3 (by unfold msq at ml; omega) h5 r60 r61 (Or.inr ⟨hk, rfl, rfl, hL2⟩) (fun σ1 z10 z11 z12 F1 A1 B1 => ?_) _ _ _
      have em : (src T N G).flatMap f = msq T N f G := rfl
      rw [em] at B1 ⊢
      have c60 : σ1 60 0 G = nI (src T N G).length := (F1 _ _ _ (by omega)).trans r60
      unfold mkL
      rw [WP_force]
      simp +decide (discharger := first | decide | assumption | omega) only [WP_go, cd, ↓reduceIte, Nat.reduceLT, Nat.reduceAdd, Nat.reduceSub, Nat.reduceMul, Nat.reduceEqDiff, WX_next, WX_call, WX_end, WX_none, xkt, xkn, xkc, xst, nb_, nbl_, nble_, decide_true, decide_false, Bool.and_true, Bool.true_and, Bool.and_false, Bool.false_and, Bool.not_true, Bool.not_false, Bool.true_or, Bool.false_or, cond_true, cond_false, List.getElem?_cons_zero, List.getElem?_cons_succ, List.getElem?_nil, List.set_cons_zero, List.set_cons_succ, List.length_cons, List.length_nil, xok, xtg, xcmp, xargs, xsum, xcat, xmn, xdp, xlo, xml, xmc, xrt, xrecv, xent, xmake, xec, xes, Nat.reduceLeDiff, Int.reduceAdd, Int.reduceToNat, Int.reduceLE, xz_cast, xz_cast0, xz_cast1, Bool.false_eq_true, not_false_eq_true, not_true_eq_false, and_true, true_and, and_self, true_or, or_true, WP_sw0, WP_swT, WP_swF, WX_ifT, WX_ifF, WX_ifN, Int32.reduceOfInt, Int.reduceNeg, List.replicate, Nat.zero_add, Nat.lt_irrefl, Option.toList, List.cons_append, List.nil_append, WK_ret, ↓q_m1d, ↓q_m2d, q_lit, q_ofN, q_cl, q_add, q_sub, q_m1, pk_mul, q_ltT, q_ltF, q_leN, q_eqT, q_eqF, q_n1lt, q_ltn1, q_len1, q_n1le, q_eqn1, q_n1eq, xin_nI, decide_eq_true_eq, Bool.not_eq_true', decide_eq_false_iff_not, up3_s, up3_t, up3_n, up3_k, up3_e, cd_92, cd_92, @WC_in 92, xo_iconst, xo_lconst, xo_iload, xo_lload, xo_aload, xo_istore, xo_astore, xo_iinc, xo_iadd, xo_isub, xo_imul, xo_iand, xo_idiv, xo_irem, xo_land, xo_lor, xo_lshl, xo_lshr, xo_lushr, xo_i2l, xo_l2i, xo_lcmp, xo_dup, xo_dup2, xo_pop, xo_goto, xo_icmp, xo_if, xo_switch, xo_getf, xo_puti, xo_putz, xo_putr, xo_iald, xo_bald, xo_lald, xo_aald, xo_iast, xo_bast, xo_last, xo_aast, xo_alen, xo_new, xo_newa, xo_throw, xo_call, xo_objinit, xo_abs, xo_max, xo_ret, hR, c60]
      refine hQ1 _ hp ⟨?_, ?_, ?_, ?_, ?_, ?_, ?_⟩ (by simp +decide (discharger := first | decide | assumption | omega) only [up3_s, up3_t, up3_n, up3_k, up3_e]) ⟨?_, ?_⟩ (by simp +decide (discharger := first | decide | assumption | omega) only [up3_s, up3_t, up3_n, up3_k, up3_e]) (by simp +decide (discharger := first | decide | assumption | omega) only [up3_s, up3_t, up3_n, up3_k, up3_e]; rw [if_neg h116]) (fun d hd => ?_) (by simp +decide (discharger := first | decide | assumption | omega) only [up3_s, up3_t, up3_n, up3_k, up3_e]) (by simp +decide (discharger := first | decide | assumption | omega) only [up3_s, up3_t, up3_n, up3_k, up3_e]) (by simp +decide (discharger := first | decide | assumption | omega) only [up3_s, up3_t, up3_n, up3_k, up3_e]) (by simp +decide (discharger := first | decide | assumption | omega) only [up3_s, up3_t, up3_n, up3_k, up3_e]) (by simp +decide (discharger := first | decide | assumption | omega) only [up3_s, up3_t, up3_n, up3_k, up3_e])
      · exact (((((((((((F1.mono (P' := Pk) (fun t m u => by omega)).up (by omega)).up (by omega)).up (by omega)).up (by omega)).up (by omega)).up (by omega)).up (by omega)).up (by omega)).up (by omega)).up (by omega))
      · intro y hy
        simp +decide (discharger := first | decide | assumption | omega) only [up3_s, up3_t, up3_n, up3_k, up3_e]; exact F1 _ _ _ (by omega)
      · intro y hy
        simp +decide (discharger := first | decide | assumption | omega) only [up3_s, up3_t, up3_n, up3_k, up3_e]; exact F1 _ _ _ (by omega)
      · intro y hy
        simp +decide (discharger := first | decide | assumption | omega) only [up3_s, up3_t, up3_n, up3_k, up3_e]; exact F1 _ _ _ (by omega)
      · intro y hy
        simp +decide (discharger := first | decide | assumption | omega) only [up3_s, up3_t, up3_n, up3_k, up3_e]; exact F1 _ _ _ (by omega)
      · intro y hy
        simp +decide (discharger := first | decide | assumption | omega) only [up3_s, up3_t, up3_n, up3_k, up3_e]; exact A1 y (by omega)
      · intro t y t1 t2 hy
        have : t = 45 ∨ t = 46 ∨ t = 47 ∨ t = 48 ∨ t = 49 ∨ t = 50 := by omega
        rcases this with rfl | rfl | rfl | rfl | rfl | rfl <;> simp +decide (discharger := first | decide | assumption | omega) only [up3_s, up3_t, up3_n, up3_k, up3_e] <;> exact F1 _ _ _ (by omega)
      · simp +decide (discharger := first | decide | assumption | omega) only [up3_s, up3_t, up3_n, up3_k, up3_e]; rfl
      · intro d hd
        have hd : d < 1 := hd
        have : d = 0 := by omega
        subst this
        simp +decide (discharger := first | decide | assumption | omega) only [up3_s, up3_t, up3_n, up3_k, up3_e]; rfl
      · rw [if_neg h116] at hd ⊢
        simp +decide (discharger := first | decide | assumption | omega) only [up3_s, up3_t, up3_n, up3_k, up3_e]; exact B1 d hd
  by_cases h112 : a = 112
  · rw [if_pos h112] at hnb
    rw [hnb] at KEY
    rw [h112] at r59 KEY
    simp +decide (discharger := first | decide | assumption | omega) only [WP_go, cd, ↓reduceIte, Nat.reduceLT, Nat.reduceAdd, Nat.reduceSub, Nat.reduceMul, Nat.reduceEqDiff, WX_next, WX_call, WX_end, WX_none, xkt, xkn, xkc, xst, nb_, nbl_, nble_, decide_true, decide_false, Bool.and_true, Bool.true_and, Bool.and_false, Bool.false_and, Bool.not_true, Bool.not_false, Bool.true_or, Bool.false_or, cond_true, cond_false, List.getElem?_cons_zero, List.getElem?_cons_succ, List.getElem?_nil, List.set_cons_zero, List.set_cons_succ, List.length_cons, List.length_nil, xok, xtg, xcmp, xargs, xsum, xcat, xmn, xdp, xlo, xml, xmc, xrt, xrecv, xent, xmake, xec, xes, Nat.reduceLeDiff, Int.reduceAdd, Int.reduceToNat, Int.reduceLE, xz_cast, xz_cast0, xz_cast1, Bool.false_eq_true, not_false_eq_true, not_true_eq_false, and_true, true_and, and_self, true_or, or_true, WP_sw0, WP_swT, WP_swF, WX_ifT, WX_ifF, WX_ifN, Int32.reduceOfInt, Int.reduceNeg, List.replicate, Nat.zero_add, Nat.lt_irrefl, Option.toList, List.cons_append, List.nil_append, WK_ret, ↓q_m1d, ↓q_m2d, q_lit, q_ofN, q_cl, q_add, q_sub, q_m1, pk_mul, q_ltT, q_ltF, q_leN, q_eqT, q_eqF, q_n1lt, q_ltn1, q_len1, q_n1le, q_eqn1, q_n1eq, xin_nI, decide_eq_true_eq, Bool.not_eq_true', decide_eq_false_iff_not, up3_s, up3_t, up3_n, up3_k, up3_e, cd_92, cd_92, @WC_in 92, xo_iconst, xo_lconst, xo_iload, xo_lload, xo_aload, xo_istore, xo_astore, xo_iinc, xo_iadd, xo_isub, xo_imul, xo_iand, xo_idiv, xo_irem, xo_land, xo_lor, xo_lshl, xo_lshr, xo_lushr, xo_i2l, xo_l2i, xo_lcmp, xo_dup, xo_dup2, xo_pop, xo_goto, xo_icmp, xo_if, xo_switch, xo_getf, xo_puti, xo_putz, xo_putr, xo_iald, xo_bald, xo_lald, xo_aald, xo_iast, xo_bast, xo_last, xo_aast, xo_alen, xo_new, xo_newa, xo_throw, xo_call, xo_objinit, xo_abs, xo_max, xo_ret, hR, h5, r59, h38]
    exact KEY
  rw [if_neg h112] at hnb
  by_cases hk : a = 116 ∨ a = 109
  · rw [if_pos hk] at hnb
    obtain ⟨u1, u2⟩ := hkeep hk
    have u3 := hB _ u1
    rw [hnb] at KEY
    rcases hk with hk | hk
    · rw [hk] at r59 KEY
      simp +decide (discharger := first | decide | assumption | omega) only [WP_go, cd, ↓reduceIte, Nat.reduceLT, Nat.reduceAdd, Nat.reduceSub, Nat.reduceMul, Nat.reduceEqDiff, WX_next, WX_call, WX_end, WX_none, xkt, xkn, xkc, xst, nb_, nbl_, nble_, decide_true, decide_false, Bool.and_true, Bool.true_and, Bool.and_false, Bool.false_and, Bool.not_true, Bool.not_false, Bool.true_or, Bool.false_or, cond_true, cond_false, List.getElem?_cons_zero, List.getElem?_cons_succ, List.getElem?_nil, List.set_cons_zero, List.set_cons_succ, List.length_cons, List.length_nil, xok, xtg, xcmp, xargs, xsum, xcat, xmn, xdp, xlo, xml, xmc, xrt, xrecv, xent, xmake, xec, xes, Nat.reduceLeDiff, Int.reduceAdd, Int.reduceToNat, Int.reduceLE, xz_cast, xz_cast0, xz_cast1, Bool.false_eq_true, not_false_eq_true, not_true_eq_false, and_true, true_and, and_self, true_or, or_true, WP_sw0, WP_swT, WP_swF, WX_ifT, WX_ifF, WX_ifN, Int32.reduceOfInt, Int.reduceNeg, List.replicate, Nat.zero_add, Nat.lt_irrefl, Option.toList, List.cons_append, List.nil_append, WK_ret, ↓q_m1d, ↓q_m2d, q_lit, q_ofN, q_cl, q_add, q_sub, q_m1, pk_mul, q_ltT, q_ltF, q_leN, q_eqT, q_eqF, q_n1lt, q_ltn1, q_len1, q_n1le, q_eqn1, q_n1eq, xin_nI, decide_eq_true_eq, Bool.not_eq_true', decide_eq_false_iff_not, up3_s, up3_t, up3_n, up3_k, up3_e, cd_92, cd_92, @WC_in 92, xo_iconst, xo_lconst, xo_iload, xo_lload, xo_aload, xo_istore, xo_astore, xo_iinc, xo_iadd, xo_isub, xo_imul, xo_iand, xo_idiv, xo_irem, xo_land, xo_lor, xo_lshl, xo_lshr, xo_lushr, xo_i2l, xo_l2i, xo_lcmp, xo_dup, xo_dup2, xo_pop, xo_goto, xo_icmp, xo_if, xo_switch, xo_getf, xo_puti, xo_putz, xo_putr, xo_iald, xo_bald, xo_lald, xo_aald, xo_iast, xo_bast, xo_last, xo_aast, xo_alen, xo_new, xo_newa, xo_throw, xo_call, xo_objinit, xo_abs, xo_max, xo_ret, hR, h5, r59, h38, u2, u3]
      exact KEY
    · rw [hk] at r59 KEY
      simp +decide (discharger := first | decide | assumption | omega) only [WP_go, cd, ↓reduceIte, Nat.reduceLT, Nat.reduceAdd, Nat.reduceSub, Nat.reduceMul, Nat.reduceEqDiff, WX_next, WX_call, WX_end, WX_none, xkt, xkn, xkc, xst, nb_, nbl_, nble_, decide_true, decide_false, Bool.and_true, Bool.true_and, Bool.and_false, Bool.false_and, Bool.not_true, Bool.not_false, Bool.true_or, Bool.false_or, cond_true, cond_false, List.getElem?_cons_zero, List.getElem?_cons_succ, List.getElem?_nil, List.set_cons_zero, List.set_cons_succ, List.length_cons, List.length_nil, xok, xtg, xcmp, xargs, xsum, xcat, xmn, xdp, xlo, xml, xmc, xrt, xrecv, xent, xmake, xec, xes, Nat.reduceLeDiff, Int.reduceAdd, Int.reduceToNat, Int.reduceLE, xz_cast, xz_cast0, xz_cast1, Bool.false_eq_true, not_false_eq_true, not_true_eq_false, and_true, true_and, and_self, true_or, or_true, WP_sw0, WP_swT, WP_swF, WX_ifT, WX_ifF, WX_ifN, Int32.reduceOfInt, Int.reduceNeg, List.replicate, Nat.zero_add, Nat.lt_irrefl, Option.toList, List.cons_append, List.nil_append, WK_ret, ↓q_m1d, ↓q_m2d, q_lit, q_ofN, q_cl, q_add, q_sub, q_m1, pk_mul, q_ltT, q_ltF, q_leN, q_eqT, q_eqF, q_n1lt, q_ltn1, q_len1, q_n1le, q_eqn1, q_n1eq, xin_nI, decide_eq_true_eq, Bool.not_eq_true', decide_eq_false_iff_not, up3_s, up3_t, up3_n, up3_k, up3_e, cd_92, cd_92, @WC_in 92, xo_iconst, xo_lconst, xo_iload, xo_lload, xo_aload, xo_istore, xo_astore, xo_iinc, xo_iadd, xo_isub, xo_imul, xo_iand, xo_idiv, xo_irem, xo_land, xo_lor, xo_lshl, xo_lshr, xo_lushr, xo_i2l, xo_l2i, xo_lcmp, xo_dup, xo_dup2, xo_pop, xo_goto, xo_icmp, xo_if, xo_switch, xo_getf, xo_puti, xo_putz, xo_putr, xo_iald, xo_bald, xo_lald, xo_aald, xo_iast, xo_bast, xo_last, xo_aast, xo_alen, xo_new, xo_newa, xo_throw, xo_call, xo_objinit, xo_abs, xo_max, xo_ret, hR, h5, r59, h38, u2, u3]
      exact KEY
  · rw [if_neg hk] at hnb
    rw [hnb] at KEY
    simp +decide (discharger := first | decide | assumption | omega) only [WP_go, cd, ↓reduceIte, Nat.reduceLT, Nat.reduceAdd, Nat.reduceSub, Nat.reduceMul, Nat.reduceEqDiff, WX_next, WX_call, WX_end, WX_none, xkt, xkn, xkc, xst, nb_, nbl_, nble_, decide_true, decide_false, Bool.and_true, Bool.true_and, Bool.and_false, Bool.false_and, Bool.not_true, Bool.not_false, Bool.true_or, Bool.false_or, cond_true, cond_false, List.getElem?_cons_zero, List.getElem?_cons_succ, List.getElem?_nil, List.set_cons_zero, List.set_cons_succ, List.length_cons, List.length_nil, xok, xtg, xcmp, xargs, xsum, xcat, xmn, xdp, xlo, xml, xmc, xrt, xrecv, xent, xmake, xec, xes, Nat.reduceLeDiff, Int.reduceAdd, Int.reduceToNat, Int.reduceLE, xz_cast, xz_cast0, xz_cast1, Bool.false_eq_true, not_false_eq_true, not_true_eq_false, and_true, true_and, and_self, true_or, or_true, WP_sw0, WP_swT, WP_swF, WX_ifT, WX_ifF, WX_ifN, Int32.reduceOfInt, Int.reduceNeg, List.replicate, Nat.zero_add, Nat.lt_irrefl, Option.toList, List.cons_append, List.nil_append, WK_ret, ↓q_m1d, ↓q_m2d, q_lit, q_ofN, q_cl, q_add, q_sub, q_m1, pk_mul, q_ltT, q_ltF, q_leN, q_eqT, q_eqF, q_n1lt, q_ltn1, q_len1, q_n1le, q_eqn1, q_n1eq, xin_nI, decide_eq_true_eq, Bool.not_eq_true', decide_eq_false_iff_not, up3_s, up3_t, up3_n, up3_k, up3_e, cd_92, cd_92, @WC_in 92, xo_iconst, xo_lconst, xo_iload, xo_lload, xo_aload, xo_istore, xo_astore, xo_iinc, xo_iadd, xo_isub, xo_imul, xo_iand, xo_idiv, xo_irem, xo_land, xo_lor, xo_lshl, xo_lshr, xo_lushr, xo_i2l, xo_l2i, xo_lcmp, xo_dup, xo_dup2, xo_pop, xo_goto, xo_icmp, xo_if, xo_switch, xo_getf, xo_puti, xo_putz, xo_putr, xo_iald, xo_bald, xo_lald, xo_aald, xo_iast, xo_bast, xo_last, xo_aast, xo_alen, xo_new, xo_newa, xo_throw, xo_call, xo_objinit, xo_abs, xo_max, xo_ret, hR, h5, r59, h38]
    exact KEY
