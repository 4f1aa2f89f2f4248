/-! knit, by the class -/
def tS (S : ST) (v : Int32) : ST := (S.r, S.T, S.n, v, S.cN, S.st, S.bd, S.sd, S.lp, S.dr, S.pg, S.tx, S.ln, S.lo, S.pa, S.di)
def kR (S : ST) (q : Nat) : Nat × Int32 := match rdr S.T S.n S.n 0 0 with
  | (_, some b) => (1, nI b)
  | (N, none) => if S.n = 0 then (1, nI 0) else if ft S.T N ≠ S.cN S.r then (2, neg1) else if fg S.T N < 1 ∨ 16 < fg S.T N then (3, neg1) else match aOv S.T (fun j => (S.st S.r j).length) N with
    | some b => (4, nI b)
    | none => match aFar S.T N with
      | some b => (5, nI b)
      | none => if S.sd S.r q = nI (S.r % 2) then (6, neg1) else if S.r = 20 then (7, neg1) else if 300 < S.lp S.r + md S.T N then (8, neg1) else (0, neg1)
def kS (S : ST) (q : Nat) : ST := if (kR S q).1 = 0 then nS S (rdr S.T S.n S.n 0 0).1 q else tS S (kR S q).2
theorem tS_xr {S : ST} {v : Int32} : ∀ {i : Nat}, (tS S v).xr i = S.xr i
  | 0 => rfl
  | i + 1 => by
    show (tS S v).xr i + cbn (S.tx (i + 1)) (S.N (i + 1)) = S.xr i + cbn (S.tx (i + 1)) (S.N (i + 1))
    rw [tS_xr]
theorem CI_fr {S : ST} {σ σ' : Nat → Nat → Nat → Int32} {v : Int32} (h : CI S σ) (h6 : σ' 1 0 6 = σ 1 0 6) (h7 : σ' 1 0 7 = v) (h41 : σ' 4 0 1 = σ 4 0 1) (hh : ∀ t n k, (t = 10 ∨ t = 11 ∨ (19 ≤ t ∧ t ≤ 32)) → σ' t n k = σ t n k) : CI (tS S v) σ' := by
  obtain ⟨C1, C2, C3, C4, C5, C6, C7, C8, C9, C10, C11, C12, C13, C14, C15, C16, C17, C18, C19, C20, C21, C22, C23, C24⟩ := h
  refine ⟨h6.trans C1, h7, fun k hk => (hh _ _ _ (by omega)).trans (C3 k hk), h41.trans C4, fun i hi => (hh _ _ _ (by omega)).trans (C5 i hi), fun i j hi hj => (hh _ _ _ (by omega)).trans (C6 i j hi hj), fun i j d hi hj hd => (hh _ _ _ (by omega)).trans (C7 i j d hi hj hd), fun i j hi hj => (hh _ _ _ (by omega)).trans (C8 i j hi hj), fun i j hi hj => (hh _ _ _ (by omega)).trans (C9 i j hi hj), fun i hi => (hh _ _ _ (by omega)).trans (C10 i hi), fun i hi => (hh _ _ _ (by omega)).trans (C11 i hi), fun i hi => by rw [tS_xr]; exact (hh _ _ _ (by omega)).trans (C12 i hi), fun i i1 hi => (hh _ _ _ (by omega)).trans (C13 i i1 hi), fun i i1 hi => (hh _ _ _ (by omega)).trans (C14 i i1 hi), fun i i1 hi => (hh _ _ _ (by omega)).trans (C15 i i1 hi), fun i i1 hi => (hh _ _ _ (by omega)).trans (C16 i i1 hi), fun i i1 hi => (hh _ _ _ (by omega)).trans (C17 i i1 hi), fun x hx => (hh _ _ _ (by omega)).trans (C18 x hx), fun x hx => (hh _ _ _ (by omega)).trans (C19 x hx), fun x hx => (hh _ _ _ (by omega)).trans (C20 x hx), fun x hx => (hh _ _ _ (by omega)).trans (C21 x hx), fun x hx => (hh _ _ _ (by omega)).trans (C22 x hx), fun x j hx hj => (hh _ _ _ (by omega)).trans (C23 x j hx hj), fun i s hi hs hc => ?_⟩
  rw [tS_xr, hh _ _ _ (by omega), hh _ _ _ (by omega), hh _ _ _ (by omega), hh _ _ _ (by omega)]
  exact C24 i s hi hs hc
theorem CI_same {S : ST} {σ σ' : Nat → Nat → Nat → Int32} (h : CI S σ) (hh : ∀ t n k, t < 33 → t ≠ 2 → σ' t n k = σ t n k) : CI S σ' := CI_fr (v := S.told) h (hh _ _ _ (by omega) (by omega)) ((hh _ _ _ (by omega) (by omega)).trans h.2.1) (hh _ _ _ (by omega) (by omega)) (fun t n k ht => hh _ _ _ (by omega) (by omega))
theorem RI_fr {S : ST} {σ σ' : Nat → Nat → Nat → Int32} {v : Int32} (h : RI S σ) (h5 : σ' 2 0 5 = σ 2 0 5) (h3 : σ' 2 0 3 = v) (h2 : σ' 2 0 2 = σ 2 0 2) (h4 : σ' 2 0 4 = σ 2 0 4) (hh : ∀ t n k, (33 ≤ t ∧ t ≤ 50) → σ' t n k = σ t n k) : RI (tS S v) σ' := by
  obtain ⟨C1, C2, C3, C4, C5, C6, C7, C8, C9, C10, C11, C12, C13, C14, C15, C16, C17, C18, C19, C20, C21, C22⟩ := h
  exact ⟨h5.trans C1, h3, fun k hk => (hh _ _ _ (by omega)).trans (C3 k hk), h2.trans C4, h4.trans C5, fun i hi => (hh _ _ _ (by omega)).trans (C6 i hi), fun i j hi hj => (hh _ _ _ (by omega)).trans (C7 i j hi hj), fun i j d hi hj hd => (hh _ _ _ (by omega)).trans (C8 i j d hi hj hd), fun i j hi hj => (hh _ _ _ (by omega)).trans (C9 i j hi hj), fun i j hc hi hj => (hh _ _ _ (by omega)).trans (C10 i j hc hi hj), fun i hi => (hh _ _ _ (by omega)).trans (C11 i hi), fun i hi => (hh _ _ _ (by omega)).trans (C12 i hi), fun i j i1 hi hj => (hh _ _ _ (by omega)).trans (C13 i j i1 hi hj), fun i i1 hi => (hh _ _ _ (by omega)).trans (C14 i i1 hi), fun i j i1 hi hj => (hh _ _ _ (by omega)).trans (C15 i j i1 hi hj), fun x hx => (hh _ _ _ (by omega)).trans (C16 x hx), fun x hx => (hh _ _ _ (by omega)).trans (C17 x hx), fun x hx => (hh _ _ _ (by omega)).trans (C18 x hx), fun x hx => (hh _ _ _ (by omega)).trans (C19 x hx), fun x hx => (hh _ _ _ (by omega)).trans (C20 x hx), fun x j hx hj => (hh _ _ _ (by omega)).trans (C21 x j hx hj), fun x hx => (hh _ _ _ (by omega)).trans (C22 x hx)⟩
theorem RI_same {S : ST} {σ σ' : Nat → Nat → Nat → Int32} (h : RI S σ) (hh : ∀ t n k, 33 ≤ t → σ' t n k = σ t n k) (h2 : ∀ k, k ≠ 0 → σ' 2 0 k = σ 2 0 k) : RI S σ' := RI_fr (v := S.told) h (h2 _ (by decide)) ((h2 _ (by decide)).trans h.2.1) (h2 _ (by decide)) (h2 _ (by decide)) (fun t n k ht => hh _ _ _ (by omega))
theorem tS_PJ {S : ST} {v : Int32} (h : PJ S) : PJ (tS S v) := h
theorem rdr_b {T : Nat → Nat} {n N b : Nat} : ∀ {f p i : Nat}, rdr T n f p i = (N, some b) → b ≤ n + 1
  | 0, p, i, h => by cases h
  | f + 1, p, i, h => by
    unfold rdr at h
    by_cases a : n ≤ p
    · rw [if_pos a] at h; cases h
    rw [if_neg a] at h
    by_cases c : pl (T p)
    · rw [if_pos c] at h; exact rdr_b h
    rw [if_neg c] at h
    by_cases d : T p = 60 ∨ T p = 62
    · rw [if_pos d] at h
      by_cases e1 : nf T n (p + 1)
      · rw [if_pos e1] at h; cases h; omega
      rw [if_neg e1] at h
      by_cases e2 : nf T n (p + 2)
      · rw [if_pos e2] at h; cases h; omega
      rw [if_neg e2] at h; exact rdr_b h
    · rw [if_neg d] at h; cases h; omega
theorem ft_b {T : Nat → Nat} {N : Nat} (hV : VT T N) : ∀ {i : Nat}, i ≤ N → ft T i ≤ 8 * i
  | 0, _ => Nat.le_refl _
  | i + 1, h => by
    have h1 := ft_b hV (i := i) (by omega)
    have h2 := tkn_8 hV (s := i) (by omega)
    rw [ft_s]; omega
theorem gvn_8 {T : Nat → Nat} {N s : Nat} (hV : VT T N) (hs : s < N) : gvn T s ≤ 8 := by
  obtain ⟨v1, v2⟩ := hV s hs
  unfold gvn
  rcases v2 with v2 | ⟨v, -, v3, -, v5⟩
  · unfold gv
    rw [if_neg (pl_nc v2)]
    split <;> omega
  · rw [gv_c v]; omega
theorem fg_b {T : Nat → Nat} {N : Nat} (hV : VT T N) : ∀ {i : Nat}, i ≤ N → fg T i ≤ 8 * i
  | 0, _ => Nat.le_refl _
  | i + 1, h => by
    have h1 := fg_b hV (i := i) (by omega)
    have h2 := gvn_8 hV (s := i) (by omega)
    rw [fg_s]; omega
theorem md_b {T : Nat → Nat} : ∀ {i : Nat}, md T i ≤ fg T i
  | 0 => Nat.le_refl _
  | i + 1 => by
    have h1 := md_b (T := T) (i := i)
    rw [md_s, fg_s]
    split <;> omega
theorem aOv_b {T : Nat → Nat} {n N b : Nat} {sz : Nat → Nat} (h : rdr T n n 0 0 = (N, none)) (hb : aOv T sz N = some b) : b ≤ n := by
  unfold aOv at hb
  cases e : fsb (ovb T sz) N with
  | none => rw [e] at hb; cases hb
  | some s =>
    rw [e] at hb
    cases hb
    have key : ∀ m q, fsb (ovb T sz) m = some q → q < m := by
      intro m
      induction m with
      | zero => intro q h; cases h
      | succ m ih =>
        intro q h
        cases e : fsb (ovb T sz) m with
        | some q' => rw [fsb_mono e 1] at h; cases h; have := ih _ e; omega
        | none =>
          cases e2 : ovb T sz m with
          | true => rw [fsb_yes e e2 (Nat.lt_succ_self m)] at h; cases h; omega
          | false => rw [fsb_no e e2] at h; cases h
    have := ((rdr_ok0 h).2.2 s (key _ _ e)).2.1
    omega
theorem aFar_b {T : Nat → Nat} {n N b : Nat} (h : rdr T n n 0 0 = (N, none)) (hb : aFar T N = some b) : b ≤ n := by
  unfold aFar at hb
  cases e : fsb (pF T N) (ft T N) with
  | none => rw [e] at hb; cases hb
  | some s =>
    rw [e] at hb
    cases hb
    have key : ∀ m q, fsb (pF T N) m = some q → q < m := by
      intro m
      induction m with
      | zero => intro q h; cases h
      | succ m ih =>
        intro q h
        cases e : fsb (pF T N) m with
        | some q' => rw [fsb_mono e 1] at h; cases h; have := ih _ e; omega
        | none =>
          cases e2 : pF T N m with
          | true => rw [fsb_yes e e2 (Nat.lt_succ_self m)] at h; cases h; omega
          | false => rw [fsb_no e e2] at h; cases h
    have := ((rdr_ok0 h).2.2 _ (idx_ok (f := ft T) rfl (key _ _ e)).1).2.1
    omega
theorem c_knit {σ : Nat → Nat → Nat → Int32} {g : Nat → Nat → Nat → Int64} {ρ : Nat → Nat → Nat → Option XR} {k : Nat → Nat} {L c w : Nat} {Q : XO → XM → Prop} {S : ST} {x : Int32} (hR : RC ρ) (hC : CI S σ) (hP : PJ S) (hQ1 : S.cN 0 = 0 → Q (.inr 2) (σ, g, ρ, k, L, c + 1, w + 6)) (hQ2 : S.cN 0 ≠ 0 → (x < nI 0 ∨ ¬ x < nI 3) → Q (.inr 1) (σ, g, ρ, k, L, c + 1, w + 6)) (hQ3 : ∀ q σ' ρ', S.cN 0 ≠ 0 → q < 3 → x = nI q → RC ρ' → CI (kS S q) σ' → PJ (kS S q) → (∀ t n k, 33 ≤ t ∨ t = 0 → σ' t n k = σ t n k) → (∀ k, σ' 2 0 k = σ 2 0 k) → Q (.inl (some (.inl (nI (kR S q).1)))) (σ', g, ρ', k, L, c, w)) : WC 4 [.inr (.inr (some (1, 0))), .inl x] (σ, g, ρ, k, L, c, w) Q := by
  have b0 := hP.1
  have c00 := hC.2.2.2.2.1 0 (by omega)
  have b16 := hP.2.2.2.1 0 (by omega)
  by_cases h0 : S.cN 0 = 0
  · rw [h0] at c00
    simp +decide (discharger := first | decide | assumption | omega) only [WP_go, cd, ↓reduceIte, Nat.reduceLT, Nat.reduceAdd, Nat.reduceSub, Nat.reduceMul, Nat.reduceEqDiff, WX_next, WX_call, WX_end, WX_none, xkt, xkn, xkc, xst, nb_, nbl_, nble_, decide_true, decide_false, Bool.and_true, Bool.true_and, Bool.and_false, Bool.false_and, Bool.not_true, Bool.not_false, Bool.true_or, Bool.false_or, cond_true, cond_false, List.getElem?_cons_zero, List.getElem?_cons_succ, List.getElem?_nil, List.set_cons_zero, List.set_cons_succ, List.length_cons, List.length_nil, xok, xtg, xcmp, xargs, xsum, xcat, xmn, xdp, xlo, xml, xmc, xrt, xrecv, xent, xmake, xec, xes, Nat.reduceLeDiff, Int.reduceAdd, Int.reduceToNat, Int.reduceLE, xz_cast, xz_cast0, xz_cast1, Bool.false_eq_true, not_false_eq_true, not_true_eq_false, and_true, true_and, and_self, true_or, or_true, WP_sw0, WP_swT, WP_swF, WX_ifT, WX_ifF, WX_ifN, Int32.reduceOfInt, Int.reduceNeg, List.replicate, Nat.zero_add, Nat.lt_irrefl, Option.toList, List.cons_append, List.nil_append, WK_ret, ↓q_m1d, ↓q_m2d, q_lit, q_ofN, q_cl, q_add, q_sub, q_m1, pk_mul, q_ltT, q_ltF, q_leN, q_eqT, q_eqF, q_n1lt, q_ltn1, q_len1, q_n1le, q_eqn1, q_n1eq, xin_nI, decide_eq_true_eq, Bool.not_eq_true', decide_eq_false_iff_not, up3_s, up3_t, up3_n, up3_k, up3_e, cd_4, cd_4, @WC_in 4, xo_iconst, xo_lconst, xo_iload, xo_lload, xo_aload, xo_istore, xo_astore, xo_iinc, xo_iadd, xo_isub, xo_imul, xo_iand, xo_idiv, xo_irem, xo_land, xo_lor, xo_lshl, xo_lshr, xo_lushr, xo_i2l, xo_l2i, xo_lcmp, xo_dup, xo_dup2, xo_pop, xo_goto, xo_icmp, xo_if, xo_switch, xo_getf, xo_puti, xo_putz, xo_putr, xo_iald, xo_bald, xo_lald, xo_aald, xo_iast, xo_bast, xo_last, xo_aast, xo_alen, xo_new, xo_newa, xo_throw, xo_call, xo_objinit, xo_abs, xo_max, xo_ret, hR, c00]
    exact hQ1 h0
  have hQ2 := hQ2 h0
  rcases q_ix' x 3 (by omega) with h | ⟨h, h', h''⟩ | ⟨q, hq, rfl⟩
  · simp +decide (discharger := first | decide | assumption | omega) only [WP_go, cd, ↓reduceIte, Nat.reduceLT, Nat.reduceAdd, Nat.reduceSub, Nat.reduceMul, Nat.reduceEqDiff, WX_next, WX_call, WX_end, WX_none, xkt, xkn, xkc, xst, nb_, nbl_, nble_, decide_true, decide_false, Bool.and_true, Bool.true_and, Bool.and_false, Bool.false_and, Bool.not_true, Bool.not_false, Bool.true_or, Bool.false_or, cond_true, cond_false, List.getElem?_cons_zero, List.getElem?_cons_succ, List.getElem?_nil, List.set_cons_zero, List.set_cons_succ, List.length_cons, List.length_nil, xok, xtg, xcmp, xargs, xsum, xcat, xmn, xdp, xlo, xml, xmc, xrt, xrecv, xent, xmake, xec, xes, Nat.reduceLeDiff, Int.reduceAdd, Int.reduceToNat, Int.reduceLE, xz_cast, xz_cast0, xz_cast1, Bool.false_eq_true, not_false_eq_true, not_true_eq_false, and_true, true_and, and_self, true_or, or_true, WP_sw0, WP_swT, WP_swF, WX_ifT, WX_ifF, WX_ifN, Int32.reduceOfInt, Int.reduceNeg, List.replicate, Nat.zero_add, Nat.lt_irrefl, Option.toList, List.cons_append, List.nil_append, WK_ret, ↓q_m1d, ↓q_m2d, q_lit, q_ofN, q_cl, q_add, q_sub, q_m1, pk_mul, q_ltT, q_ltF, q_leN, q_eqT, q_eqF, q_n1lt, q_ltn1, q_len1, q_n1le, q_eqn1, q_n1eq, xin_nI, decide_eq_true_eq, Bool.not_eq_true', decide_eq_false_iff_not, up3_s, up3_t, up3_n, up3_k, up3_e, cd_4, cd_4, @WC_in 4, cd_17, @WC_in 17, xo_iconst, xo_lconst, xo_iload, xo_lload, xo_aload, xo_istore, xo_astore, xo_iinc, xo_iadd, xo_isub, xo_imul, xo_iand, xo_idiv, xo_irem, xo_land, xo_lor, xo_lshl, xo_lshr, xo_lushr, xo_i2l, xo_l2i, xo_lcmp, xo_dup, xo_dup2, xo_pop, xo_goto, xo_icmp, xo_if, xo_switch, xo_getf, xo_puti, xo_putz, xo_putr, xo_iald, xo_bald, xo_lald, xo_aald, xo_iast, xo_bast, xo_last, xo_aast, xo_alen, xo_new, xo_newa, xo_throw, xo_call, xo_objinit, xo_abs, xo_max, xo_ret, hR, c00]
    exact hQ2 (Or.inl h)
  · simp +decide (discharger := first | decide | assumption | omega) only [WP_go, cd, ↓reduceIte, Nat.reduceLT, Nat.reduceAdd, Nat.reduceSub, Nat.reduceMul, Nat.reduceEqDiff, WX_next, WX_call, WX_end, WX_none, xkt, xkn, xkc, xst, nb_, nbl_, nble_, decide_true, decide_false, Bool.and_true, Bool.true_and, Bool.and_false, Bool.false_and, Bool.not_true, Bool.not_false, Bool.true_or, Bool.false_or, cond_true, cond_false, List.getElem?_cons_zero, List.getElem?_cons_succ, List.getElem?_nil, List.set_cons_zero, List.set_cons_succ, List.length_cons, List.length_nil, xok, xtg, xcmp, xargs, xsum, xcat, xmn, xdp, xlo, xml, xmc, xrt, xrecv, xent, xmake, xec, xes, Nat.reduceLeDiff, Int.reduceAdd, Int.reduceToNat, Int.reduceLE, xz_cast, xz_cast0, xz_cast1, Bool.false_eq_true, not_false_eq_true, not_true_eq_false, and_true, true_and, and_self, true_or, or_true, WP_sw0, WP_swT, WP_swF, WX_ifT, WX_ifF, WX_ifN, Int32.reduceOfInt, Int.reduceNeg, List.replicate, Nat.zero_add, Nat.lt_irrefl, Option.toList, List.cons_append, List.nil_append, WK_ret, ↓q_m1d, ↓q_m2d, q_lit, q_ofN, q_cl, q_add, q_sub, q_m1, pk_mul, q_ltT, q_ltF, q_leN, q_eqT, q_eqF, q_n1lt, q_ltn1, q_len1, q_n1le, q_eqn1, q_n1eq, xin_nI, decide_eq_true_eq, Bool.not_eq_true', decide_eq_false_iff_not, up3_s, up3_t, up3_n, up3_k, up3_e, cd_4, cd_4, @WC_in 4, cd_17, @WC_in 17, xo_iconst, xo_lconst, xo_iload, xo_lload, xo_aload, xo_istore, xo_astore, xo_iinc, xo_iadd, xo_isub, xo_imul, xo_iand, xo_idiv, xo_irem, xo_land, xo_lor, xo_lshl, xo_lshr, xo_lushr, xo_i2l, xo_l2i, xo_lcmp, xo_dup, xo_dup2, xo_pop, xo_goto, xo_icmp, xo_if, xo_switch, xo_getf, xo_puti, xo_putz, xo_putr, xo_iald, xo_bald, xo_lald, xo_aald, xo_iast, xo_bast, xo_last, xo_aast, xo_alen, xo_new, xo_newa, xo_throw, xo_call, xo_objinit, xo_abs, xo_max, xo_ret, hR, c00]
    exact hQ2 (Or.inr h'')
  have hQ := fun σ' ρ' => hQ3 q σ' ρ' h0 hq rfl
  clear hQ1 hQ2 hQ3
  have C1 := hC.1
  have C5 := hC.2.2.2.2.1 S.r (Nat.le_refl _)
  have p4 := hP.2.2.2.1 S.r (Nat.le_refl _)
  have n40 := hP.2.1
  simp +decide (discharger := first | decide | assumption | omega) only [WP_go, cd, ↓reduceIte, Nat.reduceLT, Nat.reduceAdd, Nat.reduceSub, Nat.reduceMul, Nat.reduceEqDiff, WX_next, WX_call, WX_end, WX_none, xkt, xkn, xkc, xst, nb_, nbl_, nble_, decide_true, decide_false, Bool.and_true, Bool.true_and, Bool.and_false, Bool.false_and, Bool.not_true, Bool.not_false, Bool.true_or, Bool.false_or, cond_true, cond_false, List.getElem?_cons_zero, List.getElem?_cons_succ, List.getElem?_nil, List.set_cons_zero, List.set_cons_succ, List.length_cons, List.length_nil, xok, xtg, xcmp, xargs, xsum, xcat, xmn, xdp, xlo, xml, xmc, xrt, xrecv, xent, xmake, xec, xes, Nat.reduceLeDiff, Int.reduceAdd, Int.reduceToNat, Int.reduceLE, xz_cast, xz_cast0, xz_cast1, Bool.false_eq_true, not_false_eq_true, not_true_eq_false, and_true, true_and, and_self, true_or, or_true, WP_sw0, WP_swT, WP_swF, WX_ifT, WX_ifF, WX_ifN, Int32.reduceOfInt, Int.reduceNeg, List.replicate, Nat.zero_add, Nat.lt_irrefl, Option.toList, List.cons_append, List.nil_append, WK_ret, ↓q_m1d, ↓q_m2d, q_lit, q_ofN, q_cl, q_add, q_sub, q_m1, pk_mul, q_ltT, q_ltF, q_leN, q_eqT, q_eqF, q_n1lt, q_ltn1, q_len1, q_n1le, q_eqn1, q_n1eq, xin_nI, decide_eq_true_eq, Bool.not_eq_true', decide_eq_false_iff_not, up3_s, up3_t, up3_n, up3_k, up3_e, cd_4, cd_4, @WC_in 4, cd_17, @WC_in 17, cd_20, @WC_in 20, xo_iconst, xo_lconst, xo_iload, xo_lload, xo_aload, xo_istore, xo_astore, xo_iinc, xo_iadd, xo_isub, xo_imul, xo_iand, xo_idiv, xo_irem, xo_land, xo_lor, xo_lshl, xo_lshr, xo_lushr, xo_i2l, xo_l2i, xo_lcmp, xo_dup, xo_dup2, xo_pop, xo_goto, xo_icmp, xo_if, xo_switch, xo_getf, xo_puti, xo_putz, xo_putr, xo_iald, xo_bald, xo_lald, xo_aald, xo_iast, xo_bast, xo_last, xo_aast, xo_alen, xo_new, xo_newa, xo_throw, xo_call, xo_objinit, xo_abs, xo_max, xo_ret, hR, c00, C1]
  generalize hσ0 : up3 σ 1 0 7 neg1 = σ0
  have f0 : ∀ t n k, t ≠ 1 → σ0 t n k = σ t n k := fun t n k h => by rw [← hσ0]; exact up3_t h
  have a6 : σ0 1 0 6 = nI S.r := by rw [← hσ0, up3_k (by decide)]; exact C1
  have a7 : σ0 1 0 7 = neg1 := by rw [← hσ0]; exact up3_s
  clear hσ0
  refine c_read (T := S.T) (n := S.n) hR n40 hP.2.2.1 (fun k hk => (f0 _ _ _ (by decide)).trans (hC.2.2.1 k (by omega))) ((f0 _ _ _ (by decide)).trans hC.2.2.2.1) (fun N res σ1 hrd F1 g1 hres => ?_)
  have s6 : σ1 1 0 6 = nI S.r := (F1 _ _ _ (by decide)).trans a6
  have s7 : σ1 1 0 7 = neg1 := (F1 _ _ _ (by decide)).trans a7
  have f1 : ∀ t n k, t ≠ 1 → t ≠ 4 → t ≠ 13 → σ1 t n k = σ t n k := fun t n k a b d => (F1 _ _ _ (by omega)).trans (f0 _ _ _ a)
  have g41 : σ1 4 0 1 = σ 4 0 1 := g1.trans hC.2.2.2.1.symm
  -- a fault with a place, or without
  have FLT : ∀ code v σ' ρ', kR S q = (code, v) → code ≠ 0 → RC ρ' → σ' 1 0 6 = nI S.r → σ' 1 0 7 = v → σ' 4 0 1 = σ 4 0 1 → (∀ t n k, t ≠ 1 → t ≠ 4 → t ≠ 5 → t ≠ 13 → t ≠ 15 → t ≠ 16 → σ' t n k = σ t n k) → Q (.inl (some (.inl (nI code)))) (σ', g, ρ', k, L, c, w) := by
    intro code v σ' ρ' hk hc0 hR' h6 h7 h41 hh
    have := hQ σ' ρ' hR'
    unfold kS at this
    rw [hk] at this
    rw [if_neg hc0] at this
    exact this (CI_fr hC (h6.trans C1.symm) h7 h41 (fun t n k ht => hh _ _ _ (by omega) (by omega) (by omega) (by omega) (by omega) (by omega))) (tS_PJ hP) (fun t n k ht => hh _ _ _ (by omega) (by omega) (by omega) (by omega) (by omega) (by omega)) (fun k => hh _ _ _ (by omega) (by omega) (by omega) (by omega) (by omega) (by omega))
  cases res with
  | some b =>
    have hb := rdr_b hrd
    have hk : kR S q = (1, nI b) := by unfold kR; rw [hrd]
    dsimp only
    simp +decide (discharger := first | decide | assumption | omega) only [WP_go, cd, ↓reduceIte, Nat.reduceLT, Nat.reduceAdd, Nat.reduceSub, Nat.reduceMul, Nat.reduceEqDiff, WX_next, WX_call, WX_end, WX_none, xkt, xkn, xkc, xst, nb_, nbl_, nble_, decide_true, decide_false, Bool.and_true, Bool.true_and, Bool.and_false, Bool.false_and, Bool.not_true, Bool.not_false, Bool.true_or, Bool.false_or, cond_true, cond_false, List.getElem?_cons_zero, List.getElem?_cons_succ, List.getElem?_nil, List.set_cons_zero, List.set_cons_succ, List.length_cons, List.length_nil, xok, xtg, xcmp, xargs, xsum, xcat, xmn, xdp, xlo, xml, xmc, xrt, xrecv, xent, xmake, xec, xes, Nat.reduceLeDiff, Int.reduceAdd, Int.reduceToNat, Int.reduceLE, xz_cast, xz_cast0, xz_cast1, Bool.false_eq_true, not_false_eq_true, not_true_eq_false, and_true, true_and, and_self, true_or, or_true, WP_sw0, WP_swT, WP_swF, WX_ifT, WX_ifF, WX_ifN, Int32.reduceOfInt, Int.reduceNeg, List.replicate, Nat.zero_add, Nat.lt_irrefl, Option.toList, List.cons_append, List.nil_append, WK_ret, ↓q_m1d, ↓q_m2d, q_lit, q_ofN, q_cl, q_add, q_sub, q_m1, pk_mul, q_ltT, q_ltF, q_leN, q_eqT, q_eqF, q_n1lt, q_ltn1, q_len1, q_n1le, q_eqn1, q_n1eq, xin_nI, decide_eq_true_eq, Bool.not_eq_true', decide_eq_false_iff_not, up3_s, up3_t, up3_n, up3_k, up3_e, cd_20, cd_4, @WC_in 4, xo_iconst, xo_lconst, xo_iload, xo_lload, xo_aload, xo_istore, xo_astore, xo_iinc, xo_iadd, xo_isub, xo_imul, xo_iand, xo_idiv, xo_irem, xo_land, xo_lor, xo_lshl, xo_lshr, xo_lushr, xo_i2l, xo_l2i, xo_lcmp, xo_dup, xo_dup2, xo_pop, xo_goto, xo_icmp, xo_if, xo_switch, xo_getf, xo_puti, xo_putz, xo_putr, xo_iald, xo_bald, xo_lald, xo_aald, xo_iast, xo_bast, xo_last, xo_aast, xo_alen, xo_new, xo_newa, xo_throw, xo_call, xo_objinit, xo_abs, xo_max, xo_ret, hR]
    exact FLT 1 (nI b) _ _ hk (by decide) hR (by simp +decide (discharger := first | decide | assumption | omega) only [up3_s, up3_t, up3_n, up3_k, up3_e]; exact s6) (by simp +decide (discharger := first | decide | assumption | omega) only [up3_s, up3_t, up3_n, up3_k, up3_e]) (by simp +decide (discharger := first | decide | assumption | omega) only [up3_s, up3_t, up3_n, up3_k, up3_e]; exact g41) (fun t n k a1 a2 a3 a4 a5 a6 => by rw [up3_t a1]; exact f1 _ _ _ a1 a2 a4)
  | none =>
    obtain ⟨v3, v4, v5, v6, vE⟩ := hres rfl
    have hV : VT S.T N := VT_of hP.2.2.1 hrd
    have hN : N ≤ 40 := Nat.le_trans (rdr_N hrd) n40
    have bf := ft_b hV (Nat.le_refl N)
    have bg := fg_b hV (Nat.le_refl N)
    have c10 : σ1 10 S.r 0 = nI (S.cN S.r) := (f1 _ _ _ (by decide) (by decide) (by decide)).trans C5
    dsimp only
    by_cases hn0 : S.n = 0
    · have hk : kR S q = (1, nI 0) := by unfold kR; rw [hrd]; exact if_pos hn0
      rw [if_pos hn0]
      simp +decide (discharger := first | decide | assumption | omega) only [WP_go, cd, ↓reduceIte, Nat.reduceLT, Nat.reduceAdd, Nat.reduceSub, Nat.reduceMul, Nat.reduceEqDiff, WX_next, WX_call, WX_end, WX_none, xkt, xkn, xkc, xst, nb_, nbl_, nble_, decide_true, decide_false, Bool.and_true, Bool.true_and, Bool.and_false, Bool.false_and, Bool.not_true, Bool.not_false, Bool.true_or, Bool.false_or, cond_true, cond_false, List.getElem?_cons_zero, List.getElem?_cons_succ, List.getElem?_nil, List.set_cons_zero, List.set_cons_succ, List.length_cons, List.length_nil, xok, xtg, xcmp, xargs, xsum, xcat, xmn, xdp, xlo, xml, xmc, xrt, xrecv, xent, xmake, xec, xes, Nat.reduceLeDiff, Int.reduceAdd, Int.reduceToNat, Int.reduceLE, xz_cast, xz_cast0, xz_cast1, Bool.false_eq_true, not_false_eq_true, not_true_eq_false, and_true, true_and, and_self, true_or, or_true, WP_sw0, WP_swT, WP_swF, WX_ifT, WX_ifF, WX_ifN, Int32.reduceOfInt, Int.reduceNeg, List.replicate, Nat.zero_add, Nat.lt_irrefl, Option.toList, List.cons_append, List.nil_append, WK_ret, ↓q_m1d, ↓q_m2d, q_lit, q_ofN, q_cl, q_add, q_sub, q_m1, pk_mul, q_ltT, q_ltF, q_leN, q_eqT, q_eqF, q_n1lt, q_ltn1, q_len1, q_n1le, q_eqn1, q_n1eq, xin_nI, decide_eq_true_eq, Bool.not_eq_true', decide_eq_false_iff_not, up3_s, up3_t, up3_n, up3_k, up3_e, cd_20, cd_4, @WC_in 4, xo_iconst, xo_lconst, xo_iload, xo_lload, xo_aload, xo_istore, xo_astore, xo_iinc, xo_iadd, xo_isub, xo_imul, xo_iand, xo_idiv, xo_irem, xo_land, xo_lor, xo_lshl, xo_lshr, xo_lushr, xo_i2l, xo_l2i, xo_lcmp, xo_dup, xo_dup2, xo_pop, xo_goto, xo_icmp, xo_if, xo_switch, xo_getf, xo_puti, xo_putz, xo_putr, xo_iald, xo_bald, xo_lald, xo_aald, xo_iast, xo_bast, xo_last, xo_aast, xo_alen, xo_new, xo_newa, xo_throw, xo_call, xo_objinit, xo_abs, xo_max, xo_ret, hR]
      exact FLT 1 (nI 0) _ _ hk (by decide) hR (by simp +decide (discharger := first | decide | assumption | omega) only [up3_s, up3_t, up3_n, up3_k, up3_e]; exact s6) (by simp +decide (discharger := first | decide | assumption | omega) only [up3_s, up3_t, up3_n, up3_k, up3_e]) (by simp +decide (discharger := first | decide | assumption | omega) only [up3_s, up3_t, up3_n, up3_k, up3_e]; exact g41) (fun t n k a1 a2 a3 a4 a5 a6 => by rw [up3_t a1]; exact f1 _ _ _ a1 a2 a4)
    rw [if_neg hn0]
    by_cases e2 : ft S.T N ≠ S.cN S.r
    · have hk : kR S q = (2, neg1) := by unfold kR; rw [hrd]; exact (if_neg hn0).trans (if_pos e2)
      simp +decide (discharger := first | decide | assumption | omega) only [WP_go, cd, ↓reduceIte, Nat.reduceLT, Nat.reduceAdd, Nat.reduceSub, Nat.reduceMul, Nat.reduceEqDiff, WX_next, WX_call, WX_end, WX_none, xkt, xkn, xkc, xst, nb_, nbl_, nble_, decide_true, decide_false, Bool.and_true, Bool.true_and, Bool.and_false, Bool.false_and, Bool.not_true, Bool.not_false, Bool.true_or, Bool.false_or, cond_true, cond_false, List.getElem?_cons_zero, List.getElem?_cons_succ, List.getElem?_nil, List.set_cons_zero, List.set_cons_succ, List.length_cons, List.length_nil, xok, xtg, xcmp, xargs, xsum, xcat, xmn, xdp, xlo, xml, xmc, xrt, xrecv, xent, xmake, xec, xes, Nat.reduceLeDiff, Int.reduceAdd, Int.reduceToNat, Int.reduceLE, xz_cast, xz_cast0, xz_cast1, Bool.false_eq_true, not_false_eq_true, not_true_eq_false, and_true, true_and, and_self, true_or, or_true, WP_sw0, WP_swT, WP_swF, WX_ifT, WX_ifF, WX_ifN, Int32.reduceOfInt, Int.reduceNeg, List.replicate, Nat.zero_add, Nat.lt_irrefl, Option.toList, List.cons_append, List.nil_append, WK_ret, ↓q_m1d, ↓q_m2d, q_lit, q_ofN, q_cl, q_add, q_sub, q_m1, pk_mul, q_ltT, q_ltF, q_leN, q_eqT, q_eqF, q_n1lt, q_ltn1, q_len1, q_n1le, q_eqn1, q_n1eq, xin_nI, decide_eq_true_eq, Bool.not_eq_true', decide_eq_false_iff_not, up3_s, up3_t, up3_n, up3_k, up3_e, cd_20, cd_4, @WC_in 4, xo_iconst, xo_lconst, xo_iload, xo_lload, xo_aload, xo_istore, xo_astore, xo_iinc, xo_iadd, xo_isub, xo_imul, xo_iand, xo_idiv, xo_irem, xo_land, xo_lor, xo_lshl, xo_lshr, xo_lushr, xo_i2l, xo_l2i, xo_lcmp, xo_dup, xo_dup2, xo_pop, xo_goto, xo_icmp, xo_if, xo_switch, xo_getf, xo_puti, xo_putz, xo_putr, xo_iald, xo_bald, xo_lald, xo_aald, xo_iast, xo_bast, xo_last, xo_aast, xo_alen, xo_new, xo_newa, xo_throw, xo_call, xo_objinit, xo_abs, xo_max, xo_ret, hR, v4, c10]
      exact FLT 2 neg1 _ _ hk (by decide) hR s6 s7 g41 (fun t n k a1 a2 a3 a4 a5 a6 => f1 _ _ _ a1 a2 a4)
    have e2 : ft S.T N = S.cN S.r := by omega
    by_cases e3 : fg S.T N < 1 ∨ 16 < fg S.T N
    · have hk : kR S q = (3, neg1) := by unfold kR; rw [hrd]; exact (if_neg hn0).trans ((if_neg (fun u => u e2)).trans (if_pos e3))
      by_cases e4 : fg S.T N < 1
      · simp +decide (discharger := first | decide | assumption | omega) only [WP_go, cd, ↓reduceIte, Nat.reduceLT, Nat.reduceAdd, Nat.reduceSub, Nat.reduceMul, Nat.reduceEqDiff, WX_next, WX_call, WX_end, WX_none, xkt, xkn, xkc, xst, nb_, nbl_, nble_, decide_true, decide_false, Bool.and_true, Bool.true_and, Bool.and_false, Bool.false_and, Bool.not_true, Bool.not_false, Bool.true_or, Bool.false_or, cond_true, cond_false, List.getElem?_cons_zero, List.getElem?_cons_succ, List.getElem?_nil, List.set_cons_zero, List.set_cons_succ, List.length_cons, List.length_nil, xok, xtg, xcmp, xargs, xsum, xcat, xmn, xdp, xlo, xml, xmc, xrt, xrecv, xent, xmake, xec, xes, Nat.reduceLeDiff, Int.reduceAdd, Int.reduceToNat, Int.reduceLE, xz_cast, xz_cast0, xz_cast1, Bool.false_eq_true, not_false_eq_true, not_true_eq_false, and_true, true_and, and_self, true_or, or_true, WP_sw0, WP_swT, WP_swF, WX_ifT, WX_ifF, WX_ifN, Int32.reduceOfInt, Int.reduceNeg, List.replicate, Nat.zero_add, Nat.lt_irrefl, Option.toList, List.cons_append, List.nil_append, WK_ret, ↓q_m1d, ↓q_m2d, q_lit, q_ofN, q_cl, q_add, q_sub, q_m1, pk_mul, q_ltT, q_ltF, q_leN, q_eqT, q_eqF, q_n1lt, q_ltn1, q_len1, q_n1le, q_eqn1, q_n1eq, xin_nI, decide_eq_true_eq, Bool.not_eq_true', decide_eq_false_iff_not, up3_s, up3_t, up3_n, up3_k, up3_e, cd_20, cd_4, @WC_in 4, xo_iconst, xo_lconst, xo_iload, xo_lload, xo_aload, xo_istore, xo_astore, xo_iinc, xo_iadd, xo_isub, xo_imul, xo_iand, xo_idiv, xo_irem, xo_land, xo_lor, xo_lshl, xo_lshr, xo_lushr, xo_i2l, xo_l2i, xo_lcmp, xo_dup, xo_dup2, xo_pop, xo_goto, xo_icmp, xo_if, xo_switch, xo_getf, xo_puti, xo_putz, xo_putr, xo_iald, xo_bald, xo_lald, xo_aald, xo_iast, xo_bast, xo_last, xo_aast, xo_alen, xo_new, xo_newa, xo_throw, xo_call, xo_objinit, xo_abs, xo_max, xo_ret, hR, v4, c10, v5]
        exact FLT 3 neg1 _ _ hk (by decide) hR s6 s7 g41 (fun t n k a1 a2 a3 a4 a5 a6 => f1 _ _ _ a1 a2 a4)
      · simp +decide (discharger := first | decide | assumption | omega) only [WP_go, cd, ↓reduceIte, Nat.reduceLT, Nat.reduceAdd, Nat.reduceSub, Nat.reduceMul, Nat.reduceEqDiff, WX_next, WX_call, WX_end, WX_none, xkt, xkn, xkc, xst, nb_, nbl_, nble_, decide_true, decide_false, Bool.and_true, Bool.true_and, Bool.and_false, Bool.false_and, Bool.not_true, Bool.not_false, Bool.true_or, Bool.false_or, cond_true, cond_false, List.getElem?_cons_zero, List.getElem?_cons_succ, List.getElem?_nil, List.set_cons_zero, List.set_cons_succ, List.length_cons, List.length_nil, xok, xtg, xcmp, xargs, xsum, xcat, xmn, xdp, xlo, xml, xmc, xrt, xrecv, xent, xmake, xec, xes, Nat.reduceLeDiff, Int.reduceAdd, Int.reduceToNat, Int.reduceLE, xz_cast, xz_cast0, xz_cast1, Bool.false_eq_true, not_false_eq_true, not_true_eq_false, and_true, true_and, and_self, true_or, or_true, WP_sw0, WP_swT, WP_swF, WX_ifT, WX_ifF, WX_ifN, Int32.reduceOfInt, Int.reduceNeg, List.replicate, Nat.zero_add, Nat.lt_irrefl, Option.toList, List.cons_append, List.nil_append, WK_ret, ↓q_m1d, ↓q_m2d, q_lit, q_ofN, q_cl, q_add, q_sub, q_m1, pk_mul, q_ltT, q_ltF, q_leN, q_eqT, q_eqF, q_n1lt, q_ltn1, q_len1, q_n1le, q_eqn1, q_n1eq, xin_nI, decide_eq_true_eq, Bool.not_eq_true', decide_eq_false_iff_not, up3_s, up3_t, up3_n, up3_k, up3_e, cd_20, cd_4, @WC_in 4, xo_iconst, xo_lconst, xo_iload, xo_lload, xo_aload, xo_istore, xo_astore, xo_iinc, xo_iadd, xo_isub, xo_imul, xo_iand, xo_idiv, xo_irem, xo_land, xo_lor, xo_lshl, xo_lshr, xo_lushr, xo_i2l, xo_l2i, xo_lcmp, xo_dup, xo_dup2, xo_pop, xo_goto, xo_icmp, xo_if, xo_switch, xo_getf, xo_puti, xo_putz, xo_putr, xo_iald, xo_bald, xo_lald, xo_aald, xo_iast, xo_bast, xo_last, xo_aast, xo_alen, xo_new, xo_newa, xo_throw, xo_call, xo_objinit, xo_abs, xo_max, xo_ret, hR, v4, c10, v5]
        exact FLT 3 neg1 _ _ hk (by decide) hR s6 s7 g41 (fun t n k a1 a2 a3 a4 a5 a6 => f1 _ _ _ a1 a2 a4)
    have hf : ft S.T N ≤ 16 := by rw [e2]; exact p4
    have hg : fg S.T N ≤ 16 := by omega
    simp +decide (discharger := first | decide | assumption | omega) only [WP_go, cd, ↓reduceIte, Nat.reduceLT, Nat.reduceAdd, Nat.reduceSub, Nat.reduceMul, Nat.reduceEqDiff, WX_next, WX_call, WX_end, WX_none, xkt, xkn, xkc, xst, nb_, nbl_, nble_, decide_true, decide_false, Bool.and_true, Bool.true_and, Bool.and_false, Bool.false_and, Bool.not_true, Bool.not_false, Bool.true_or, Bool.false_or, cond_true, cond_false, List.getElem?_cons_zero, List.getElem?_cons_succ, List.getElem?_nil, List.set_cons_zero, List.set_cons_succ, List.length_cons, List.length_nil, xok, xtg, xcmp, xargs, xsum, xcat, xmn, xdp, xlo, xml, xmc, xrt, xrecv, xent, xmake, xec, xes, Nat.reduceLeDiff, Int.reduceAdd, Int.reduceToNat, Int.reduceLE, xz_cast, xz_cast0, xz_cast1, Bool.false_eq_true, not_false_eq_true, not_true_eq_false, and_true, true_and, and_self, true_or, or_true, WP_sw0, WP_swT, WP_swF, WX_ifT, WX_ifF, WX_ifN, Int32.reduceOfInt, Int.reduceNeg, List.replicate, Nat.zero_add, Nat.lt_irrefl, Option.toList, List.cons_append, List.nil_append, WK_ret, ↓q_m1d, ↓q_m2d, q_lit, q_ofN, q_cl, q_add, q_sub, q_m1, pk_mul, q_ltT, q_ltF, q_leN, q_eqT, q_eqF, q_n1lt, q_ltn1, q_len1, q_n1le, q_eqn1, q_n1eq, xin_nI, decide_eq_true_eq, Bool.not_eq_true', decide_eq_false_iff_not, up3_s, up3_t, up3_n, up3_k, up3_e, cd_20, cd_4, @WC_in 4, xo_iconst, xo_lconst, xo_iload, xo_lload, xo_aload, xo_istore, xo_astore, xo_iinc, xo_iadd, xo_isub, xo_imul, xo_iand, xo_idiv, xo_irem, xo_land, xo_lor, xo_lshl, xo_lshr, xo_lushr, xo_i2l, xo_l2i, xo_lcmp, xo_dup, xo_dup2, xo_pop, xo_goto, xo_icmp, xo_if, xo_switch, xo_getf, xo_puti, xo_putz, xo_putr, xo_iald, xo_bald, xo_lald, xo_aald, xo_iast, xo_bast, xo_last, xo_aast, xo_alen, xo_new, xo_newa, xo_throw, xo_call, xo_objinit, xo_abs, xo_max, xo_ret, hR, v4, c10, v5]
    refine c_make hR hV hN hf hg v3 v4 vE (fun σ2 ρ2 R2 F2 M2 => ?_)
    have f2 : ∀ t n k, t ≠ 1 → t ≠ 4 → t ≠ 5 → t ≠ 13 → t ≠ 15 → t ≠ 16 → σ2 t n k = σ t n k := fun t n k a1 a2 a3 a4 a5 a6 => (F2 _ _ _ (by omega)).trans (f1 _ _ _ a1 a2 a4)
    have t6 : σ2 1 0 6 = nI S.r := (F2 _ _ _ (by decide)).trans s6
    have t7 : σ2 1 0 7 = neg1 := (F2 _ _ _ (by decide)).trans s7
    have t41 : σ2 4 0 1 = σ 4 0 1 := (F2 _ _ _ (by decide)).trans g41
    have u3 : σ2 4 0 3 = nI N := (F2 _ _ _ (by decide)).trans v3
    have u5 : σ2 4 0 5 = nI (fg S.T N) := (F2 _ _ _ (by decide)).trans v5
    have u6 : σ2 4 0 6 = nI (md S.T N) := (F2 _ _ _ (by decide)).trans v6
    have uE : ∀ j, j < N → EC S.T σ2 j := fun j hj => EC_f (vE j hj) F2 (by omega)
    have C2 : CI (tS S neg1) σ2 := CI_fr hC (t6.trans C1.symm) t7 t41 (fun t n k ht => f2 _ _ _ (by omega) (by omega) (by omega) (by omega) (by omega) (by omega))
    have hS4 : ∀ j, j < ft S.T N → (S.st S.r j).length ≤ 4 := fun j hj => hP.2.2.2.2.1 S.r j (Nat.le_refl _) (by rw [← e2]; exact hj)
    have kr : kR S q = match aOv S.T (fun j => (S.st S.r j).length) N with
      | some b => (4, nI b)
      | none => match aFar S.T N with
        | some b => (5, nI b)
        | none => if S.sd S.r q = nI (S.r % 2) then (6, neg1) else if S.r = 20 then (7, neg1) else if 300 < S.lp S.r + md S.T N then (8, neg1) else (0, neg1) := by
      unfold kR; rw [hrd]
      exact (if_neg hn0).trans ((if_neg (fun u => u e2)).trans (if_neg e3))
    simp +decide (discharger := first | decide | assumption | omega) only [WP_go, cd, ↓reduceIte, Nat.reduceLT, Nat.reduceAdd, Nat.reduceSub, Nat.reduceMul, Nat.reduceEqDiff, WX_next, WX_call, WX_end, WX_none, xkt, xkn, xkc, xst, nb_, nbl_, nble_, decide_true, decide_false, Bool.and_true, Bool.true_and, Bool.and_false, Bool.false_and, Bool.not_true, Bool.not_false, Bool.true_or, Bool.false_or, cond_true, cond_false, List.getElem?_cons_zero, List.getElem?_cons_succ, List.getElem?_nil, List.set_cons_zero, List.set_cons_succ, List.length_cons, List.length_nil, xok, xtg, xcmp, xargs, xsum, xcat, xmn, xdp, xlo, xml, xmc, xrt, xrecv, xent, xmake, xec, xes, Nat.reduceLeDiff, Int.reduceAdd, Int.reduceToNat, Int.reduceLE, xz_cast, xz_cast0, xz_cast1, Bool.false_eq_true, not_false_eq_true, not_true_eq_false, and_true, true_and, and_self, true_or, or_true, WP_sw0, WP_swT, WP_swF, WX_ifT, WX_ifF, WX_ifN, Int32.reduceOfInt, Int.reduceNeg, List.replicate, Nat.zero_add, Nat.lt_irrefl, Option.toList, List.cons_append, List.nil_append, WK_ret, ↓q_m1d, ↓q_m2d, q_lit, q_ofN, q_cl, q_add, q_sub, q_m1, pk_mul, q_ltT, q_ltF, q_leN, q_eqT, q_eqF, q_n1lt, q_ltn1, q_len1, q_n1le, q_eqn1, q_n1eq, xin_nI, decide_eq_true_eq, Bool.not_eq_true', decide_eq_false_iff_not, up3_s, up3_t, up3_n, up3_k, up3_e, cd_20, cd_4, @WC_in 4, xo_iconst, xo_lconst, xo_iload, xo_lload, xo_aload, xo_istore, xo_astore, xo_iinc, xo_iadd, xo_isub, xo_imul, xo_iand, xo_idiv, xo_irem, xo_land, xo_lor, xo_lshl, xo_lshr, xo_lushr, xo_i2l, xo_l2i, xo_lcmp, xo_dup, xo_dup2, xo_pop, xo_goto, xo_icmp, xo_if, xo_switch, xo_getf, xo_puti, xo_putz, xo_putr, xo_iald, xo_bald, xo_lald, xo_aald, xo_iast, xo_bast, xo_last, xo_aast, xo_alen, xo_new, xo_newa, xo_throw, xo_call, xo_objinit, xo_abs, xo_max, xo_ret, R2]
    refine c_over (sz := fun j => (S.st S.r j).length) R2 b0 hV hN hf u3 uE (fun j hj => C2.2.2.2.2.2.1 S.r j (Nat.le_refl _) (by show j < S.cN S.r; rw [← e2]; exact hj)) hS4 ?_
    cases hov : aOv S.T (fun j => (S.st S.r j).length) N with
    | some b =>
      rw [hov] at kr
      have hb := aOv_b hrd hov
      show WK _ _ _ _ _ (.inl (some (.inl (nI b)))) _
      simp +decide (discharger := first | decide | assumption | omega) only [WP_go, cd, ↓reduceIte, Nat.reduceLT, Nat.reduceAdd, Nat.reduceSub, Nat.reduceMul, Nat.reduceEqDiff, WX_next, WX_call, WX_end, WX_none, xkt, xkn, xkc, xst, nb_, nbl_, nble_, decide_true, decide_false, Bool.and_true, Bool.true_and, Bool.and_false, Bool.false_and, Bool.not_true, Bool.not_false, Bool.true_or, Bool.false_or, cond_true, cond_false, List.getElem?_cons_zero, List.getElem?_cons_succ, List.getElem?_nil, List.set_cons_zero, List.set_cons_succ, List.length_cons, List.length_nil, xok, xtg, xcmp, xargs, xsum, xcat, xmn, xdp, xlo, xml, xmc, xrt, xrecv, xent, xmake, xec, xes, Nat.reduceLeDiff, Int.reduceAdd, Int.reduceToNat, Int.reduceLE, xz_cast, xz_cast0, xz_cast1, Bool.false_eq_true, not_false_eq_true, not_true_eq_false, and_true, true_and, and_self, true_or, or_true, WP_sw0, WP_swT, WP_swF, WX_ifT, WX_ifF, WX_ifN, Int32.reduceOfInt, Int.reduceNeg, List.replicate, Nat.zero_add, Nat.lt_irrefl, Option.toList, List.cons_append, List.nil_append, WK_ret, ↓q_m1d, ↓q_m2d, q_lit, q_ofN, q_cl, q_add, q_sub, q_m1, pk_mul, q_ltT, q_ltF, q_leN, q_eqT, q_eqF, q_n1lt, q_ltn1, q_len1, q_n1le, q_eqn1, q_n1eq, xin_nI, decide_eq_true_eq, Bool.not_eq_true', decide_eq_false_iff_not, up3_s, up3_t, up3_n, up3_k, up3_e, cd_20, cd_4, @WC_in 4, xo_iconst, xo_lconst, xo_iload, xo_lload, xo_aload, xo_istore, xo_astore, xo_iinc, xo_iadd, xo_isub, xo_imul, xo_iand, xo_idiv, xo_irem, xo_land, xo_lor, xo_lshl, xo_lshr, xo_lushr, xo_i2l, xo_l2i, xo_lcmp, xo_dup, xo_dup2, xo_pop, xo_goto, xo_icmp, xo_if, xo_switch, xo_getf, xo_puti, xo_putz, xo_putr, xo_iald, xo_bald, xo_lald, xo_aald, xo_iast, xo_bast, xo_last, xo_aast, xo_alen, xo_new, xo_newa, xo_throw, xo_call, xo_objinit, xo_abs, xo_max, xo_ret, R2]
      exact FLT 4 (nI b) _ _ kr (by decide) R2 (by simp +decide (discharger := first | decide | assumption | omega) only [up3_s, up3_t, up3_n, up3_k, up3_e]; exact t6) (by simp +decide (discharger := first | decide | assumption | omega) only [up3_s, up3_t, up3_n, up3_k, up3_e]) (by simp +decide (discharger := first | decide | assumption | omega) only [up3_s, up3_t, up3_n, up3_k, up3_e]; exact t41) (fun t n k a1 a2 a3 a4 a5 a6 => by rw [up3_t a1]; exact f2 _ _ _ a1 a2 a3 a4 a5 a6)
    | none =>
      rw [hov] at kr
      show WK _ _ _ _ _ (.inl (some (.inl neg1))) _
      simp +decide (discharger := first | decide | assumption | omega) only [WP_go, cd, ↓reduceIte, Nat.reduceLT, Nat.reduceAdd, Nat.reduceSub, Nat.reduceMul, Nat.reduceEqDiff, WX_next, WX_call, WX_end, WX_none, xkt, xkn, xkc, xst, nb_, nbl_, nble_, decide_true, decide_false, Bool.and_true, Bool.true_and, Bool.and_false, Bool.false_and, Bool.not_true, Bool.not_false, Bool.true_or, Bool.false_or, cond_true, cond_false, List.getElem?_cons_zero, List.getElem?_cons_succ, List.getElem?_nil, List.set_cons_zero, List.set_cons_succ, List.length_cons, List.length_nil, xok, xtg, xcmp, xargs, xsum, xcat, xmn, xdp, xlo, xml, xmc, xrt, xrecv, xent, xmake, xec, xes, Nat.reduceLeDiff, Int.reduceAdd, Int.reduceToNat, Int.reduceLE, xz_cast, xz_cast0, xz_cast1, Bool.false_eq_true, not_false_eq_true, not_true_eq_false, and_true, true_and, and_self, true_or, or_true, WP_sw0, WP_swT, WP_swF, WX_ifT, WX_ifF, WX_ifN, Int32.reduceOfInt, Int.reduceNeg, List.replicate, Nat.zero_add, Nat.lt_irrefl, Option.toList, List.cons_append, List.nil_append, WK_ret, ↓q_m1d, ↓q_m2d, q_lit, q_ofN, q_cl, q_add, q_sub, q_m1, pk_mul, q_ltT, q_ltF, q_leN, q_eqT, q_eqF, q_n1lt, q_ltn1, q_len1, q_n1le, q_eqn1, q_n1eq, xin_nI, decide_eq_true_eq, Bool.not_eq_true', decide_eq_false_iff_not, up3_s, up3_t, up3_n, up3_k, up3_e, cd_20, cd_4, @WC_in 4, xo_iconst, xo_lconst, xo_iload, xo_lload, xo_aload, xo_istore, xo_astore, xo_iinc, xo_iadd, xo_isub, xo_imul, xo_iand, xo_idiv, xo_irem, xo_land, xo_lor, xo_lshl, xo_lshr, xo_lushr, xo_i2l, xo_l2i, xo_lcmp, xo_dup, xo_dup2, xo_pop, xo_goto, xo_icmp, xo_if, xo_switch, xo_getf, xo_puti, xo_putz, xo_putr, xo_iald, xo_bald, xo_lald, xo_aald, xo_iast, xo_bast, xo_last, xo_aast, xo_alen, xo_new, xo_newa, xo_throw, xo_call, xo_objinit, xo_abs, xo_max, xo_ret, R2]
      have hbb : ∀ j, j < ft S.T N → S.bd S.r j ≤ 1 := fun j hj => hP.2.2.2.2.2.2.2.2.2.2.2.2.2.2.2.2.2.2 S.r j (Nat.le_refl _) (by rw [← e2]; exact hj)
      have hPB : PB S.T N S.r (S.bd S.r) σ2 ρ2 := ⟨R2, b0, hV, hf, hg, M2, uE, fun j hj => C2.2.2.2.2.2.2.2.1 S.r j (Nat.le_refl _) (by show j < S.cN S.r; rw [← e2]; exact hj), hbb⟩
      refine c_tooFar hPB hN ?_
      cases hfa : aFar S.T N with
      | some b =>
        rw [hfa] at kr
        have hb := aFar_b hrd hfa
        show WK _ _ _ _ _ (.inl (some (.inl (nI b)))) _
        simp +decide (discharger := first | decide | assumption | omega) only [WP_go, cd, ↓reduceIte, Nat.reduceLT, Nat.reduceAdd, Nat.reduceSub, Nat.reduceMul, Nat.reduceEqDiff, WX_next, WX_call, WX_end, WX_none, xkt, xkn, xkc, xst, nb_, nbl_, nble_, decide_true, decide_false, Bool.and_true, Bool.true_and, Bool.and_false, Bool.false_and, Bool.not_true, Bool.not_false, Bool.true_or, Bool.false_or, cond_true, cond_false, List.getElem?_cons_zero, List.getElem?_cons_succ, List.getElem?_nil, List.set_cons_zero, List.set_cons_succ, List.length_cons, List.length_nil, xok, xtg, xcmp, xargs, xsum, xcat, xmn, xdp, xlo, xml, xmc, xrt, xrecv, xent, xmake, xec, xes, Nat.reduceLeDiff, Int.reduceAdd, Int.reduceToNat, Int.reduceLE, xz_cast, xz_cast0, xz_cast1, Bool.false_eq_true, not_false_eq_true, not_true_eq_false, and_true, true_and, and_self, true_or, or_true, WP_sw0, WP_swT, WP_swF, WX_ifT, WX_ifF, WX_ifN, Int32.reduceOfInt, Int.reduceNeg, List.replicate, Nat.zero_add, Nat.lt_irrefl, Option.toList, List.cons_append, List.nil_append, WK_ret, ↓q_m1d, ↓q_m2d, q_lit, q_ofN, q_cl, q_add, q_sub, q_m1, pk_mul, q_ltT, q_ltF, q_leN, q_eqT, q_eqF, q_n1lt, q_ltn1, q_len1, q_n1le, q_eqn1, q_n1eq, xin_nI, decide_eq_true_eq, Bool.not_eq_true', decide_eq_false_iff_not, up3_s, up3_t, up3_n, up3_k, up3_e, cd_20, cd_4, @WC_in 4, xo_iconst, xo_lconst, xo_iload, xo_lload, xo_aload, xo_istore, xo_astore, xo_iinc, xo_iadd, xo_isub, xo_imul, xo_iand, xo_idiv, xo_irem, xo_land, xo_lor, xo_lshl, xo_lshr, xo_lushr, xo_i2l, xo_l2i, xo_lcmp, xo_dup, xo_dup2, xo_pop, xo_goto, xo_icmp, xo_if, xo_switch, xo_getf, xo_puti, xo_putz, xo_putr, xo_iald, xo_bald, xo_lald, xo_aald, xo_iast, xo_bast, xo_last, xo_aast, xo_alen, xo_new, xo_newa, xo_throw, xo_call, xo_objinit, xo_abs, xo_max, xo_ret, R2]
        exact FLT 5 (nI b) _ _ kr (by decide) R2 (by simp +decide (discharger := first | decide | assumption | omega) only [up3_s, up3_t, up3_n, up3_k, up3_e]; exact t6) (by simp +decide (discharger := first | decide | assumption | omega) only [up3_s, up3_t, up3_n, up3_k, up3_e]) (by simp +decide (discharger := first | decide | assumption | omega) only [up3_s, up3_t, up3_n, up3_k, up3_e]; exact t41) (fun t n k a1 a2 a3 a4 a5 a6 => by rw [up3_t a1]; exact f2 _ _ _ a1 a2 a3 a4 a5 a6)
      | none =>
        rw [hfa] at kr
        dsimp only at kr
        show WK _ _ _ _ _ (.inl (some (.inl neg1))) _
        have c22 : σ2 22 S.r q = S.sd S.r q := C2.2.2.2.2.2.2.2.2.1 S.r q (Nat.le_refl _) hq
        have c105 : σ2 10 S.r 5 = nI (S.lp S.r) := C2.2.2.2.2.2.2.2.2.2.1 S.r (Nat.le_refl _)
        have lpr := hP.2.2.2.2.2.1 S.r (Nat.le_refl _)
        have mdb := md_b (T := S.T) (i := N)
        have hrem : nI (S.r + 1) - nI (S.r + 1) / nI 2 * nI 2 = nI ((S.r + 1) % 2) := q_rem (by omega) (by omega) (by omega)
        have hm2 : (S.r + 1) % 2 < 2 := Nat.mod_lt _ (by omega)
        have FR := fun code (hk : kR S q = (code, neg1)) (hc : code ≠ 0) => FLT code neg1 σ2 ρ2 hk hc R2 t6 t7 t41 f2
        have NXT : ¬ S.sd S.r q = nI (S.r % 2) → ¬ S.r = 20 → ¬ 300 < S.lp S.r + md S.T N → WC 22 [.inr (.inr (some (1, 0))), .inl (nI q)] (σ2, g, ρ2, k, L, c, w) (WK 4 65 [some (.inr (.inr (some (1, 0)))), some (.inl (nI q)), some (.inl (nI 0))] [] Q) := by
          intro h6 h7 h8
          rw [if_neg h6, if_neg h7, if_neg h8] at kr
          have hov' : fsb (ovb S.T (fun j => (S.st S.r j).length)) N = none := by
            unfold aOv at hov
            cases e : fsb (ovb S.T (fun j => (S.st S.r j).length)) N with
            | none => rfl
            | some s => rw [e] at hov; cases hov
          have hK : KH S N := ⟨hrd, e2, by omega, hg, hov', by omega, by omega⟩
          refine c_next (S := tS S neg1) (N := N) R2 (tS_PJ hP) C2 hq rfl hK M2 uE u3 u5 u6 (fun x hx => nwh (S := tS S neg1) (tS_PJ hP) hK hx) (fun x hl b b' hx => nwb (S := tS S neg1) (tS_PJ hP) hK hl b b' hx) (fun σ3 C3 _ o3 o2 => ?_)
          simp +decide (discharger := first | decide | assumption | omega) only [WP_go, cd, ↓reduceIte, Nat.reduceLT, Nat.reduceAdd, Nat.reduceSub, Nat.reduceMul, Nat.reduceEqDiff, WX_next, WX_call, WX_end, WX_none, xkt, xkn, xkc, xst, nb_, nbl_, nble_, decide_true, decide_false, Bool.and_true, Bool.true_and, Bool.and_false, Bool.false_and, Bool.not_true, Bool.not_false, Bool.true_or, Bool.false_or, cond_true, cond_false, List.getElem?_cons_zero, List.getElem?_cons_succ, List.getElem?_nil, List.set_cons_zero, List.set_cons_succ, List.length_cons, List.length_nil, xok, xtg, xcmp, xargs, xsum, xcat, xmn, xdp, xlo, xml, xmc, xrt, xrecv, xent, xmake, xec, xes, Nat.reduceLeDiff, Int.reduceAdd, Int.reduceToNat, Int.reduceLE, xz_cast, xz_cast0, xz_cast1, Bool.false_eq_true, not_false_eq_true, not_true_eq_false, and_true, true_and, and_self, true_or, or_true, WP_sw0, WP_swT, WP_swF, WX_ifT, WX_ifF, WX_ifN, Int32.reduceOfInt, Int.reduceNeg, List.replicate, Nat.zero_add, Nat.lt_irrefl, Option.toList, List.cons_append, List.nil_append, WK_ret, ↓q_m1d, ↓q_m2d, q_lit, q_ofN, q_cl, q_add, q_sub, q_m1, pk_mul, q_ltT, q_ltF, q_leN, q_eqT, q_eqF, q_n1lt, q_ltn1, q_len1, q_n1le, q_eqn1, q_n1eq, xin_nI, decide_eq_true_eq, Bool.not_eq_true', decide_eq_false_iff_not, up3_s, up3_t, up3_n, up3_k, up3_e, cd_4, xo_iconst, xo_lconst, xo_iload, xo_lload, xo_aload, xo_istore, xo_astore, xo_iinc, xo_iadd, xo_isub, xo_imul, xo_iand, xo_idiv, xo_irem, xo_land, xo_lor, xo_lshl, xo_lshr, xo_lushr, xo_i2l, xo_l2i, xo_lcmp, xo_dup, xo_dup2, xo_pop, xo_goto, xo_icmp, xo_if, xo_switch, xo_getf, xo_puti, xo_putz, xo_putr, xo_iald, xo_bald, xo_lald, xo_aald, xo_iast, xo_bast, xo_last, xo_aast, xo_alen, xo_new, xo_newa, xo_throw, xo_call, xo_objinit, xo_abs, xo_max, xo_ret, R2]
          have := hQ (up3 σ3 4 0 1 (nI 0)) ρ2 R2
          unfold kS at this
          rw [kr, if_pos rfl, hrd] at this
          exact this C3 (nPJ hP hK h0) (fun t n k ht => by rw [up3_t (by omega), o3 _ _ _ ht]; exact f2 _ _ _ (by omega) (by omega) (by omega) (by omega) (by omega) (by omega)) (fun k => by rw [up3_t (by decide), o2 k]; exact f2 _ _ _ (by decide) (by decide) (by decide) (by decide) (by decide) (by decide))
        by_cases h6 : S.sd S.r q = nI (S.r % 2)
        · rw [if_pos h6] at kr
          have FR := FR 6 kr (by decide)
          by_cases hodd : (S.r + 1) % 2 = 1
          · have e0 : S.r % 2 = 0 := by omega
            rw [h6, e0] at c22
            simp +decide (discharger := first | decide | assumption | omega) only [WP_go, cd, ↓reduceIte, Nat.reduceLT, Nat.reduceAdd, Nat.reduceSub, Nat.reduceMul, Nat.reduceEqDiff, WX_next, WX_call, WX_end, WX_none, xkt, xkn, xkc, xst, nb_, nbl_, nble_, decide_true, decide_false, Bool.and_true, Bool.true_and, Bool.and_false, Bool.false_and, Bool.not_true, Bool.not_false, Bool.true_or, Bool.false_or, cond_true, cond_false, List.getElem?_cons_zero, List.getElem?_cons_succ, List.getElem?_nil, List.set_cons_zero, List.set_cons_succ, List.length_cons, List.length_nil, xok, xtg, xcmp, xargs, xsum, xcat, xmn, xdp, xlo, xml, xmc, xrt, xrecv, xent, xmake, xec, xes, Nat.reduceLeDiff, Int.reduceAdd, Int.reduceToNat, Int.reduceLE, xz_cast, xz_cast0, xz_cast1, Bool.false_eq_true, not_false_eq_true, not_true_eq_false, and_true, true_and, and_self, true_or, or_true, WP_sw0, WP_swT, WP_swF, WX_ifT, WX_ifF, WX_ifN, Int32.reduceOfInt, Int.reduceNeg, List.replicate, Nat.zero_add, Nat.lt_irrefl, Option.toList, List.cons_append, List.nil_append, WK_ret, ↓q_m1d, ↓q_m2d, q_lit, q_ofN, q_cl, q_add, q_sub, q_m1, pk_mul, q_ltT, q_ltF, q_leN, q_eqT, q_eqF, q_n1lt, q_ltn1, q_len1, q_n1le, q_eqn1, q_n1eq, xin_nI, decide_eq_true_eq, Bool.not_eq_true', decide_eq_false_iff_not, up3_s, up3_t, up3_n, up3_k, up3_e, cd_20, cd_4, @WC_in 4, cd_21, @WC_in 21, cd_19, @WC_in 19, xo_iconst, xo_lconst, xo_iload, xo_lload, xo_aload, xo_istore, xo_astore, xo_iinc, xo_iadd, xo_isub, xo_imul, xo_iand, xo_idiv, xo_irem, xo_land, xo_lor, xo_lshl, xo_lshr, xo_lushr, xo_i2l, xo_l2i, xo_lcmp, xo_dup, xo_dup2, xo_pop, xo_goto, xo_icmp, xo_if, xo_switch, xo_getf, xo_puti, xo_putz, xo_putr, xo_iald, xo_bald, xo_lald, xo_aald, xo_iast, xo_bast, xo_last, xo_aast, xo_alen, xo_new, xo_newa, xo_throw, xo_call, xo_objinit, xo_abs, xo_max, xo_ret, R2, t6, hrem, hodd, c22]
            exact FR
          · have e0 : S.r % 2 = 1 := by omega
            have e1 : (S.r + 1) % 2 = 0 := by omega
            rw [h6, e0] at c22
            simp +decide (discharger := first | decide | assumption | omega) only [WP_go, cd, ↓reduceIte, Nat.reduceLT, Nat.reduceAdd, Nat.reduceSub, Nat.reduceMul, Nat.reduceEqDiff, WX_next, WX_call, WX_end, WX_none, xkt, xkn, xkc, xst, nb_, nbl_, nble_, decide_true, decide_false, Bool.and_true, Bool.true_and, Bool.and_false, Bool.false_and, Bool.not_true, Bool.not_false, Bool.true_or, Bool.false_or, cond_true, cond_false, List.getElem?_cons_zero, List.getElem?_cons_succ, List.getElem?_nil, List.set_cons_zero, List.set_cons_succ, List.length_cons, List.length_nil, xok, xtg, xcmp, xargs, xsum, xcat, xmn, xdp, xlo, xml, xmc, xrt, xrecv, xent, xmake, xec, xes, Nat.reduceLeDiff, Int.reduceAdd, Int.reduceToNat, Int.reduceLE, xz_cast, xz_cast0, xz_cast1, Bool.false_eq_true, not_false_eq_true, not_true_eq_false, and_true, true_and, and_self, true_or, or_true, WP_sw0, WP_swT, WP_swF, WX_ifT, WX_ifF, WX_ifN, Int32.reduceOfInt, Int.reduceNeg, List.replicate, Nat.zero_add, Nat.lt_irrefl, Option.toList, List.cons_append, List.nil_append, WK_ret, ↓q_m1d, ↓q_m2d, q_lit, q_ofN, q_cl, q_add, q_sub, q_m1, pk_mul, q_ltT, q_ltF, q_leN, q_eqT, q_eqF, q_n1lt, q_ltn1, q_len1, q_n1le, q_eqn1, q_n1eq, xin_nI, decide_eq_true_eq, Bool.not_eq_true', decide_eq_false_iff_not, up3_s, up3_t, up3_n, up3_k, up3_e, cd_20, cd_4, @WC_in 4, cd_21, @WC_in 21, cd_19, @WC_in 19, xo_iconst, xo_lconst, xo_iload, xo_lload, xo_aload, xo_istore, xo_astore, xo_iinc, xo_iadd, xo_isub, xo_imul, xo_iand, xo_idiv, xo_irem, xo_land, xo_lor, xo_lshl, xo_lshr, xo_lushr, xo_i2l, xo_l2i, xo_lcmp, xo_dup, xo_dup2, xo_pop, xo_goto, xo_icmp, xo_if, xo_switch, xo_getf, xo_puti, xo_putz, xo_putr, xo_iald, xo_bald, xo_lald, xo_aald, xo_iast, xo_bast, xo_last, xo_aast, xo_alen, xo_new, xo_newa, xo_throw, xo_call, xo_objinit, xo_abs, xo_max, xo_ret, R2, t6, hrem, e1, c22]
            exact FR
        have NXT := NXT h6
        rw [if_neg h6] at kr
        by_cases h7 : S.r = 20
        · rw [if_pos h7] at kr
          have FR := FR 7 kr (by decide)
          by_cases hodd : (S.r + 1) % 2 = 1
          · have e0 : S.r % 2 = 0 := by omega
            rw [e0] at h6
            simp +decide (discharger := first | decide | assumption | omega) only [WP_go, cd, ↓reduceIte, Nat.reduceLT, Nat.reduceAdd, Nat.reduceSub, Nat.reduceMul, Nat.reduceEqDiff, WX_next, WX_call, WX_end, WX_none, xkt, xkn, xkc, xst, nb_, nbl_, nble_, decide_true, decide_false, Bool.and_true, Bool.true_and, Bool.and_false, Bool.false_and, Bool.not_true, Bool.not_false, Bool.true_or, Bool.false_or, cond_true, cond_false, List.getElem?_cons_zero, List.getElem?_cons_succ, List.getElem?_nil, List.set_cons_zero, List.set_cons_succ, List.length_cons, List.length_nil, xok, xtg, xcmp, xargs, xsum, xcat, xmn, xdp, xlo, xml, xmc, xrt, xrecv, xent, xmake, xec, xes, Nat.reduceLeDiff, Int.reduceAdd, Int.reduceToNat, Int.reduceLE, xz_cast, xz_cast0, xz_cast1, Bool.false_eq_true, not_false_eq_true, not_true_eq_false, and_true, true_and, and_self, true_or, or_true, WP_sw0, WP_swT, WP_swF, WX_ifT, WX_ifF, WX_ifN, Int32.reduceOfInt, Int.reduceNeg, List.replicate, Nat.zero_add, Nat.lt_irrefl, Option.toList, List.cons_append, List.nil_append, WK_ret, ↓q_m1d, ↓q_m2d, q_lit, q_ofN, q_cl, q_add, q_sub, q_m1, pk_mul, q_ltT, q_ltF, q_leN, q_eqT, q_eqF, q_n1lt, q_ltn1, q_len1, q_n1le, q_eqn1, q_n1eq, xin_nI, decide_eq_true_eq, Bool.not_eq_true', decide_eq_false_iff_not, up3_s, up3_t, up3_n, up3_k, up3_e, cd_20, cd_4, @WC_in 4, cd_21, @WC_in 21, cd_19, @WC_in 19, xo_iconst, xo_lconst, xo_iload, xo_lload, xo_aload, xo_istore, xo_astore, xo_iinc, xo_iadd, xo_isub, xo_imul, xo_iand, xo_idiv, xo_irem, xo_land, xo_lor, xo_lshl, xo_lshr, xo_lushr, xo_i2l, xo_l2i, xo_lcmp, xo_dup, xo_dup2, xo_pop, xo_goto, xo_icmp, xo_if, xo_switch, xo_getf, xo_puti, xo_putz, xo_putr, xo_iald, xo_bald, xo_lald, xo_aald, xo_iast, xo_bast, xo_last, xo_aast, xo_alen, xo_new, xo_newa, xo_throw, xo_call, xo_objinit, xo_abs, xo_max, xo_ret, R2, t6, hrem, hodd, c22]
            exact FR
          · omega
        have NXT := NXT h7
        rw [if_neg h7] at kr
        by_cases h8 : 300 < S.lp S.r + md S.T N
        · rw [if_pos h8] at kr
          have FR := FR 8 kr (by decide)
          by_cases hodd : (S.r + 1) % 2 = 1
          · have e0 : S.r % 2 = 0 := by omega
            rw [e0] at h6
            simp +decide (discharger := first | decide | assumption | omega) only [WP_go, cd, ↓reduceIte, Nat.reduceLT, Nat.reduceAdd, Nat.reduceSub, Nat.reduceMul, Nat.reduceEqDiff, WX_next, WX_call, WX_end, WX_none, xkt, xkn, xkc, xst, nb_, nbl_, nble_, decide_true, decide_false, Bool.and_true, Bool.true_and, Bool.and_false, Bool.false_and, Bool.not_true, Bool.not_false, Bool.true_or, Bool.false_or, cond_true, cond_false, List.getElem?_cons_zero, List.getElem?_cons_succ, List.getElem?_nil, List.set_cons_zero, List.set_cons_succ, List.length_cons, List.length_nil, xok, xtg, xcmp, xargs, xsum, xcat, xmn, xdp, xlo, xml, xmc, xrt, xrecv, xent, xmake, xec, xes, Nat.reduceLeDiff, Int.reduceAdd, Int.reduceToNat, Int.reduceLE, xz_cast, xz_cast0, xz_cast1, Bool.false_eq_true, not_false_eq_true, not_true_eq_false, and_true, true_and, and_self, true_or, or_true, WP_sw0, WP_swT, WP_swF, WX_ifT, WX_ifF, WX_ifN, Int32.reduceOfInt, Int.reduceNeg, List.replicate, Nat.zero_add, Nat.lt_irrefl, Option.toList, List.cons_append, List.nil_append, WK_ret, ↓q_m1d, ↓q_m2d, q_lit, q_ofN, q_cl, q_add, q_sub, q_m1, pk_mul, q_ltT, q_ltF, q_leN, q_eqT, q_eqF, q_n1lt, q_ltn1, q_len1, q_n1le, q_eqn1, q_n1eq, xin_nI, decide_eq_true_eq, Bool.not_eq_true', decide_eq_false_iff_not, up3_s, up3_t, up3_n, up3_k, up3_e, cd_20, cd_4, @WC_in 4, cd_21, @WC_in 21, cd_19, @WC_in 19, xo_iconst, xo_lconst, xo_iload, xo_lload, xo_aload, xo_istore, xo_astore, xo_iinc, xo_iadd, xo_isub, xo_imul, xo_iand, xo_idiv, xo_irem, xo_land, xo_lor, xo_lshl, xo_lshr, xo_lushr, xo_i2l, xo_l2i, xo_lcmp, xo_dup, xo_dup2, xo_pop, xo_goto, xo_icmp, xo_if, xo_switch, xo_getf, xo_puti, xo_putz, xo_putr, xo_iald, xo_bald, xo_lald, xo_aald, xo_iast, xo_bast, xo_last, xo_aast, xo_alen, xo_new, xo_newa, xo_throw, xo_call, xo_objinit, xo_abs, xo_max, xo_ret, R2, t6, hrem, hodd, c22, c105, u6]
            exact FR
          · have e0 : S.r % 2 = 1 := by omega
            have e1 : (S.r + 1) % 2 = 0 := by omega
            rw [e0] at h6
            simp +decide (discharger := first | decide | assumption | omega) only [WP_go, cd, ↓reduceIte, Nat.reduceLT, Nat.reduceAdd, Nat.reduceSub, Nat.reduceMul, Nat.reduceEqDiff, WX_next, WX_call, WX_end, WX_none, xkt, xkn, xkc, xst, nb_, nbl_, nble_, decide_true, decide_false, Bool.and_true, Bool.true_and, Bool.and_false, Bool.false_and, Bool.not_true, Bool.not_false, Bool.true_or, Bool.false_or, cond_true, cond_false, List.getElem?_cons_zero, List.getElem?_cons_succ, List.getElem?_nil, List.set_cons_zero, List.set_cons_succ, List.length_cons, List.length_nil, xok, xtg, xcmp, xargs, xsum, xcat, xmn, xdp, xlo, xml, xmc, xrt, xrecv, xent, xmake, xec, xes, Nat.reduceLeDiff, Int.reduceAdd, Int.reduceToNat, Int.reduceLE, xz_cast, xz_cast0, xz_cast1, Bool.false_eq_true, not_false_eq_true, not_true_eq_false, and_true, true_and, and_self, true_or, or_true, WP_sw0, WP_swT, WP_swF, WX_ifT, WX_ifF, WX_ifN, Int32.reduceOfInt, Int.reduceNeg, List.replicate, Nat.zero_add, Nat.lt_irrefl, Option.toList, List.cons_append, List.nil_append, WK_ret, ↓q_m1d, ↓q_m2d, q_lit, q_ofN, q_cl, q_add, q_sub, q_m1, pk_mul, q_ltT, q_ltF, q_leN, q_eqT, q_eqF, q_n1lt, q_ltn1, q_len1, q_n1le, q_eqn1, q_n1eq, xin_nI, decide_eq_true_eq, Bool.not_eq_true', decide_eq_false_iff_not, up3_s, up3_t, up3_n, up3_k, up3_e, cd_20, cd_4, @WC_in 4, cd_21, @WC_in 21, cd_19, @WC_in 19, xo_iconst, xo_lconst, xo_iload, xo_lload, xo_aload, xo_istore, xo_astore, xo_iinc, xo_iadd, xo_isub, xo_imul, xo_iand, xo_idiv, xo_irem, xo_land, xo_lor, xo_lshl, xo_lshr, xo_lushr, xo_i2l, xo_l2i, xo_lcmp, xo_dup, xo_dup2, xo_pop, xo_goto, xo_icmp, xo_if, xo_switch, xo_getf, xo_puti, xo_putz, xo_putr, xo_iald, xo_bald, xo_lald, xo_aald, xo_iast, xo_bast, xo_last, xo_aast, xo_alen, xo_new, xo_newa, xo_throw, xo_call, xo_objinit, xo_abs, xo_max, xo_ret, R2, t6, hrem, e1, c22, c105, u6]
            exact FR
        have NXT := NXT h8
        by_cases hodd : (S.r + 1) % 2 = 1
        · have e0 : S.r % 2 = 0 := by omega
          rw [e0] at h6
          simp +decide (discharger := first | decide | assumption | omega) only [WP_go, cd, ↓reduceIte, Nat.reduceLT, Nat.reduceAdd, Nat.reduceSub, Nat.reduceMul, Nat.reduceEqDiff, WX_next, WX_call, WX_end, WX_none, xkt, xkn, xkc, xst, nb_, nbl_, nble_, decide_true, decide_false, Bool.and_true, Bool.true_and, Bool.and_false, Bool.false_and, Bool.not_true, Bool.not_false, Bool.true_or, Bool.false_or, cond_true, cond_false, List.getElem?_cons_zero, List.getElem?_cons_succ, List.getElem?_nil, List.set_cons_zero, List.set_cons_succ, List.length_cons, List.length_nil, xok, xtg, xcmp, xargs, xsum, xcat, xmn, xdp, xlo, xml, xmc, xrt, xrecv, xent, xmake, xec, xes, Nat.reduceLeDiff, Int.reduceAdd, Int.reduceToNat, Int.reduceLE, xz_cast, xz_cast0, xz_cast1, Bool.false_eq_true, not_false_eq_true, not_true_eq_false, and_true, true_and, and_self, true_or, or_true, WP_sw0, WP_swT, WP_swF, WX_ifT, WX_ifF, WX_ifN, Int32.reduceOfInt, Int.reduceNeg, List.replicate, Nat.zero_add, Nat.lt_irrefl, Option.toList, List.cons_append, List.nil_append, WK_ret, ↓q_m1d, ↓q_m2d, q_lit, q_ofN, q_cl, q_add, q_sub, q_m1, pk_mul, q_ltT, q_ltF, q_leN, q_eqT, q_eqF, q_n1lt, q_ltn1, q_len1, q_n1le, q_eqn1, q_n1eq, xin_nI, decide_eq_true_eq, Bool.not_eq_true', decide_eq_false_iff_not, up3_s, up3_t, up3_n, up3_k, up3_e, cd_20, cd_4, @WC_in 4, cd_21, @WC_in 21, cd_19, @WC_in 19, xo_iconst, xo_lconst, xo_iload, xo_lload, xo_aload, xo_istore, xo_astore, xo_iinc, xo_iadd, xo_isub, xo_imul, xo_iand, xo_idiv, xo_irem, xo_land, xo_lor, xo_lshl, xo_lshr, xo_lushr, xo_i2l, xo_l2i, xo_lcmp, xo_dup, xo_dup2, xo_pop, xo_goto, xo_icmp, xo_if, xo_switch, xo_getf, xo_puti, xo_putz, xo_putr, xo_iald, xo_bald, xo_lald, xo_aald, xo_iast, xo_bast, xo_last, xo_aast, xo_alen, xo_new, xo_newa, xo_throw, xo_call, xo_objinit, xo_abs, xo_max, xo_ret, R2, t6, hrem, hodd, c22, c105, u6]
          exact NXT
        · have e0 : S.r % 2 = 1 := by omega
          have e1 : (S.r + 1) % 2 = 0 := by omega
          rw [e0] at h6
          simp +decide (discharger := first | decide | assumption | omega) only [WP_go, cd, ↓reduceIte, Nat.reduceLT, Nat.reduceAdd, Nat.reduceSub, Nat.reduceMul, Nat.reduceEqDiff, WX_next, WX_call, WX_end, WX_none, xkt, xkn, xkc, xst, nb_, nbl_, nble_, decide_true, decide_false, Bool.and_true, Bool.true_and, Bool.and_false, Bool.false_and, Bool.not_true, Bool.not_false, Bool.true_or, Bool.false_or, cond_true, cond_false, List.getElem?_cons_zero, List.getElem?_cons_succ, List.getElem?_nil, List.set_cons_zero, List.set_cons_succ, List.length_cons, List.length_nil, xok, xtg, xcmp, xargs, xsum, xcat, xmn, xdp, xlo, xml, xmc, xrt, xrecv, xent, xmake, xec, xes, Nat.reduceLeDiff, Int.reduceAdd, Int.reduceToNat, Int.reduceLE, xz_cast, xz_cast0, xz_cast1, Bool.false_eq_true, not_false_eq_true, not_true_eq_false, and_true, true_and, and_self, true_or, or_true, WP_sw0, WP_swT, WP_swF, WX_ifT, WX_ifF, WX_ifN, Int32.reduceOfInt, Int.reduceNeg, List.replicate, Nat.zero_add, Nat.lt_irrefl, Option.toList, List.cons_append, List.nil_append, WK_ret, ↓q_m1d, ↓q_m2d, q_lit, q_ofN, q_cl, q_add, q_sub, q_m1, pk_mul, q_ltT, q_ltF, q_leN, q_eqT, q_eqF, q_n1lt, q_ltn1, q_len1, q_n1le, q_eqn1, q_n1eq, xin_nI, decide_eq_true_eq, Bool.not_eq_true', decide_eq_false_iff_not, up3_s, up3_t, up3_n, up3_k, up3_e, cd_20, cd_4, @WC_in 4, cd_21, @WC_in 21, cd_19, @WC_in 19, xo_iconst, xo_lconst, xo_iload, xo_lload, xo_aload, xo_istore, xo_astore, xo_iinc, xo_iadd, xo_isub, xo_imul, xo_iand, xo_idiv, xo_irem, xo_land, xo_lor, xo_lshl, xo_lshr, xo_lushr, xo_i2l, xo_l2i, xo_lcmp, xo_dup, xo_dup2, xo_pop, xo_goto, xo_icmp, xo_if, xo_switch, xo_getf, xo_puti, xo_putz, xo_putr, xo_iald, xo_bald, xo_lald, xo_aald, xo_iast, xo_bast, xo_last, xo_aast, xo_alen, xo_new, xo_newa, xo_throw, xo_call, xo_objinit, xo_abs, xo_max, xo_ret, R2, t6, hrem, e1, c22, c105, u6]
          exact NXT
