theorem nb_ (a b : Nat) : Nat.beq a b = decide (a = b) := by
  cases h : Nat.beq a b with
  | true => rw [Nat.eq_of_beq_eq_true h]; simp
  | false => have : a ≠ b := fun e => by subst e; rw [Nat.beq_refl] at h; cases h
             simp [this]
theorem nble_ (a b : Nat) : Nat.ble a b = decide (a ≤ b) := by
  cases h : Nat.ble a b with
  | true => simp [Nat.le_of_ble_eq_true h]
  | false => have : ¬ a ≤ b := fun e => by rw [Nat.ble_eq_true_of_le e] at h; cases h
             simp [this]
theorem nbl_ (a b : Nat) : Nat.blt a b = decide (a < b) := nble_ (a + 1) b
theorem xz_cast0 : ((0 : Nat) : Int) = 0 := rfl
theorem xz_cast1 : ((1 : Nat) : Int) = 1 := rfl
theorem xz_cast {n : Nat} : ((no_index (OfNat.ofNat n : Nat)) : Int) = (OfNat.ofNat n : Int) := rfl
theorem xin_nI {k n : Nat} (h : k < n) (hn : n < 2 ^ 31) : xin (nI k) n = true := by
  unfold xin
  have h1 : ¬ nI k < 0 := nI_pos (by omega)
  have h2 : (nI k).toNatClampNeg = k := nI_clamp (by omega)
  rw [h2]
  simp only [h1, decide_false, Bool.not_false, Bool.true_and]
  exact Nat.ble_eq_true_of_le h
theorem sp_loopAt {σ : Nat → Nat → Nat → Int32} {g : Nat → Nat → Nat → Int64} {ρ : Nat → Nat → Nat → Option XR} {k : Nat → Nat} {L c w : Nat} {n a d : Nat} (ha : a < 16) (hd : d < 4) (h1 : ρ 10 n 1 = some (19, n)) {Q : XO → XM → Prop} (hQ : Q (.inl (some (.inl (σ 19 n (a * 4 + d))))) (σ, g, ρ, k, L, c, w)) : WC 56 [.inr (.inr (some (10, n))), .inl (nI a), .inl (nI d)] (σ, g, ρ, k, L, c, w) Q := by
  have e1 : nI a * 4 + nI d = nI (a * 4 + d) := by rw [show (4 : Int32) = nI 4 from rfl, pk_mul, nI_add]
  have e2 : xin (nI (a * 4 + d)) 64 = true := xin_nI (by omega) (by omega)
  have e3 : (nI (a * 4 + d)).toNatClampNeg = a * 4 + d := nI_clamp (by omega)
  unfold WC
  simp (discharger := decide) only [WP_go, cd, ↓reduceIte, Nat.reduceLT, Nat.reduceAdd, Nat.reduceSub, Nat.reduceEqDiff, WX_next, WX_call, WX_end, WX_none, WX_if, xkt, xkn, xkc, xst, nb_, nbl_, nble_, decide_true, decide_false, Bool.and_true, Bool.true_and, Bool.and_false, Bool.false_and, Bool.not_true, Bool.not_false, Bool.true_or, Bool.false_or, cond_true, cond_false, List.getElem?_cons_zero, List.getElem?_cons_succ, List.getElem?_nil, List.set_cons_zero, List.set_cons_succ, List.length_cons, List.length_nil, xok, xtg, xcmp, xargs, xsum, xcat, xmn, xdp, xlo, xml, xmc, xrt, xrecv, xent, xmake, xec, xes, Nat.reduceLeDiff, Int.reduceAdd, Int.reduceToNat, Int.reduceLE, xz_cast, xz_cast0, xz_cast1, Int.reduceNeg, List.replicate, Nat.reduceLeDiff, Nat.zero_add, Nat.lt_irrefl, Nat.reduceMul, Option.toList, List.cons_append, List.nil_append, cd_56, xo_iconst, xo_lconst, xo_iload, xo_lload, xo_aload, xo_istore, xo_astore, xo_iinc, xo_iadd, xo_isub, xo_imul, xo_iand, xo_idiv, xo_irem, xo_land, xo_lor, xo_lshl, xo_lshr, xo_lushr, xo_i2l, xo_l2i, xo_lcmp, xo_dup, xo_dup2, xo_pop, xo_goto, xo_icmp, xo_if, xo_switch, xo_getf, xo_puti, xo_putz, xo_putr, xo_iald, xo_bald, xo_lald, xo_aald, xo_iast, xo_bast, xo_last, xo_aast, xo_alen, xo_new, xo_newa, xo_throw, xo_call, xo_objinit, xo_abs, xo_max, xo_ret, h1, e1, e2, e3]
  exact hQ
def clr (σ : Nat → Nat → Nat → Int32) (t n i m : Nat) (v : Int32) : Nat → Nat → Nat → Int32 := fun t' n' k' => if t' = t ∧ n' = n ∧ i ≤ k' ∧ k' < m then v else σ t' n' k'
theorem clr_end {σ : Nat → Nat → Nat → Int32} {t n m : Nat} {v : Int32} : clr σ t n m m v = σ := by
  funext t' n' k'
  unfold clr
  rw [if_neg (by omega)]
theorem clr_step {σ : Nat → Nat → Nat → Int32} {t n i m : Nat} {v : Int32} (h : i < m) : clr (up3 σ t n i v) t n (i + 1) m v = clr σ t n i m v := by
  funext t' n' k'
  unfold clr up3
  by_cases h1 : t' = t
  · by_cases h2 : n' = n
    · by_cases h3 : k' = i
      · subst h1; subst h2; subst h3
        simp [h]
      · simp only [h1, h2, h3, true_and, if_true, if_false]
        by_cases h4 : i + 1 ≤ k' ∧ k' < m
        · rw [if_pos h4, if_pos (by omega)]
        · rw [if_neg h4, if_neg (by omega)]
    · simp [h2]
  · simp [h1]
theorem lp_begin {g : Nat → Nat → Nat → Int64} {ρ : Nat → Nat → Nat → Option XR} {k : Nat → Nat} {L c w : Nat} {n : Nat} {v : Int32} (h2 : ρ 10 n 2 = some (20, n)) {Q : XO → XM → Prop} : ∀ (j i : Nat) (σ : Nat → Nat → Nat → Int32), i + j = 16 → Q (.inl none) (clr σ 20 n i 16 0, g, ρ, k, L, c, w) → WP 54 7 [some (.inr (.inr (some (10, n)))), some (.inl v), some (.inl (nI i))] [] (σ, g, ρ, k, L, c, w) Q := by
  intro j
  induction j with
  | zero =>
    intro i σ hi hQ
    have hi : i = 16 := by omega
    subst hi
    rw [clr_end] at hQ
    rw [WP_force]
    have e1 : (16 : Int32) ≤ nI 16 := by decide
    simp (discharger := decide) only [WP_go, cd, ↓reduceIte, Nat.reduceLT, Nat.reduceAdd, Nat.reduceSub, Nat.reduceEqDiff, WX_next, WX_call, WX_end, WX_none, WX_if, xkt, xkn, xkc, xst, nb_, nbl_, nble_, decide_true, decide_false, Bool.and_true, Bool.true_and, Bool.and_false, Bool.false_and, Bool.not_true, Bool.not_false, Bool.true_or, Bool.false_or, cond_true, cond_false, List.getElem?_cons_zero, List.getElem?_cons_succ, List.getElem?_nil, List.set_cons_zero, List.set_cons_succ, List.length_cons, List.length_nil, xok, xtg, xcmp, xargs, xsum, xcat, xmn, xdp, xlo, xml, xmc, xrt, xrecv, xent, xmake, xec, xes, Nat.reduceLeDiff, Int.reduceAdd, Int.reduceToNat, Int.reduceLE, xz_cast, xz_cast0, xz_cast1, Int.reduceNeg, List.replicate, Nat.reduceLeDiff, Nat.zero_add, Nat.lt_irrefl, Nat.reduceMul, Option.toList, List.cons_append, List.nil_append, cd_54, xo_iconst, xo_lconst, xo_iload, xo_lload, xo_aload, xo_istore, xo_astore, xo_iinc, xo_iadd, xo_isub, xo_imul, xo_iand, xo_idiv, xo_irem, xo_land, xo_lor, xo_lshl, xo_lshr, xo_lushr, xo_i2l, xo_l2i, xo_lcmp, xo_dup, xo_dup2, xo_pop, xo_goto, xo_icmp, xo_if, xo_switch, xo_getf, xo_puti, xo_putz, xo_putr, xo_iald, xo_bald, xo_lald, xo_aald, xo_iast, xo_bast, xo_last, xo_aast, xo_alen, xo_new, xo_newa, xo_throw, xo_call, xo_objinit, xo_abs, xo_max, xo_ret, h2, e1]
    trace_state
    sorry
  | succ j ih =>
    intro i σ hi hQ
    rw [WP_force]
    have e1 : ¬ (16 : Int32) ≤ nI i := nI_ge (a := i) (b := 16) (by omega) (by omega)
    have e2 : xin (nI i) 16 = true := xin_nI (by omega) (by omega)
    have e3 : (nI i).toNatClampNeg = i := nI_clamp (by omega)
    have e4 : nI i + Int32.ofInt 1 = nI (i + 1) := nI_1 i
    simp (discharger := decide) only [WP_go, cd, ↓reduceIte, Nat.reduceLT, Nat.reduceAdd, Nat.reduceSub, Nat.reduceEqDiff, WX_next, WX_call, WX_end, WX_none, WX_if, xkt, xkn, xkc, xst, nb_, nbl_, nble_, decide_true, decide_false, Bool.and_true, Bool.true_and, Bool.and_false, Bool.false_and, Bool.not_true, Bool.not_false, Bool.true_or, Bool.false_or, cond_true, cond_false, List.getElem?_cons_zero, List.getElem?_cons_succ, List.getElem?_nil, List.set_cons_zero, List.set_cons_succ, List.length_cons, List.length_nil, xok, xtg, xcmp, xargs, xsum, xcat, xmn, xdp, xlo, xml, xmc, xrt, xrecv, xent, xmake, xec, xes, Nat.reduceLeDiff, Int.reduceAdd, Int.reduceToNat, Int.reduceLE, xz_cast, xz_cast0, xz_cast1, Int.reduceNeg, List.replicate, Nat.reduceLeDiff, Nat.zero_add, Nat.lt_irrefl, Nat.reduceMul, Option.toList, List.cons_append, List.nil_append, cd_54, xo_iconst, xo_lconst, xo_iload, xo_lload, xo_aload, xo_istore, xo_astore, xo_iinc, xo_iadd, xo_isub, xo_imul, xo_iand, xo_idiv, xo_irem, xo_land, xo_lor, xo_lshl, xo_lshr, xo_lushr, xo_i2l, xo_l2i, xo_lcmp, xo_dup, xo_dup2, xo_pop, xo_goto, xo_icmp, xo_if, xo_switch, xo_getf, xo_puti, xo_putz, xo_putr, xo_iald, xo_bald, xo_lald, xo_aald, xo_iast, xo_bast, xo_last, xo_aast, xo_alen, xo_new, xo_newa, xo_throw, xo_call, xo_objinit, xo_abs, xo_max, xo_ret, h2, e1, e2, e3, e4]
    trace_state
    sorry
