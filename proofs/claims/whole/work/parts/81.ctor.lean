/-! the constructors -/
theorem up1_s {f : Nat → Nat} {t : Nat} : up1 f t t = f t + 1 := if_pos rfl
theorem up1_n {f : Nat → Nat} {t t' : Nat} (h : t' ≠ t) : up1 f t t' = f t' := if_neg h
theorem up2_t {α : Type} {f : Nat → Nat → Nat → α} {t n t' n' k' : Nat} {v : α} (h : t' ≠ t) : up2 f t n v t' n' k' = f t' n' k' := if_neg h
theorem up2_n {α : Type} {f : Nat → Nat → Nat → α} {t n n' k' : Nat} {v : α} (h : n' ≠ n) : up2 f t n v t n' k' = f t n' k' := by
  unfold up2; rw [if_pos rfl, if_neg h]
theorem up2_s {α : Type} {f : Nat → Nat → Nat → α} {t n k' : Nat} {v : α} : up2 f t n v t n k' = v := by
  unfold up2; rw [if_pos rfl, if_pos rfl]
/-- the memory outside P stays -/
def FrR (P : Nat → Nat → Prop) (ρ ρ' : Nat → Nat → Nat → Option XR) : Prop := ∀ t n k, ¬ P t n → ρ' t n k = ρ t n k
theorem FrR.rf {P : Nat → Nat → Prop} {ρ : Nat → Nat → Nat → Option XR} : FrR P ρ ρ := fun _ _ _ _ => rfl
theorem FrR.tr {P : Nat → Nat → Prop} {ρ ρ' ρ'' : Nat → Nat → Nat → Option XR} (h : FrR P ρ ρ') (h' : FrR P ρ' ρ'') : FrR P ρ ρ'' := fun t n k q => (h' t n k q).trans (h t n k q)
theorem FrR.mono {P P' : Nat → Nat → Prop} {ρ ρ' : Nat → Nat → Nat → Option XR} (h : FrR P ρ ρ') (hp : ∀ t n, P t n → P' t n) : FrR P' ρ ρ' := fun t n k q => h t n k (fun e => q (hp t n e))
theorem FrR.up {P : Nat → Nat → Prop} {ρ ρ' : Nat → Nat → Nat → Option XR} (h : FrR P ρ ρ') {t n k : Nat} {v : Option XR} (q : P t n) : FrR P ρ (up3 ρ' t n k v) := by
  intro t' n' k' hn
  rw [← h t' n' k' hn]
  by_cases a : t' = t
  · subst a
    by_cases b : n' = n
    · subst b; exact absurd q hn
    · exact up3_n b
  · exact up3_t a
theorem FrR.u2 {P : Nat → Nat → Prop} {ρ ρ' : Nat → Nat → Nat → Option XR} (h : FrR P ρ ρ') {t n : Nat} {v : Option XR} (q : P t n) : FrR P ρ (up2 ρ' t n v) := by
  intro t' n' k' hn
  rw [← h t' n' k' hn]
  by_cases a : t' = t
  · subst a
    by_cases b : n' = n
    · subst b; exact absurd q hn
    · exact up2_n b
  · exact up2_t a
theorem FrP.u2 {P : Nat → Nat → Prop} {σ σ' : Nat → Nat → Nat → Int32} (h : FrP P σ σ') {t n : Nat} {v : Int32} (q : P t n) : FrP P σ (up2 σ' t n v) := by
  intro t' n' k' hn
  rw [← h t' n' k' hn]
  by_cases a : t' = t
  · subst a
    by_cases b : n' = n
    · subst b; exact absurd q hn
    · exact up2_n b
  · exact up2_t a

abbrev Pw (n t m : Nat) : Prop := (t = 10 ∨ t = 19 ∨ t = 20 ∨ t = 21 ∨ t = 22) ∧ m = n
theorem k_row {σ : Nat → Nat → Nat → Int32} {g : Nat → Nat → Nat → Int64} {ρ : Nat → Nat → Nat → Option XR} {k : Nat → Nat} {L c w : Nat} {Q : XO → XM → Prop} {n : Nat} (h19 : k 19 = n) (h20 : k 20 = n) (h21 : k 21 = n) (h22 : k 22 = n) (hQ : ∀ σ' g' ρ' k', FrP (Pw n) σ σ' → FrR (Pw n) ρ ρ' → σ' 10 n 0 = nI 0 → σ' 10 n 5 = nI 0 → σ' 10 n 6 = nI 0 → σ' 10 n 7 = nI 0 → (∀ j, j < 3 → σ' 22 n j = neg1) → ρ' 10 n 1 = some (19, n) → ρ' 10 n 2 = some (20, n) → ρ' 10 n 3 = some (21, n) → ρ' 10 n 4 = some (22, n) → k' 19 = n + 1 → k' 20 = n + 1 → k' 21 = n + 1 → k' 22 = n + 1 → (∀ t, ¬ (19 ≤ t ∧ t ≤ 22) → k' t = k t) → Q (.inl none) (σ', g', ρ', k', L, c + 4, w + 99)) : WC 53 [.inr (.inr (some (10, n)))] (σ, g, ρ, k, L, c, w) Q := by
  simp +decide (discharger := first | decide | assumption | omega) only [WP_go, cd, ↓reduceIte, Nat.reduceLT, Nat.reduceAdd, Nat.reduceSub, Nat.reduceMul, Nat.reduceEqDiff, WX_next, WX_call, WX_end, WX_none, xkt, xkn, xkc, xst, nb_, nbl_, nble_, decide_true, decide_false, Bool.and_true, Bool.true_and, Bool.and_false, Bool.false_and, Bool.not_true, Bool.not_false, Bool.true_or, Bool.false_or, cond_true, cond_false, List.getElem?_cons_zero, List.getElem?_cons_succ, List.getElem?_nil, List.set_cons_zero, List.set_cons_succ, List.length_cons, List.length_nil, xok, xtg, xcmp, xargs, xsum, xcat, xmn, xdp, xlo, xml, xmc, xrt, xrecv, xent, xmake, xec, xes, Nat.reduceLeDiff, Int.reduceAdd, Int.reduceToNat, Int.reduceLE, xz_cast, xz_cast0, xz_cast1, Bool.false_eq_true, not_false_eq_true, not_true_eq_false, and_true, true_and, and_self, true_or, or_true, WP_sw0, WP_swT, WP_swF, WX_ifT, WX_ifF, WX_ifN, Int32.reduceOfInt, Int.reduceNeg, List.replicate, Nat.zero_add, Nat.lt_irrefl, Option.toList, List.cons_append, List.nil_append, WK_ret, ↓q_m1d, ↓q_m2d, q_lit, q_ofN, q_cl, q_add, q_sub, q_m1, pk_mul, q_ltT, q_ltF, q_leN, q_eqT, q_eqF, q_n1lt, q_ltn1, q_len1, q_n1le, q_eqn1, q_n1eq, xin_nI, decide_eq_true_eq, Bool.not_eq_true', decide_eq_false_iff_not, up3_s, up3_t, up3_n, up3_k, up3_e, cd_53, cd_53, @WC_in 53, xo_iconst, xo_lconst, xo_iload, xo_lload, xo_aload, xo_istore, xo_astore, xo_iinc, xo_iadd, xo_isub, xo_imul, xo_iand, xo_idiv, xo_irem, xo_land, xo_lor, xo_lshl, xo_lshr, xo_lushr, xo_i2l, xo_l2i, xo_lcmp, xo_dup, xo_dup2, xo_pop, xo_goto, xo_icmp, xo_if, xo_switch, xo_getf, xo_puti, xo_putz, xo_putr, xo_iald, xo_bald, xo_lald, xo_aald, xo_iast, xo_bast, xo_last, xo_aast, xo_alen, xo_new, xo_newa, xo_throw, xo_call, xo_objinit, xo_abs, xo_max, xo_ret, up1_n, h19, h20, h21, h22]
  refine hQ _ _ _ _ ?_ ?_ ?_ ?_ ?_ ?_ ?_ ?_ ?_ ?_ ?_ ?_ ?_ ?_ ?_ ?_
  · intro t m j hn
    have U3 : ∀ (σ : Nat → Nat → Nat → Int32) t' k' v, (t' = 10 ∨ t' = 19 ∨ t' = 20 ∨ t' = 21 ∨ t' = 22) → up3 σ t' n k' v t m j = σ t m j := fun σ t' k' v h => (FrP.rf (P := Pw n)).up (σ' := σ) (t := t') (n := n) ⟨h, rfl⟩ t m j hn
    have U2 : ∀ (σ : Nat → Nat → Nat → Int32) t' v, (t' = 10 ∨ t' = 19 ∨ t' = 20 ∨ t' = 21 ∨ t' = 22) → up2 σ t' n v t m j = σ t m j := fun σ t' v h => (FrP.rf (P := Pw n)).u2 (σ' := σ) (t := t') (n := n) ⟨h, rfl⟩ t m j hn
    simp (discharger := decide) only [U3, U2]
  · intro t m j hn
    have U3 : ∀ (σ : Nat → Nat → Nat → Option XR) t' k' v, (t' = 10 ∨ t' = 19 ∨ t' = 20 ∨ t' = 21 ∨ t' = 22) → up3 σ t' n k' v t m j = σ t m j := fun σ t' k' v h => (FrR.rf (P := Pw n)).up (ρ' := σ) (t := t') (n := n) ⟨h, rfl⟩ t m j hn
    have U2 : ∀ (σ : Nat → Nat → Nat → Option XR) t' v, (t' = 10 ∨ t' = 19 ∨ t' = 20 ∨ t' = 21 ∨ t' = 22) → up2 σ t' n v t m j = σ t m j := fun σ t' v h => (FrR.rf (P := Pw n)).u2 (ρ' := σ) (t := t') (n := n) ⟨h, rfl⟩ t m j hn
    simp (discharger := decide) only [U3, U2]
  · simp +decide (discharger := first | decide | assumption | omega) only [up3_s, up3_t, up3_n, up3_k, up3_e, up2_t, up2_n, up2_s, up1_s, up1_n]
  · simp +decide (discharger := first | decide | assumption | omega) only [up3_s, up3_t, up3_n, up3_k, up3_e, up2_t, up2_n, up2_s, up1_s, up1_n]
  · simp +decide (discharger := first | decide | assumption | omega) only [up3_s, up3_t, up3_n, up3_k, up3_e, up2_t, up2_n, up2_s, up1_s, up1_n]
  · simp +decide (discharger := first | decide | assumption | omega) only [up3_s, up3_t, up3_n, up3_k, up3_e, up2_t, up2_n, up2_s, up1_s, up1_n]
  · intro j hj
    have : j = 0 ∨ j = 1 ∨ j = 2 := by omega
    rcases this with rfl | rfl | rfl <;> simp +decide (discharger := first | decide | assumption | omega) only [up3_s, up3_t, up3_n, up3_k, up3_e, up2_t, up2_n, up2_s, up1_s, up1_n]
  · simp +decide (discharger := first | decide | assumption | omega) only [up3_s, up3_t, up3_n, up3_k, up3_e, up2_t, up2_n, up2_s, up1_s, up1_n]
  · simp +decide (discharger := first | decide | assumption | omega) only [up3_s, up3_t, up3_n, up3_k, up3_e, up2_t, up2_n, up2_s, up1_s, up1_n]
  · simp +decide (discharger := first | decide | assumption | omega) only [up3_s, up3_t, up3_n, up3_k, up3_e, up2_t, up2_n, up2_s, up1_s, up1_n]
  · simp +decide (discharger := first | decide | assumption | omega) only [up3_s, up3_t, up3_n, up3_k, up3_e, up2_t, up2_n, up2_s, up1_s, up1_n]
  · simp +decide (discharger := first | decide | assumption | omega) only [up3_s, up3_t, up3_n, up3_k, up3_e, up2_t, up2_n, up2_s, up1_s, up1_n]; omega
  · simp +decide (discharger := first | decide | assumption | omega) only [up3_s, up3_t, up3_n, up3_k, up3_e, up2_t, up2_n, up2_s, up1_s, up1_n]; omega
  · simp +decide (discharger := first | decide | assumption | omega) only [up3_s, up3_t, up3_n, up3_k, up3_e, up2_t, up2_n, up2_s, up1_s, up1_n]; omega
  · simp +decide (discharger := first | decide | assumption | omega) only [up3_s, up3_t, up3_n, up3_k, up3_e, up2_t, up2_n, up2_s, up1_s, up1_n]; omega
  · intro t ht
    simp +decide (discharger := first | decide | assumption | omega) only [up3_s, up3_t, up3_n, up3_k, up3_e, up2_t, up2_n, up2_s, up1_s, up1_n]
