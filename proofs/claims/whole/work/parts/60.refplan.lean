/-! the plan, by the reference -/
/-- which columns come to the o-th column that stitch s gives, in their order -/
def sro (T : Nat → Nat) (s o : Nat) : List Nat := if cb T s then (if o < sr T s then [ft T s + (sl T s + o)] else [ft T s + (o - sr T s)]) else if sg T s = 108 then [ft T s + 1, ft T s] else if sg T s = 114 then [ft T s, ft T s + 1] else if sg T s = 99 then [ft T s, ft T s + 2, ft T s + 1] else if sg T s = 111 then [] else [ft T s]
def src (T : Nat → Nat) (N g : Nat) : List Nat := sro T (idx (fg T) N g) (g - fg T (idx (fg T) N g))
theorem src_g {T : Nat → Nat} {N s o : Nat} (hs : s < N) (ho : o < gvn T s) : src T N (fg T s + o) = sro T s o := by
  unfold src; rw [ix_g hs ho, Nat.add_sub_cancel_left]
def mst (T : Nat → Nat) (s : Nat) : Int32 := if sg T s = 112 then nI 1 else if sg T s = 116 ∨ sg T s = 109 ∨ sg T s = 120 then neg1 else nI 0
theorem mst_c (T : Nat → Nat) (s b : Nat) : (mst T s = neg1 ∧ (sg T s ≠ 120 → bdn T s b = b)) ∨ mst T s = nI (bdn T s b) := by
  unfold mst bdn
  by_cases h1 : sg T s = 112
  · exact Or.inr (by rw [if_pos h1, if_pos h1])
  rw [if_neg h1, if_neg h1]
  by_cases h2 : sg T s = 116 ∨ sg T s = 109
  · exact Or.inl ⟨if_pos (by omega), fun _ => if_pos h2⟩
  by_cases h3 : sg T s = 120
  · exact Or.inl ⟨if_pos (by omega), fun q => absurd h3 q⟩
  · exact Or.inr (by rw [if_neg (by omega), if_neg h2])
/-- what the reference's plan holds of a column below, of a given column -/
def RT (T : Nat → Nat) (N : Nat) (σ : Nat → Nat → Nat → Int32) (j : Nat) : Prop := σ 55 0 j = oI (cg T N j) ∧ σ 56 0 j = nI (cl T N j) ∧ σ 57 0 j = mst T (idx (ft T) N j) ∧ σ 58 0 j = nI (pos T (idx (ft T) N j))
def RG (T : Nat → Nat) (N : Nat) (σ : Nat → Nat → Nat → Int32) (g : Nat) : Prop := σ 59 0 g = nI (sg T (idx (fg T) N g)) ∧ σ 60 0 g = nI (src T N g).length ∧ ∀ d, d < (src T N g).length → σ 61 0 (3 * g + d) = nI ((src T N g).getD d 0)
abbrev RP (T : Nat → Nat) (N : Nat) (σ : Nat → Nat → Nat → Int32) (a b : Nat) : Prop := (∀ j, j < a → RT T N σ j) ∧ (∀ j, j < b → RG T N σ j)
theorem RT_k {T : Nat → Nat} {N : Nat} {σ σ' : Nat → Nat → Nat → Int32} {j : Nat} (h : RT T N σ j) (e1 : σ' 55 0 j = σ 55 0 j) (e2 : σ' 56 0 j = σ 56 0 j) (e3 : σ' 57 0 j = σ 57 0 j) (e4 : σ' 58 0 j = σ 58 0 j) : RT T N σ' j := by
  unfold RT at h ⊢
  rw [e1, e2, e3, e4]; exact h
theorem sro_3 (T : Nat → Nat) (s o : Nat) : (sro T s o).length ≤ 3 := by
  unfold sro
  repeat' (first | split | simp)
theorem RG_k {T : Nat → Nat} {N : Nat} {σ σ' : Nat → Nat → Nat → Int32} {j : Nat} (h : RG T N σ j) (e1 : σ' 59 0 j = σ 59 0 j) (e2 : σ' 60 0 j = σ 60 0 j) (e3 : ∀ d, d < 3 → σ' 61 0 (3 * j + d) = σ 61 0 (3 * j + d)) : RG T N σ' j := by
  unfold RG at h ⊢
  rw [e1, e2]
  refine ⟨h.1, h.2.1, fun d hd => ?_⟩
  rw [e3 d (Nat.lt_of_lt_of_le hd (sro_3 T _ _))]
  exact h.2.2 d hd
abbrev Pq (t _ : Nat) : Prop := t = 55 ∨ t = 56 ∨ t = 57 ∨ t = 58 ∨ t = 59 ∨ t = 60 ∨ t = 61
/-- the memory after a take -/
def uT (σ : Nat → Nat → Nat → Int32) (j : Nat) (v1 v2 v3 v4 : Int32) : Nat → Nat → Nat → Int32 := up3 (up3 (up3 (up3 σ 55 0 j v1) 56 0 j v2) 57 0 j v3) 58 0 j v4
theorem uT_f {σ σ' : Nat → Nat → Nat → Int32} {j : Nat} {v1 v2 v3 v4 : Int32} (h : FrP Pq σ σ') : FrP Pq σ (uT σ' j v1 v2 v3 v4) := (((h.up (by decide)).up (by decide)).up (by decide)).up (by decide)
theorem uT_T {T : Nat → Nat} {N a b : Nat} {σ : Nat → Nat → Nat → Int32} {v1 v2 v3 v4 : Int32} (h : RP T N σ a b) (e1 : v1 = oI (cg T N a)) (e2 : v2 = nI (cl T N a)) (e3 : v3 = mst T (idx (ft T) N a)) (e4 : v4 = nI (pos T (idx (ft T) N a))) : RP T N (uT σ a v1 v2 v3 v4) (a + 1) b := by
  refine ⟨fun j hj => ?_, fun j hj => ?_⟩
  · by_cases e : j = a
    · subst e
      unfold uT
      exact ⟨by simp +decide (discharger := first | decide | assumption | omega) only [up3_s, up3_t, up3_n, up3_k, up3_e]; exact e1, by simp +decide (discharger := first | decide | assumption | omega) only [up3_s, up3_t, up3_n, up3_k, up3_e]; exact e2, by simp +decide (discharger := first | decide | assumption | omega) only [up3_s, up3_t, up3_n, up3_k, up3_e]; exact e3, by simp +decide (discharger := first | decide | assumption | omega) only [up3_s, up3_t, up3_n, up3_k, up3_e]; exact e4⟩
    · unfold uT
      exact RT_k (h.1 j (by omega)) (by simp +decide (discharger := first | decide | assumption | omega) only [up3_s, up3_t, up3_n, up3_k, up3_e]) (by simp +decide (discharger := first | decide | assumption | omega) only [up3_s, up3_t, up3_n, up3_k, up3_e]) (by simp +decide (discharger := first | decide | assumption | omega) only [up3_s, up3_t, up3_n, up3_k, up3_e]) (by simp +decide (discharger := first | decide | assumption | omega) only [up3_s, up3_t, up3_n, up3_k, up3_e])
  · unfold uT
    exact RG_k (h.2 j hj) (by simp +decide (discharger := first | decide | assumption | omega) only [up3_s, up3_t, up3_n, up3_k, up3_e]) (by simp +decide (discharger := first | decide | assumption | omega) only [up3_s, up3_t, up3_n, up3_k, up3_e]) (fun d _ => by simp +decide (discharger := first | decide | assumption | omega) only [up3_s, up3_t, up3_n, up3_k, up3_e])
theorem r_take {σ : Nat → Nat → Nat → Int32} {g : Nat → Nat → Nat → Int64} {ρ : Nat → Nat → Nat → Option XR} {k : Nat → Nat} {L c w : Nat} {Q : XO → XM → Prop} {j s : Nat} {x y z v : Int32} (hR : RC ρ) (hj : j < 16) (hs : s < 40) (h52 : σ 52 0 s = v) (hQ : Q (.inl none) (uT σ j x (vp_nar .boolean y) z v, g, ρ, k, L, c, w)) : WC 81 [.inr (.inr (some (2, 0))), .inl (nI j), .inl x, .inl (nI s), .inl y, .inl z] (σ, g, ρ, k, L, c, w) Q := by
  unfold uT at hQ
  simp +decide (discharger := first | decide | assumption | omega) only [WP_go, cd, ↓reduceIte, Nat.reduceLT, Nat.reduceAdd, Nat.reduceSub, Nat.reduceMul, Nat.reduceEqDiff, WX_next, WX_call, WX_end, WX_none, xkt, xkn, xkc, xst, nb_, nbl_, nble_, decide_true, decide_false, Bool.and_true, Bool.true_and, Bool.and_false, Bool.false_and, Bool.not_true, Bool.not_false, Bool.true_or, Bool.false_or, cond_true, cond_false, List.getElem?_cons_zero, List.getElem?_cons_succ, List.getElem?_nil, List.set_cons_zero, List.set_cons_succ, List.length_cons, List.length_nil, xok, xtg, xcmp, xargs, xsum, xcat, xmn, xdp, xlo, xml, xmc, xrt, xrecv, xent, xmake, xec, xes, Nat.reduceLeDiff, Int.reduceAdd, Int.reduceToNat, Int.reduceLE, xz_cast, xz_cast0, xz_cast1, Bool.false_eq_true, not_false_eq_true, not_true_eq_false, and_true, true_and, and_self, true_or, or_true, WP_sw0, WP_swT, WP_swF, WX_ifT, WX_ifF, WX_ifN, Int32.reduceOfInt, Int.reduceNeg, List.replicate, Nat.zero_add, Nat.lt_irrefl, Option.toList, List.cons_append, List.nil_append, WK_ret, ↓q_m1d, ↓q_m2d, q_lit, q_ofN, q_cl, q_add, q_sub, q_m1, pk_mul, q_ltT, q_ltF, q_leN, q_eqT, q_eqF, q_n1lt, q_ltn1, q_len1, q_n1le, q_eqn1, q_n1eq, xin_nI, decide_eq_true_eq, Bool.not_eq_true', decide_eq_false_iff_not, up3_s, up3_t, up3_n, up3_k, up3_e, cd_81, cd_81, @WC_in 81, xo_iconst, xo_lconst, xo_iload, xo_lload, xo_aload, xo_istore, xo_astore, xo_iinc, xo_iadd, xo_isub, xo_imul, xo_iand, xo_idiv, xo_irem, xo_land, xo_lor, xo_lshl, xo_lshr, xo_lushr, xo_i2l, xo_l2i, xo_lcmp, xo_dup, xo_dup2, xo_pop, xo_goto, xo_icmp, xo_if, xo_switch, xo_getf, xo_puti, xo_putz, xo_putr, xo_iald, xo_bald, xo_lald, xo_aald, xo_iast, xo_bast, xo_last, xo_aast, xo_alen, xo_new, xo_newa, xo_throw, xo_call, xo_objinit, xo_abs, xo_max, xo_ret, hR, h52]
  exact hQ
def uG (σ : Nat → Nat → Nat → Int32) (g : Nat) (v1 v3 : Int32) : Nat → Nat → Nat → Int32 := up3 (up3 (up3 σ 59 0 g v1) 60 0 g (nI 1)) 61 0 (3 * g) v3
theorem uG_f {σ σ' : Nat → Nat → Nat → Int32} {g : Nat} {v1 v3 : Int32} (h : FrP Pq σ σ') : FrP Pq σ (uG σ' g v1 v3) := ((h.up (by decide)).up (by decide)).up (by decide)
theorem uG_T {T : Nat → Nat} {N j g : Nat} {σ : Nat → Nat → Nat → Int32} {v1 v3 : Int32} (h : RT T N σ j) : RT T N (uG σ g v1 v3) j := by
  unfold uG
  exact RT_k h (by simp +decide (discharger := first | decide | assumption | omega) only [up3_s, up3_t, up3_n, up3_k, up3_e]) (by simp +decide (discharger := first | decide | assumption | omega) only [up3_s, up3_t, up3_n, up3_k, up3_e]) (by simp +decide (discharger := first | decide | assumption | omega) only [up3_s, up3_t, up3_n, up3_k, up3_e]) (by simp +decide (discharger := first | decide | assumption | omega) only [up3_s, up3_t, up3_n, up3_k, up3_e])
theorem uG_G {T : Nat → Nat} {N g g' x : Nat} {σ : Nat → Nat → Nat → Int32} {v1 : Int32} (e1 : v1 = nI (sg T (idx (fg T) N g))) (e2 : src T N g = [x]) (h : g' ≠ g → RG T N σ g') : RG T N (uG σ g v1 (nI x)) g' := by
  by_cases e : g' = g
  · subst e
    unfold uG RG
    rw [e2]
    refine ⟨by simp +decide (discharger := first | decide | assumption | omega) only [up3_s, up3_t, up3_n, up3_k, up3_e]; exact e1, by simp +decide (discharger := first | decide | assumption | omega) only [up3_s, up3_t, up3_n, up3_k, up3_e]; rfl, fun d hd => ?_⟩
    have hd : d < 1 := hd
    have : d = 0 := by omega
    subst this
    simp +decide (discharger := first | decide | assumption | omega) only [up3_s, up3_t, up3_n, up3_k, up3_e]; rfl
  · unfold uG
    exact RG_k (h e) (by simp +decide (discharger := first | decide | assumption | omega) only [up3_s, up3_t, up3_n, up3_k, up3_e]) (by simp +decide (discharger := first | decide | assumption | omega) only [up3_s, up3_t, up3_n, up3_k, up3_e]) (fun d _ => by simp +decide (discharger := first | decide | assumption | omega) only [up3_s, up3_t, up3_n, up3_k, up3_e])
theorem r_give {σ : Nat → Nat → Nat → Int32} {g : Nat → Nat → Nat → Int64} {ρ : Nat → Nat → Nat → Option XR} {k : Nat → Nat} {L c w : Nat} {Q : XO → XM → Prop} {j s g' : Nat} {v : Int32} (hR : RC ρ) (hg : g' < 16) (hs : s < 40) (h51 : σ 51 0 s = v) (hQ : Q (.inl none) (uG σ g' v (nI j), g, ρ, k, L, c, w)) : WC 82 [.inr (.inr (some (2, 0))), .inl (nI g'), .inl (nI s), .inl (nI j)] (σ, g, ρ, k, L, c, w) Q := by
  unfold uG at hQ
  simp +decide (discharger := first | decide | assumption | omega) only [WP_go, cd, ↓reduceIte, Nat.reduceLT, Nat.reduceAdd, Nat.reduceSub, Nat.reduceMul, Nat.reduceEqDiff, WX_next, WX_call, WX_end, WX_none, xkt, xkn, xkc, xst, nb_, nbl_, nble_, decide_true, decide_false, Bool.and_true, Bool.true_and, Bool.and_false, Bool.false_and, Bool.not_true, Bool.not_false, Bool.true_or, Bool.false_or, cond_true, cond_false, List.getElem?_cons_zero, List.getElem?_cons_succ, List.getElem?_nil, List.set_cons_zero, List.set_cons_succ, List.length_cons, List.length_nil, xok, xtg, xcmp, xargs, xsum, xcat, xmn, xdp, xlo, xml, xmc, xrt, xrecv, xent, xmake, xec, xes, Nat.reduceLeDiff, Int.reduceAdd, Int.reduceToNat, Int.reduceLE, xz_cast, xz_cast0, xz_cast1, Bool.false_eq_true, not_false_eq_true, not_true_eq_false, and_true, true_and, and_self, true_or, or_true, WP_sw0, WP_swT, WP_swF, WX_ifT, WX_ifF, WX_ifN, Int32.reduceOfInt, Int.reduceNeg, List.replicate, Nat.zero_add, Nat.lt_irrefl, Option.toList, List.cons_append, List.nil_append, WK_ret, ↓q_m1d, ↓q_m2d, q_lit, q_ofN, q_cl, q_add, q_sub, q_m1, pk_mul, q_ltT, q_ltF, q_leN, q_eqT, q_eqF, q_n1lt, q_ltn1, q_len1, q_n1le, q_eqn1, q_n1eq, xin_nI, decide_eq_true_eq, Bool.not_eq_true', decide_eq_false_iff_not, up3_s, up3_t, up3_n, up3_k, up3_e, cd_82, cd_82, @WC_in 82, xo_iconst, xo_lconst, xo_iload, xo_lload, xo_aload, xo_istore, xo_astore, xo_iinc, xo_iadd, xo_isub, xo_imul, xo_iand, xo_idiv, xo_irem, xo_land, xo_lor, xo_lshl, xo_lshr, xo_lushr, xo_i2l, xo_l2i, xo_lcmp, xo_dup, xo_dup2, xo_pop, xo_goto, xo_icmp, xo_if, xo_switch, xo_getf, xo_puti, xo_putz, xo_putr, xo_iald, xo_bald, xo_lald, xo_aald, xo_iast, xo_bast, xo_last, xo_aast, xo_alen, xo_new, xo_newa, xo_throw, xo_call, xo_objinit, xo_abs, xo_max, xo_ret, hR, h51]
  exact hQ
theorem r_tk {σ : Nat → Nat → Nat → Int32} {g : Nat → Nat → Nat → Int64} {ρ : Nat → Nat → Nat → Option XR} {k : Nat → Nat} {L c w : Nat} {Q : XO → XM → Prop} {T : Nat → Nat} {N s : Nat} (hR : RC ρ) (hN : N ≤ 40) (hV : VT T N) (hs : s < N) (hE : En T σ N) (hQ : Q (.inl (some (.inl (nI (tkn T s))))) (σ, g, ρ, k, L, c, w)) : WC 76 [.inr (.inr (some (2, 0))), .inl (nI s)] (σ, g, ρ, k, L, c, w) Q := r_takes hR (by omega) (hV s hs).1 (hE s hs).1 (hE s hs).2.2 hQ
theorem r_gv {σ : Nat → Nat → Nat → Int32} {g : Nat → Nat → Nat → Int64} {ρ : Nat → Nat → Nat → Option XR} {k : Nat → Nat} {L c w : Nat} {Q : XO → XM → Prop} {T : Nat → Nat} {N s : Nat} (hR : RC ρ) (hN : N ≤ 40) (hV : VT T N) (hs : s < N) (hE : En T σ N) (hQ : Q (.inl (some (.inl (nI (gvn T s))))) (σ, g, ρ, k, L, c, w)) : WC 77 [.inr (.inr (some (2, 0))), .inl (nI s)] (σ, g, ρ, k, L, c, w) Q := r_gives hR (by omega) (hV s hs).1 (hE s hs).1 (hE s hs).2.2 hQ
theorem En_f {T : Nat → Nat} {N : Nat} {σ σ' : Nat → Nat → Nat → Int32} {P : Nat → Nat → Prop} (h : En T σ N) (hf : FrP P σ σ') (hp : ∀ n, ¬ P 51 n ∧ ¬ P 52 n ∧ ¬ P 53 n ∧ ¬ P 54 n) : En T σ' N := fun i hi => by
  have := h i hi
  rw [hf 51 0 i (hp 0).1, hf 52 0 i (hp 0).2.1, hf 53 0 i (hp 0).2.2.1, hf 54 0 i (hp 0).2.2.2]
  exact this
theorem Pq_ok : ∀ n, ¬ Pq 51 n ∧ ¬ Pq 52 n ∧ ¬ Pq 53 n ∧ ¬ Pq 54 n := fun n => ⟨by omega, by omega, by omega, by omega⟩
theorem r_cable {σ : Nat → Nat → Nat → Int32} {g : Nat → Nat → Nat → Int64} {ρ : Nat → Nat → Nat → Option XR} {k : Nat → Nat} {L c w : Nat} {Q : XO → XM → Prop} {T : Nat → Nat} {N s : Nat} (hR : RC ρ) (hV : VT T N) (hN : N ≤ 40) (hf : ft T N ≤ 16) (hg : fg T N ≤ 16) (hs : s < N) (hE : En T σ N) (hc : cb T s) (hP : RP T N σ (ft T s) (fg T s)) (hQ : ∀ σ', FrP Pq σ σ' → RP T N σ' (ft T (s + 1)) (fg T (s + 1)) → Q (.inl none) (σ', g, ρ, k, L, c, w)) : WC 84 [.inr (.inr (some (2, 0))), .inl (nI s), .inl (nI (ft T s)), .inl (nI (fg T s))] (σ, g, ρ, k, L, c, w) Q := by
  obtain ⟨g1, g2, g34⟩ := hE s hs
  obtain ⟨g3, g4⟩ := g34 hc
  have hv : 1 ≤ sl T s ∧ sl T s ≤ 4 ∧ 1 ≤ sr T s ∧ sr T s ≤ 4 := by
    rcases (hV s hs).2 with v2 | v2
    · exact absurd hc (pl_nc v2)
    · exact v2.2
  have ht : tkn T s = sl T s + sr T s := tk_c hc
  have hgn : gvn T s = sl T s + sr T s := gv_c hc
  have b1 := ft_le (T := T) (show s + 1 ≤ N from hs)
  have b2 := fg_le (T := T) (show s + 1 ≤ N from hs)
  rw [ft_s] at b1
  rw [fg_s] at b2
  have hms : mst T s = nI 0 := by
    unfold mst
    have hc : sg T s = 60 ∨ sg T s = 62 := hc
    rw [if_neg (by omega), if_neg (by omega)]
  simp +decide (discharger := first | decide | assumption | omega) only [WP_go, cd, ↓reduceIte, Nat.reduceLT, Nat.reduceAdd, Nat.reduceSub, Nat.reduceMul, Nat.reduceEqDiff, WX_next, WX_call, WX_end, WX_none, xkt, xkn, xkc, xst, nb_, nbl_, nble_, decide_true, decide_false, Bool.and_true, Bool.true_and, Bool.and_false, Bool.false_and, Bool.not_true, Bool.not_false, Bool.true_or, Bool.false_or, cond_true, cond_false, List.getElem?_cons_zero, List.getElem?_cons_succ, List.getElem?_nil, List.set_cons_zero, List.set_cons_succ, List.length_cons, List.length_nil, xok, xtg, xcmp, xargs, xsum, xcat, xmn, xdp, xlo, xml, xmc, xrt, xrecv, xent, xmake, xec, xes, Nat.reduceLeDiff, Int.reduceAdd, Int.reduceToNat, Int.reduceLE, xz_cast, xz_cast0, xz_cast1, Bool.false_eq_true, not_false_eq_true, not_true_eq_false, and_true, true_and, and_self, true_or, or_true, WP_sw0, WP_swT, WP_swF, WX_ifT, WX_ifF, WX_ifN, Int32.reduceOfInt, Int.reduceNeg, List.replicate, Nat.zero_add, Nat.lt_irrefl, Option.toList, List.cons_append, List.nil_append, WK_ret, ↓q_m1d, ↓q_m2d, q_lit, q_ofN, q_cl, q_add, q_sub, q_m1, pk_mul, q_ltT, q_ltF, q_leN, q_eqT, q_eqF, q_n1lt, q_ltn1, q_len1, q_n1le, q_eqn1, q_n1eq, xin_nI, decide_eq_true_eq, Bool.not_eq_true', decide_eq_false_iff_not, up3_s, up3_t, up3_n, up3_k, up3_e, cd_84, cd_84, @WC_in 84, xo_iconst, xo_lconst, xo_iload, xo_lload, xo_aload, xo_istore, xo_astore, xo_iinc, xo_iadd, xo_isub, xo_imul, xo_iand, xo_idiv, xo_irem, xo_land, xo_lor, xo_lshl, xo_lshr, xo_lushr, xo_i2l, xo_l2i, xo_lcmp, xo_dup, xo_dup2, xo_pop, xo_goto, xo_icmp, xo_if, xo_switch, xo_getf, xo_puti, xo_putz, xo_putr, xo_iald, xo_bald, xo_lald, xo_aald, xo_iast, xo_bast, xo_last, xo_aast, xo_alen, xo_new, xo_newa, xo_throw, xo_call, xo_objinit, xo_abs, xo_max, xo_ret, hR, g3, g4]
  refine lp_upL (fun o lv M => ∃ σ' z7, lv = [some (.inr (.inr (some (2, 0)))), some (.inl (nI s)), some (.inl (nI (ft T s))), some (.inl (nI (fg T s))), some (.inl (nI (sl T s))), some (.inl (nI (sr T s))), some (.inl (nI o)), z7] ∧ M = (σ', g, ρ, k, L, c, w) ∧ FrP Pq σ σ' ∧ RP T N σ' (ft T s + o) (fg T s) ∧ ∀ o', o' < o → RG T N σ' (if o' < sl T s then fg T s + sr T s + o' else fg T s + o' - sl T s)) (sl T s + sr T s) ?_ ?_ 0 _ _ (by omega) ⟨_, _, rfl, rfl, FrP.rf, hP, fun o' h => absurd h (by omega)⟩
  · rintro o _ _ ho ⟨σ1, z7, rfl, rfl, F1, P1, G1⟩ ih
    have E1 := En_f hE F1 Pq_ok
    obtain ⟨e1, e2, e34⟩ := E1 s hs
    have ix := ix_t (T := T) hs (show o < tkn T s by omega)
    have xg := cg_t (T := T) hs (show o < tkn T s by omega)
    have xl := cl_t (T := T) hs (show o < tkn T s by omega)
    have STEP : ∀ G v2, G = (if o < sl T s then fg T s + sr T s + o else fg T s + o - sl T s) → gof T s o = some G → v2 = nI (ltf T s o) → FrP Pq σ (uG (uT σ1 (ft T s + o) (nI G) v2 (nI 0) (nI (pos T s))) G (nI (sg T s)) (nI (ft T s + o))) ∧ RP T N (uG (uT σ1 (ft T s + o) (nI G) v2 (nI 0) (nI (pos T s))) G (nI (sg T s)) (nI (ft T s + o))) (ft T s + (o + 1)) (fg T s) ∧ ∀ o', o' < o + 1 → RG T N (uG (uT σ1 (ft T s + o) (nI G) v2 (nI 0) (nI (pos T s))) G (nI (sg T s)) (nI (ft T s + o))) (if o' < sl T s then fg T s + sr T s + o' else fg T s + o' - sl T s) := by
      intro G v2 hG hgo hv2
      have hP2 := uT_T (v1 := nI G) (v2 := v2) (v3 := nI 0) (v4 := nI (pos T s)) P1 (by rw [xg, hgo]; rfl) (by rw [xl, hv2]) (by rw [ix, hms]) (by rw [ix])
      obtain ⟨og, hog, hog2⟩ : ∃ og, G = fg T s + og ∧ og < gvn T s := by
        have := gof_lt hV hs (show o < tkn T s by omega) hgo
        exact ⟨G - fg T s, by omega, by omega⟩
      have iG : idx (fg T) N G = s := by rw [hog]; exact ix_g hs hog2
      have sG : src T N G = [ft T s + o] := by
        rw [hog, src_g hs hog2]
        unfold sro
        rw [if_pos hc]
        by_cases u : o < sl T s
        · rw [if_pos u] at hG
          rw [if_neg (by omega), show og - sr T s = o by omega]
        · rw [if_neg u] at hG
          rw [if_pos (by omega), show sl T s + og = o by omega]
      refine ⟨uG_f (uT_f F1), ⟨fun j hj => uG_T (hP2.1 j (by omega)), fun j hj => uG_G (by rw [iG]) sG (fun _ => hP2.2 j hj)⟩, fun o' ho' => uG_G (by rw [iG]) sG (fun hne => ?_)⟩
      have : o' ≠ o := fun e => hne (by rw [e, hG])
      refine RG_k (G1 o' (by omega)) ?_ ?_ ?_
      · unfold uT; simp +decide (discharger := first | decide | assumption | omega) only [up3_s, up3_t, up3_n, up3_k, up3_e]
      · unfold uT; simp +decide (discharger := first | decide | assumption | omega) only [up3_s, up3_t, up3_n, up3_k, up3_e]
      · intro d _; unfold uT; simp +decide (discharger := first | decide | assumption | omega) only [up3_s, up3_t, up3_n, up3_k, up3_e]
    have NX : ∀ G v2 v2', G = (if o < sl T s then fg T s + sr T s + o else fg T s + o - sl T s) → gof T s o = some G → vp_nar .boolean v2' = v2 → v2 = nI (ltf T s o) → WC 81 [.inr (.inr (some (2, 0))), .inl (nI (ft T s + o)), .inl (nI G), .inl (nI s), .inl v2', .inl (nI 0)] (σ1, g, ρ, k, L, c, w) (WK 84 100 [some (.inr (.inr (some (2, 0)))), some (.inl (nI s)), some (.inl (nI (ft T s))), some (.inl (nI (fg T s))), some (.inl (nI (sl T s))), some (.inl (nI (sr T s))), some (.inl (nI o)), some (.inl (nI G))] [] Q) := by
      intro G v2 v2' hG hgo hv hv2
      have bG := gof_lt hV hs (show o < tkn T s by omega) hgo
      obtain ⟨S1, S2, S3⟩ := STEP G v2 hG hgo hv2
      refine r_take hR (by omega) (by omega) e2 ?_
      rw [hv]
      simp +decide (discharger := first | decide | assumption | omega) only [WP_go, cd, ↓reduceIte, Nat.reduceLT, Nat.reduceAdd, Nat.reduceSub, Nat.reduceMul, Nat.reduceEqDiff, WX_next, WX_call, WX_end, WX_none, xkt, xkn, xkc, xst, nb_, nbl_, nble_, decide_true, decide_false, Bool.and_true, Bool.true_and, Bool.and_false, Bool.false_and, Bool.not_true, Bool.not_false, Bool.true_or, Bool.false_or, cond_true, cond_false, List.getElem?_cons_zero, List.getElem?_cons_succ, List.getElem?_nil, List.set_cons_zero, List.set_cons_succ, List.length_cons, List.length_nil, xok, xtg, xcmp, xargs, xsum, xcat, xmn, xdp, xlo, xml, xmc, xrt, xrecv, xent, xmake, xec, xes, Nat.reduceLeDiff, Int.reduceAdd, Int.reduceToNat, Int.reduceLE, xz_cast, xz_cast0, xz_cast1, Bool.false_eq_true, not_false_eq_true, not_true_eq_false, and_true, true_and, and_self, true_or, or_true, WP_sw0, WP_swT, WP_swF, WX_ifT, WX_ifF, WX_ifN, Int32.reduceOfInt, Int.reduceNeg, List.replicate, Nat.zero_add, Nat.lt_irrefl, Option.toList, List.cons_append, List.nil_append, WK_ret, ↓q_m1d, ↓q_m2d, q_lit, q_ofN, q_cl, q_add, q_sub, q_m1, pk_mul, q_ltT, q_ltF, q_leN, q_eqT, q_eqF, q_n1lt, q_ltn1, q_len1, q_n1le, q_eqn1, q_n1eq, xin_nI, decide_eq_true_eq, Bool.not_eq_true', decide_eq_false_iff_not, up3_s, up3_t, up3_n, up3_k, up3_e, cd_84, xo_iconst, xo_lconst, xo_iload, xo_lload, xo_aload, xo_istore, xo_astore, xo_iinc, xo_iadd, xo_isub, xo_imul, xo_iand, xo_idiv, xo_irem, xo_land, xo_lor, xo_lshl, xo_lshr, xo_lushr, xo_i2l, xo_l2i, xo_lcmp, xo_dup, xo_dup2, xo_pop, xo_goto, xo_icmp, xo_if, xo_switch, xo_getf, xo_puti, xo_putz, xo_putr, xo_iald, xo_bald, xo_lald, xo_aald, xo_iast, xo_bast, xo_last, xo_aast, xo_alen, xo_new, xo_newa, xo_throw, xo_call, xo_objinit, xo_abs, xo_max, xo_ret, hR]
      refine r_give hR (by omega) (by omega) (v := nI (sg T s)) (by unfold uT; simp +decide (discharger := first | decide | assumption | omega) only [up3_s, up3_t, up3_n, up3_k, up3_e]; exact e1) ?_
      simp +decide (discharger := first | decide | assumption | omega) only [WP_go, cd, ↓reduceIte, Nat.reduceLT, Nat.reduceAdd, Nat.reduceSub, Nat.reduceMul, Nat.reduceEqDiff, WX_next, WX_call, WX_end, WX_none, xkt, xkn, xkc, xst, nb_, nbl_, nble_, decide_true, decide_false, Bool.and_true, Bool.true_and, Bool.and_false, Bool.false_and, Bool.not_true, Bool.not_false, Bool.true_or, Bool.false_or, cond_true, cond_false, List.getElem?_cons_zero, List.getElem?_cons_succ, List.getElem?_nil, List.set_cons_zero, List.set_cons_succ, List.length_cons, List.length_nil, xok, xtg, xcmp, xargs, xsum, xcat, xmn, xdp, xlo, xml, xmc, xrt, xrecv, xent, xmake, xec, xes, Nat.reduceLeDiff, Int.reduceAdd, Int.reduceToNat, Int.reduceLE, xz_cast, xz_cast0, xz_cast1, Bool.false_eq_true, not_false_eq_true, not_true_eq_false, and_true, true_and, and_self, true_or, or_true, WP_sw0, WP_swT, WP_swF, WX_ifT, WX_ifF, WX_ifN, Int32.reduceOfInt, Int.reduceNeg, List.replicate, Nat.zero_add, Nat.lt_irrefl, Option.toList, List.cons_append, List.nil_append, WK_ret, ↓q_m1d, ↓q_m2d, q_lit, q_ofN, q_cl, q_add, q_sub, q_m1, pk_mul, q_ltT, q_ltF, q_leN, q_eqT, q_eqF, q_n1lt, q_ltn1, q_len1, q_n1le, q_eqn1, q_n1eq, xin_nI, decide_eq_true_eq, Bool.not_eq_true', decide_eq_false_iff_not, up3_s, up3_t, up3_n, up3_k, up3_e, cd_84, xo_iconst, xo_lconst, xo_iload, xo_lload, xo_aload, xo_istore, xo_astore, xo_iinc, xo_iadd, xo_isub, xo_imul, xo_iand, xo_idiv, xo_irem, xo_land, xo_lor, xo_lshl, xo_lshr, xo_lushr, xo_i2l, xo_l2i, xo_lcmp, xo_dup, xo_dup2, xo_pop, xo_goto, xo_icmp, xo_if, xo_switch, xo_getf, xo_puti, xo_putz, xo_putr, xo_iald, xo_bald, xo_lald, xo_aald, xo_iast, xo_bast, xo_last, xo_aast, xo_alen, xo_new, xo_newa, xo_throw, xo_call, xo_objinit, xo_abs, xo_max, xo_ret, hR]
      exact ih _ _ ⟨_, _, rfl, rfl, S1, S2, S3⟩
    have hgof : gof T s o = if o < sl T s then some (fg T s + sr T s + o) else some (fg T s + o - sl T s) := by
      unfold gof
      have hc' : sg T s = 60 ∨ sg T s = 62 := hc
      rw [if_neg (by omega), if_pos hc]
    rw [WP_force]
    rcases hc with hc | hc
    · have hl : ltf T s o = if o < sl T s then 0 else 1 := by
        unfold ltf
        rw [if_neg (by omega), if_neg (by omega), if_pos hc]
      rw [hc] at e1
      by_cases u : o < sl T s
      · rw [if_pos u] at hgof hl
        simp +decide (discharger := first | decide | assumption | omega) only [WP_go, cd, ↓reduceIte, Nat.reduceLT, Nat.reduceAdd, Nat.reduceSub, Nat.reduceMul, Nat.reduceEqDiff, WX_next, WX_call, WX_end, WX_none, xkt, xkn, xkc, xst, nb_, nbl_, nble_, decide_true, decide_false, Bool.and_true, Bool.true_and, Bool.and_false, Bool.false_and, Bool.not_true, Bool.not_false, Bool.true_or, Bool.false_or, cond_true, cond_false, List.getElem?_cons_zero, List.getElem?_cons_succ, List.getElem?_nil, List.set_cons_zero, List.set_cons_succ, List.length_cons, List.length_nil, xok, xtg, xcmp, xargs, xsum, xcat, xmn, xdp, xlo, xml, xmc, xrt, xrecv, xent, xmake, xec, xes, Nat.reduceLeDiff, Int.reduceAdd, Int.reduceToNat, Int.reduceLE, xz_cast, xz_cast0, xz_cast1, Bool.false_eq_true, not_false_eq_true, not_true_eq_false, and_true, true_and, and_self, true_or, or_true, WP_sw0, WP_swT, WP_swF, WX_ifT, WX_ifF, WX_ifN, Int32.reduceOfInt, Int.reduceNeg, List.replicate, Nat.zero_add, Nat.lt_irrefl, Option.toList, List.cons_append, List.nil_append, WK_ret, ↓q_m1d, ↓q_m2d, q_lit, q_ofN, q_cl, q_add, q_sub, q_m1, pk_mul, q_ltT, q_ltF, q_leN, q_eqT, q_eqF, q_n1lt, q_ltn1, q_len1, q_n1le, q_eqn1, q_n1eq, xin_nI, decide_eq_true_eq, Bool.not_eq_true', decide_eq_false_iff_not, up3_s, up3_t, up3_n, up3_k, up3_e, cd_84, cd_84, @WC_in 84, xo_iconst, xo_lconst, xo_iload, xo_lload, xo_aload, xo_istore, xo_astore, xo_iinc, xo_iadd, xo_isub, xo_imul, xo_iand, xo_idiv, xo_irem, xo_land, xo_lor, xo_lshl, xo_lshr, xo_lushr, xo_i2l, xo_l2i, xo_lcmp, xo_dup, xo_dup2, xo_pop, xo_goto, xo_icmp, xo_if, xo_switch, xo_getf, xo_puti, xo_putz, xo_putr, xo_iald, xo_bald, xo_lald, xo_aald, xo_iast, xo_bast, xo_last, xo_aast, xo_alen, xo_new, xo_newa, xo_throw, xo_call, xo_objinit, xo_abs, xo_max, xo_ret, hR, e1]
        exact NX _ _ (nI 0) (by rw [if_pos u]) hgof rfl (by rw [hl]; exact nar01 (by omega))
      · rw [if_neg u] at hgof hl
        simp +decide (discharger := first | decide | assumption | omega) only [WP_go, cd, ↓reduceIte, Nat.reduceLT, Nat.reduceAdd, Nat.reduceSub, Nat.reduceMul, Nat.reduceEqDiff, WX_next, WX_call, WX_end, WX_none, xkt, xkn, xkc, xst, nb_, nbl_, nble_, decide_true, decide_false, Bool.and_true, Bool.true_and, Bool.and_false, Bool.false_and, Bool.not_true, Bool.not_false, Bool.true_or, Bool.false_or, cond_true, cond_false, List.getElem?_cons_zero, List.getElem?_cons_succ, List.getElem?_nil, List.set_cons_zero, List.set_cons_succ, List.length_cons, List.length_nil, xok, xtg, xcmp, xargs, xsum, xcat, xmn, xdp, xlo, xml, xmc, xrt, xrecv, xent, xmake, xec, xes, Nat.reduceLeDiff, Int.reduceAdd, Int.reduceToNat, Int.reduceLE, xz_cast, xz_cast0, xz_cast1, Bool.false_eq_true, not_false_eq_true, not_true_eq_false, and_true, true_and, and_self, true_or, or_true, WP_sw0, WP_swT, WP_swF, WX_ifT, WX_ifF, WX_ifN, Int32.reduceOfInt, Int.reduceNeg, List.replicate, Nat.zero_add, Nat.lt_irrefl, Option.toList, List.cons_append, List.nil_append, WK_ret, ↓q_m1d, ↓q_m2d, q_lit, q_ofN, q_cl, q_add, q_sub, q_m1, pk_mul, q_ltT, q_ltF, q_leN, q_eqT, q_eqF, q_n1lt, q_ltn1, q_len1, q_n1le, q_eqn1, q_n1eq, xin_nI, decide_eq_true_eq, Bool.not_eq_true', decide_eq_false_iff_not, up3_s, up3_t, up3_n, up3_k, up3_e, cd_84, cd_84, @WC_in 84, xo_iconst, xo_lconst, xo_iload, xo_lload, xo_aload, xo_istore, xo_astore, xo_iinc, xo_iadd, xo_isub, xo_imul, xo_iand, xo_idiv, xo_irem, xo_land, xo_lor, xo_lshl, xo_lshr, xo_lushr, xo_i2l, xo_l2i, xo_lcmp, xo_dup, xo_dup2, xo_pop, xo_goto, xo_icmp, xo_if, xo_switch, xo_getf, xo_puti, xo_putz, xo_putr, xo_iald, xo_bald, xo_lald, xo_aald, xo_iast, xo_bast, xo_last, xo_aast, xo_alen, xo_new, xo_newa, xo_throw, xo_call, xo_objinit, xo_abs, xo_max, xo_ret, hR, e1]
        exact NX _ _ (nI 1) (by rw [if_neg u]) hgof rfl (by rw [hl]; exact nar01 (by omega))
    · have hl : ltf T s o = if o < sl T s then 1 else 0 := by
        unfold ltf
        rw [if_neg (by omega), if_neg (by omega), if_neg (by omega), if_pos hc]
      rw [hc] at e1
      by_cases u : o < sl T s
      · rw [if_pos u] at hgof hl
        simp +decide (discharger := first | decide | assumption | omega) only [WP_go, cd, ↓reduceIte, Nat.reduceLT, Nat.reduceAdd, Nat.reduceSub, Nat.reduceMul, Nat.reduceEqDiff, WX_next, WX_call, WX_end, WX_none, xkt, xkn, xkc, xst, nb_, nbl_, nble_, decide_true, decide_false, Bool.and_true, Bool.true_and, Bool.and_false, Bool.false_and, Bool.not_true, Bool.not_false, Bool.true_or, Bool.false_or, cond_true, cond_false, List.getElem?_cons_zero, List.getElem?_cons_succ, List.getElem?_nil, List.set_cons_zero, List.set_cons_succ, List.length_cons, List.length_nil, xok, xtg, xcmp, xargs, xsum, xcat, xmn, xdp, xlo, xml, xmc, xrt, xrecv, xent, xmake, xec, xes, Nat.reduceLeDiff, Int.reduceAdd, Int.reduceToNat, Int.reduceLE, xz_cast, xz_cast0, xz_cast1, Bool.false_eq_true, not_false_eq_true, not_true_eq_false, and_true, true_and, and_self, true_or, or_true, WP_sw0, WP_swT, WP_swF, WX_ifT, WX_ifF, WX_ifN, Int32.reduceOfInt, Int.reduceNeg, List.replicate, Nat.zero_add, Nat.lt_irrefl, Option.toList, List.cons_append, List.nil_append, WK_ret, ↓q_m1d, ↓q_m2d, q_lit, q_ofN, q_cl, q_add, q_sub, q_m1, pk_mul, q_ltT, q_ltF, q_leN, q_eqT, q_eqF, q_n1lt, q_ltn1, q_len1, q_n1le, q_eqn1, q_n1eq, xin_nI, decide_eq_true_eq, Bool.not_eq_true', decide_eq_false_iff_not, up3_s, up3_t, up3_n, up3_k, up3_e, cd_84, cd_84, @WC_in 84, xo_iconst, xo_lconst, xo_iload, xo_lload, xo_aload, xo_istore, xo_astore, xo_iinc, xo_iadd, xo_isub, xo_imul, xo_iand, xo_idiv, xo_irem, xo_land, xo_lor, xo_lshl, xo_lshr, xo_lushr, xo_i2l, xo_l2i, xo_lcmp, xo_dup, xo_dup2, xo_pop, xo_goto, xo_icmp, xo_if, xo_switch, xo_getf, xo_puti, xo_putz, xo_putr, xo_iald, xo_bald, xo_lald, xo_aald, xo_iast, xo_bast, xo_last, xo_aast, xo_alen, xo_new, xo_newa, xo_throw, xo_call, xo_objinit, xo_abs, xo_max, xo_ret, hR, e1]
        exact NX _ _ (nI 1) (by rw [if_pos u]) hgof rfl (by rw [hl]; exact nar01 (by omega))
      · rw [if_neg u] at hgof hl
        simp +decide (discharger := first | decide | assumption | omega) only [WP_go, cd, ↓reduceIte, Nat.reduceLT, Nat.reduceAdd, Nat.reduceSub, Nat.reduceMul, Nat.reduceEqDiff, WX_next, WX_call, WX_end, WX_none, xkt, xkn, xkc, xst, nb_, nbl_, nble_, decide_true, decide_false, Bool.and_true, Bool.true_and, Bool.and_false, Bool.false_and, Bool.not_true, Bool.not_false, Bool.true_or, Bool.false_or, cond_true, cond_false, List.getElem?_cons_zero, List.getElem?_cons_succ, List.getElem?_nil, List.set_cons_zero, List.set_cons_succ, List.length_cons, List.length_nil, xok, xtg, xcmp, xargs, xsum, xcat, xmn, xdp, xlo, xml, xmc, xrt, xrecv, xent, xmake, xec, xes, Nat.reduceLeDiff, Int.reduceAdd, Int.reduceToNat, Int.reduceLE, xz_cast, xz_cast0, xz_cast1, Bool.false_eq_true, not_false_eq_true, not_true_eq_false, and_true, true_and, and_self, true_or, or_true, WP_sw0, WP_swT, WP_swF, WX_ifT, WX_ifF, WX_ifN, Int32.reduceOfInt, Int.reduceNeg, List.replicate, Nat.zero_add, Nat.lt_irrefl, Option.toList, List.cons_append, List.nil_append, WK_ret, ↓q_m1d, ↓q_m2d, q_lit, q_ofN, q_cl, q_add, q_sub, q_m1, pk_mul, q_ltT, q_ltF, q_leN, q_eqT, q_eqF, q_n1lt, q_ltn1, q_len1, q_n1le, q_eqn1, q_n1eq, xin_nI, decide_eq_true_eq, Bool.not_eq_true', decide_eq_false_iff_not, up3_s, up3_t, up3_n, up3_k, up3_e, cd_84, cd_84, @WC_in 84, xo_iconst, xo_lconst, xo_iload, xo_lload, xo_aload, xo_istore, xo_astore, xo_iinc, xo_iadd, xo_isub, xo_imul, xo_iand, xo_idiv, xo_irem, xo_land, xo_lor, xo_lshl, xo_lshr, xo_lushr, xo_i2l, xo_l2i, xo_lcmp, xo_dup, xo_dup2, xo_pop, xo_goto, xo_icmp, xo_if, xo_switch, xo_getf, xo_puti, xo_putz, xo_putr, xo_iald, xo_bald, xo_lald, xo_aald, xo_iast, xo_bast, xo_last, xo_aast, xo_alen, xo_new, xo_newa, xo_throw, xo_call, xo_objinit, xo_abs, xo_max, xo_ret, hR, e1]
        exact NX _ _ (nI 0) (by rw [if_neg u]) hgof rfl (by rw [hl]; exact nar01 (by omega))
  · rintro _ _ ⟨σ1, z7, rfl, rfl, F1, P1, G1⟩
    rw [WP_force]
    simp +decide (discharger := first | decide | assumption | omega) only [WP_go, cd, ↓reduceIte, Nat.reduceLT, Nat.reduceAdd, Nat.reduceSub, Nat.reduceMul, Nat.reduceEqDiff, WX_next, WX_call, WX_end, WX_none, xkt, xkn, xkc, xst, nb_, nbl_, nble_, decide_true, decide_false, Bool.and_true, Bool.true_and, Bool.and_false, Bool.false_and, Bool.not_true, Bool.not_false, Bool.true_or, Bool.false_or, cond_true, cond_false, List.getElem?_cons_zero, List.getElem?_cons_succ, List.getElem?_nil, List.set_cons_zero, List.set_cons_succ, List.length_cons, List.length_nil, xok, xtg, xcmp, xargs, xsum, xcat, xmn, xdp, xlo, xml, xmc, xrt, xrecv, xent, xmake, xec, xes, Nat.reduceLeDiff, Int.reduceAdd, Int.reduceToNat, Int.reduceLE, xz_cast, xz_cast0, xz_cast1, Bool.false_eq_true, not_false_eq_true, not_true_eq_false, and_true, true_and, and_self, true_or, or_true, WP_sw0, WP_swT, WP_swF, WX_ifT, WX_ifF, WX_ifN, Int32.reduceOfInt, Int.reduceNeg, List.replicate, Nat.zero_add, Nat.lt_irrefl, Option.toList, List.cons_append, List.nil_append, WK_ret, ↓q_m1d, ↓q_m2d, q_lit, q_ofN, q_cl, q_add, q_sub, q_m1, pk_mul, q_ltT, q_ltF, q_leN, q_eqT, q_eqF, q_n1lt, q_ltn1, q_len1, q_n1le, q_eqn1, q_n1eq, xin_nI, decide_eq_true_eq, Bool.not_eq_true', decide_eq_false_iff_not, up3_s, up3_t, up3_n, up3_k, up3_e, cd_84, cd_84, @WC_in 84, xo_iconst, xo_lconst, xo_iload, xo_lload, xo_aload, xo_istore, xo_astore, xo_iinc, xo_iadd, xo_isub, xo_imul, xo_iand, xo_idiv, xo_irem, xo_land, xo_lor, xo_lshl, xo_lshr, xo_lushr, xo_i2l, xo_l2i, xo_lcmp, xo_dup, xo_dup2, xo_pop, xo_goto, xo_icmp, xo_if, xo_switch, xo_getf, xo_puti, xo_putz, xo_putr, xo_iald, xo_bald, xo_lald, xo_aald, xo_iast, xo_bast, xo_last, xo_aast, xo_alen, xo_new, xo_newa, xo_throw, xo_call, xo_objinit, xo_abs, xo_max, xo_ret, hR]
    refine hQ _ F1 ⟨?_, ?_⟩
    · rw [ft_s, ht]; exact P1.1
    · rw [fg_s, hgn]
      intro j hj
      by_cases u : j < fg T s
      · exact P1.2 j u
      · by_cases v : j < fg T s + sr T s
        · have := G1 (j - fg T s + sl T s) (by omega)
          rw [if_neg (by omega), show fg T s + (j - fg T s + sl T s) - sl T s = j by omega] at this
          exact this
        · have := G1 (j - fg T s - sr T s) (by omega)
          rw [if_pos (by omega), show fg T s + sr T s + (j - fg T s - sr T s) = j by omega] at this
          exact this
