/-! the next row, by the class: the loops that it makes -/
/-- the i-th column that the carrier comes to in the row over row r -/
def colo (r n i : Nat) : Nat := if (r + 1) % 2 = 1 then n - 1 - i else i
theorem colo_lt {r n i : Nat} (h : i < n) : colo r n i < n := by unfold colo; split <;> omega
theorem colo_colo {r n i : Nat} (h : i < n) : colo r n (colo r n i) = i := by unfold colo; split <;> omega
theorem colo_inj {r n i j : Nat} (hi : i < n) (hj : j < n) (h : colo r n i = colo r n j) : i = j := by
  rw [← colo_colo (r := r) hi, h, colo_colo hj]
def mkc (T : Nat → Nat) (N r n : Nat) (i : Nat) : Nat := cnt (fun i => pK T N (colo r n i)) i
def nsv (T : Nat → Nat) (N r n lp : Nat) (h0 : Nat → List Nat) (i : Nat) : List Nat := if sg T (idx (fg T) N (colo r n i)) = 109 then h0 (colo r n i) else if sg T (idx (fg T) N (colo r n i)) = 116 then h0 (colo r n i) ++ [lp + mkc T N r n i] else [lp + mkc T N r n i]
def hm (T : Nat → Nat) (N r n lp : Nat) (h0 : Nat → List Nat) : Nat → Nat → List Nat
  | 0 => h0
  | i + 1 => upL (hm T N r n lp h0 i) (colo r n i) (nsv T N r n lp h0 i)
theorem hm_u {T : Nat → Nat} {N r n lp : Nat} {h0 : Nat → List Nat} {q : Nat} : ∀ {i : Nat}, (∀ j, j < i → colo r n j ≠ q) → hm T N r n lp h0 i q = h0 q
  | 0, _ => rfl
  | i + 1, h => by
    show upL (hm T N r n lp h0 i) (colo r n i) _ q = _
    unfold upL
    rw [if_neg (fun e => h i (by omega) e.symm)]
    exact hm_u (fun j hj => h j (by omega))
theorem hm_c {T : Nat → Nat} {N r n lp : Nat} {h0 : Nat → List Nat} {j : Nat} : ∀ {i : Nat}, i ≤ n → j < i → hm T N r n lp h0 i (colo r n j) = nsv T N r n lp h0 j
  | 0, _, h => absurd h (by omega)
  | i + 1, hn, h => by
    show upL (hm T N r n lp h0 i) (colo r n i) _ (colo r n j) = _
    unfold upL
    by_cases e : j = i
    · rw [e, if_pos rfl]
    · rw [if_neg (fun u => e (colo_inj (by omega) (by omega) u))]
      exact hm_c (by omega) (by omega)
def nlo (T : Nat → Nat) (N r n lp q : Nat) (nb : Nat → Nat) (lo : Nat → Nat → Nat) : Nat → Nat → Nat → Nat
  | 0 => lo
  | i + 1 => fun x k => if pK T N (colo r n i) = true ∧ x = lp + mkc T N r n i then [r + 1, colo r n i, nb (colo r n i), q].getD k 0 else nlo T N r n lp q nb lo i x k
def npa (T : Nat → Nat) (N r n lp : Nat) (h0 : Nat → List Nat) (pa : Nat → List Nat) : Nat → Nat → List Nat
  | 0 => pa
  | i + 1 => fun x => if pK T N (colo r n i) = true ∧ x = lp + mkc T N r n i then (if sg T (idx (fg T) N (colo r n i)) = 116 then [] else h0 (colo r n i)) else npa T N r n lp h0 pa i x
def wm (T : Nat → Nat) (N r n lp : Nat) (h0 : Nat → List Nat) (b : Nat → Int32) : Nat → Nat → Int32
  | 0 => b
  | i + 1 => fun x => if pK T N (colo r n i) = true then (if sg T (idx (fg T) N (colo r n i)) ≠ 116 ∧ x ∈ h0 (colo r n i) then neg1 else if x = lp + mkc T N r n i then nI (colo r n i) else wm T N r n lp h0 b i x) else wm T N r n lp h0 b i x
/-- the bed of a given column -/
def nbd (T : Nat → Nat) (N : Nat) (bd : Nat → Nat) (q : Nat) : Nat := bdn T (idx (fg T) N q) (bd (ft T (idx (fg T) N q)))
/-- a loop as the class keeps it -/
def LDx (σ : Nat → Nat → Nat → Int32) (lo : Nat → Nat → Nat) (pa : Nat → List Nat) (x : Nat) : Prop := σ 23 0 x = nI (lo x 0) ∧ σ 24 0 x = nI (lo x 1) ∧ σ 25 0 x = nI (lo x 2) ∧ σ 26 0 x = nI (lo x 3) ∧ ∀ j, j < 4 → σ 28 0 (x * 4 + j) = if j < (pa x).length then nI ((pa x).getD j 0) else neg1
theorem LDx_k {σ σ' : Nat → Nat → Nat → Int32} {lo lo' : Nat → Nat → Nat} {pa pa' : Nat → List Nat} {x : Nat} (h : LDx σ lo pa x) (e1 : ∀ t, t ≠ 28 → t ≠ 27 → t ∈ [23, 24, 25, 26] → σ' t 0 x = σ t 0 x) (e2 : ∀ j, j < 4 → σ' 28 0 (x * 4 + j) = σ 28 0 (x * 4 + j)) (e3 : ∀ k, lo' x k = lo x k) (e4 : pa' x = pa x) : LDx σ' lo' pa' x := by
  obtain ⟨h1, h2, h3, h4, h5⟩ := h
  unfold LDx
  rw [e3, e3, e3, e3, e4, e1 23 (by decide) (by decide) (by decide), e1 24 (by decide) (by decide) (by decide), e1 25 (by decide) (by decide) (by decide), e1 26 (by decide) (by decide) (by decide)]
  exact ⟨h1, h2, h3, h4, fun j hj => (e2 j hj).trans (h5 j hj)⟩
abbrev Pz (R t m : Nat) : Prop := (t = 10 ∨ t = 19 ∨ t = 20 ∨ t = 21) ∧ m = R ∨ Pl t m
theorem EC_f {T : Nat → Nat} {σ σ' : Nat → Nat → Nat → Int32} {P : Nat → Nat → Prop} {i : Nat} (h : EC T σ i) (hf : FrP P σ σ') (hp : ¬ P 13 i) : EC T σ' i := by
  unfold EC at h ⊢
  rw [hf 13 i 0 hp, hf 13 i 1 hp, hf 13 i 2 hp, hf 13 i 3 hp, hf 13 i 4 hp, hf 13 i 5 hp]
  exact h
theorem c_makeLoops {σ : Nat → Nat → Nat → Int32} {g : Nat → Nat → Nat → Int64} {ρ : Nat → Nat → Nat → Option XR} {k : Nat → Nat} {L c w : Nat} {Q : XO → XM → Prop} {T : Nat → Nat} {N r lp q : Nat} {h0 : Nat → List Nat} {bd : Nat → Nat} {lo : Nat → Nat → Nat} {pa : Nat → List Nat} (hR : RC ρ) (hr : r < 20) (hV : VT T N) (hf : ft T N ≤ 16) (hg : fg T N ≤ 16) (hM : MK T N σ ρ (ft T N) (fg T N)) (hE : ∀ j, j < N → EC T σ j) (hB : ∀ j, j < ft T N → σ 21 r j = nI (bd j)) (h106 : σ 1 0 6 = nI (r + 1)) (h100 : σ 10 (r + 1) 0 = nI (fg T N)) (h105 : σ 10 r 5 = nI lp) (hH : RS (r + 1) h0 σ) (hh : ∀ c, c < fg T N → sg T (idx (fg T) N c) = 116 → (h0 c).length < 4) (hy : ∀ c y, c < fg T N → y ∈ h0 c → y < lp) (hL : lp + mkc T N r (fg T N) (fg T N) ≤ 300) (hD : ∀ x, x < lp → LDx σ lo pa x) (hQ : ∀ σ', FrP (Pz (r + 1)) σ σ' → (∀ j, j ≠ 5 → σ' 10 (r + 1) j = σ 10 (r + 1) j) → σ' 10 (r + 1) 5 = nI (lp + mkc T N r (fg T N) (fg T N)) → RS (r + 1) (hm T N r (fg T N) lp h0 (fg T N)) σ' → (∀ c, c < fg T N → σ' 21 (r + 1) c = nI (nbd T N bd c)) → (∀ x, x < lp + mkc T N r (fg T N) (fg T N) → LDx σ' (nlo T N r (fg T N) lp q (nbd T N bd) lo (fg T N)) (npa T N r (fg T N) lp h0 pa (fg T N)) x) → (∀ x, σ' 27 0 x = wm T N r (fg T N) lp h0 (σ 27 0) (fg T N) x) → Q (.inl none) (σ', g, ρ, k, L, c, w)) : WC 26 [.inr (.inr (some (1, 0))), .inr (.inr (some (10, r))), .inr (.inr (some (10, r + 1))), .inl (nI q)] (σ, g, ρ, k, L, c, w) Q := by
  simp +decide (discharger := first | decide | assumption | omega) only [WP_go, cd, ↓reduceIte, Nat.reduceLT, Nat.reduceAdd, Nat.reduceSub, Nat.reduceMul, Nat.reduceEqDiff, WX_next, WX_call, WX_end, WX_none, xkt, xkn, xkc, xst, nb_, nbl_, nble_, decide_true, decide_false, Bool.and_true, Bool.true_and, Bool.and_false, Bool.false_and, Bool.not_true, Bool.not_false, Bool.true_or, Bool.false_or, cond_true, cond_false, List.getElem?_cons_zero, List.getElem?_cons_succ, List.getElem?_nil, List.set_cons_zero, List.set_cons_succ, List.length_cons, List.length_nil, xok, xtg, xcmp, xargs, xsum, xcat, xmn, xdp, xlo, xml, xmc, xrt, xrecv, xent, xmake, xec, xes, Nat.reduceLeDiff, Int.reduceAdd, Int.reduceToNat, Int.reduceLE, xz_cast, xz_cast0, xz_cast1, Bool.false_eq_true, not_false_eq_true, not_true_eq_false, and_true, true_and, and_self, true_or, or_true, WP_sw0, WP_swT, WP_swF, WX_ifT, WX_ifF, WX_ifN, Int32.reduceOfInt, Int.reduceNeg, List.replicate, Nat.zero_add, Nat.lt_irrefl, Option.toList, List.cons_append, List.nil_append, WK_ret, ↓q_m1d, ↓q_m2d, q_lit, q_ofN, q_cl, q_add, q_sub, q_m1, pk_mul, q_ltT, q_ltF, q_leN, q_eqT, q_eqF, q_n1lt, q_ltn1, q_len1, q_n1le, q_eqn1, q_n1eq, xin_nI, decide_eq_true_eq, Bool.not_eq_true', decide_eq_false_iff_not, up3_s, up3_t, up3_n, up3_k, up3_e, cd_26, cd_26, @WC_in 26, xo_iconst, xo_lconst, xo_iload, xo_lload, xo_aload, xo_istore, xo_astore, xo_iinc, xo_iadd, xo_isub, xo_imul, xo_iand, xo_idiv, xo_irem, xo_land, xo_lor, xo_lshl, xo_lshr, xo_lushr, xo_i2l, xo_l2i, xo_lcmp, xo_dup, xo_dup2, xo_pop, xo_goto, xo_icmp, xo_if, xo_switch, xo_getf, xo_puti, xo_putz, xo_putr, xo_iald, xo_bald, xo_lald, xo_aald, xo_iast, xo_bast, xo_last, xo_aast, xo_alen, xo_new, xo_newa, xo_throw, xo_call, xo_objinit, xo_abs, xo_max, xo_ret, hR, h105]
  refine lp_upL (fun i lv M => ∃ σ' z5 z6 z7, lv = [some (.inr (.inr (some (1, 0)))), some (.inr (.inr (some (10, r)))), some (.inr (.inr (some (10, r + 1)))), some (.inl (nI q)), some (.inl (nI i)), z5, z6, z7] ∧ M = (σ', g, ρ, k, L, c, w) ∧ FrP (Pz (r + 1)) σ σ' ∧ (∀ j, j ≠ 5 → σ' 10 (r + 1) j = σ 10 (r + 1) j) ∧ σ' 10 (r + 1) 5 = nI (lp + mkc T N r (fg T N) i) ∧ RS (r + 1) (hm T N r (fg T N) lp h0 i) σ' ∧ (∀ j, j < i → σ' 21 (r + 1) (colo r (fg T N) j) = nI (nbd T N bd (colo r (fg T N) j))) ∧ (∀ x, x < lp + mkc T N r (fg T N) i → LDx σ' (nlo T N r (fg T N) lp q (nbd T N bd) lo i) (npa T N r (fg T N) lp h0 pa i) x) ∧ (∀ x, σ' 27 0 x = wm T N r (fg T N) lp h0 (σ 27 0) i x)) (fg T N) ?_ ?_ 0 _ _ (by omega) ⟨_, _, _, _, rfl, rfl, FrP.rf.up (Or.inl ⟨Or.inl rfl, rfl⟩), fun j hj => up3_k hj, up3_s, hH, fun j hj => absurd hj (by omega), hD, fun x => rfl⟩
  · rintro i _ _ hi ⟨σ1, z5, z6, z7, rfl, rfl, F1, A1, B1, H1, C1, D1, W1⟩ ih
    have c100 : σ1 10 (r + 1) 0 = nI (fg T N) := (A1 0 (by decide)).trans h100
    have c106 : σ1 1 0 6 = nI (r + 1) := (F1 _ _ _ (by omega)).trans h106
    have hrem : nI (r + 1) - nI (r + 1) / nI 2 * nI 2 = nI ((r + 1) % 2) := q_rem (by omega) (by omega) (by omega)
    have hm2 : (r + 1) % 2 < 2 := Nat.mod_lt _ (by omega)
    have hcl := colo_lt (r := r) hi
    obtain ⟨s1, s2, s3⟩ := idx_ok (f := fg T) rfl hcl
    have hgv : 0 < gvn T (idx (fg T) N (colo r (fg T N) i)) := by rw [fg_s] at s3; omega
    have b0 := (hV _ s1).1
    have e1 := EC_f (hE _ s1) F1 (by omega)
    have n120 : sg T (idx (fg T) N (colo r (fg T N) i)) ≠ 120 := by
      intro e
      unfold gvn gv at hgv
      rw [if_neg (by omega), if_pos e] at hgv
      omega
    have hu : hm T N r (fg T N) lp h0 i (colo r (fg T N) i) = h0 (colo r (fg T N) i) := hm_u (fun j hj e => by have := colo_inj (by omega) hi e; omega)
    have r17 := hM.2.2.2.2 _ hcl
    have MK1 : pK T N (colo r (fg T N) i) = true → mkc T N r (fg T N) (i + 1) = mkc T N r (fg T N) i + 1 := fun e => cnt_y (p := fun i => pK T N (colo r (fg T N) i)) e
    have MK0 : pK T N (colo r (fg T N) i) = false → mkc T N r (fg T N) (i + 1) = mkc T N r (fg T N) i := fun e => cnt_n (p := fun i => pK T N (colo r (fg T N) i)) e
    have ML : mkc T N r (fg T N) (i + 1) ≤ mkc T N r (fg T N) (fg T N) := mono_of (f := mkc T N r (fg T N)) (fun i => Nat.le_add_right _ _) hi
    generalize hG : colo r (fg T N) i = G at *
    have KEY : ∀ z7, WC 68 [.inr (.inr (some (13, idx (fg T) N G))), .inr (.inr (some (10, r)))] (σ1, g, ρ, k, L, c, w) (WK 26 67 [some (.inr (.inr (some (1, 0)))), some (.inr (.inr (some (10, r)))), some (.inr (.inr (some (10, r + 1)))), some (.inl (nI q)), some (.inl (nI i)), some (.inl (nI G)), some (.inr (.inr (some (13, idx (fg T) N G)))), z7] [.inl (nI G), .inr (.inr (some (21, r + 1)))] Q) := by
      intro z7
      refine c_bedNeeded (b := bd (ft T (idx (fg T) N G))) hR (by omega) b0 e1 (fun hk => ?_) ?_
      · have t1 : tkn T (idx (fg T) N G) = 1 := by
          unfold tkn tk
          rw [if_neg (by omega), if_neg (by omega), if_neg (by omega), if_neg (by omega)]
        have := ft_le (T := T) (show idx (fg T) N G + 1 ≤ N from s1)
        rw [ft_s, t1] at this
        exact ⟨by omega, (F1 _ _ _ (by omega)).trans (hB _ (by omega))⟩
      have hnb : bdn T (idx (fg T) N G) (bd (ft T (idx (fg T) N G))) = nbd T N bd G := rfl
      rw [hnb]
      simp +decide (discharger := first | decide | assumption | omega) only [WP_go, cd, ↓reduceIte, Nat.reduceLT, Nat.reduceAdd, Nat.reduceSub, Nat.reduceMul, Nat.reduceEqDiff, WX_next, WX_call, WX_end, WX_none, xkt, xkn, xkc, xst, nb_, nbl_, nble_, decide_true, decide_false, Bool.and_true, Bool.true_and, Bool.and_false, Bool.false_and, Bool.not_true, Bool.not_false, Bool.true_or, Bool.false_or, cond_true, cond_false, List.getElem?_cons_zero, List.getElem?_cons_succ, List.getElem?_nil, List.set_cons_zero, List.set_cons_succ, List.length_cons, List.length_nil, xok, xtg, xcmp, xargs, xsum, xcat, xmn, xdp, xlo, xml, xmc, xrt, xrecv, xent, xmake, xec, xes, Nat.reduceLeDiff, Int.reduceAdd, Int.reduceToNat, Int.reduceLE, xz_cast, xz_cast0, xz_cast1, Bool.false_eq_true, not_false_eq_true, not_true_eq_false, and_true, true_and, and_self, true_or, or_true, WP_sw0, WP_swT, WP_swF, WX_ifT, WX_ifF, WX_ifN, Int32.reduceOfInt, Int.reduceNeg, List.replicate, Nat.zero_add, Nat.lt_irrefl, Option.toList, List.cons_append, List.nil_append, WK_ret, ↓q_m1d, ↓q_m2d, q_lit, q_ofN, q_cl, q_add, q_sub, q_m1, pk_mul, q_ltT, q_ltF, q_leN, q_eqT, q_eqF, q_n1lt, q_ltn1, q_len1, q_n1le, q_eqn1, q_n1eq, xin_nI, decide_eq_true_eq, Bool.not_eq_true', decide_eq_false_iff_not, up3_s, up3_t, up3_n, up3_k, up3_e, cd_26, xo_iconst, xo_lconst, xo_iload, xo_lload, xo_aload, xo_istore, xo_astore, xo_iinc, xo_iadd, xo_isub, xo_imul, xo_iand, xo_idiv, xo_irem, xo_land, xo_lor, xo_lshl, xo_lshr, xo_lushr, xo_i2l, xo_l2i, xo_lcmp, xo_dup, xo_dup2, xo_pop, xo_goto, xo_icmp, xo_if, xo_switch, xo_getf, xo_puti, xo_putz, xo_putr, xo_iald, xo_bald, xo_lald, xo_aald, xo_iast, xo_bast, xo_last, xo_aast, xo_alen, xo_new, xo_newa, xo_throw, xo_call, xo_objinit, xo_abs, xo_max, xo_ret, hR]
      generalize hσ2 : up3 σ1 21 (r + 1) G (nI (nbd T N bd G)) = σ2
      have F12 : FrP (fun t m => t = 21 ∧ m = r + 1) σ1 σ2 := by rw [← hσ2]; exact FrP.rf.up ⟨rfl, rfl⟩
      have F2 : FrP (Pz (r + 1)) σ σ2 := by rw [← hσ2]; exact F1.up (Or.inl ⟨Or.inr (Or.inr (Or.inr rfl)), rfl⟩)
      have v21 : σ2 21 (r + 1) G = nI (nbd T N bd G) := by rw [← hσ2]; exact up3_s
      have C2 : ∀ j, j < i + 1 → σ2 21 (r + 1) (colo r (fg T N) j) = nI (nbd T N bd (colo r (fg T N) j)) := by
        intro j hj
        by_cases e : j = i
        · rw [e, hG]; exact v21
        · rw [← hσ2, up3_k (fun u => e (colo_inj (by omega) hi (u.trans hG.symm)))]
          exact C1 j (by omega)
      have H2 := RS_f H1 F12 (by omega) (by omega)
      have A2 : ∀ j, j ≠ 5 → σ2 10 (r + 1) j = σ 10 (r + 1) j := fun j hj => (F12 _ _ _ (by omega)).trans (A1 j hj)
      have B2 : σ2 10 (r + 1) 5 = nI (lp + mkc T N r (fg T N) i) := (F12 _ _ _ (by omega)).trans B1
      have D2 : ∀ x, x < lp + mkc T N r (fg T N) i → LDx σ2 (nlo T N r (fg T N) lp q (nbd T N bd) lo i) (npa T N r (fg T N) lp h0 pa i) x := fun x hx => LDx_k (D1 x hx) (fun t t1 t2 t3 => F12 _ _ _ (fun e => by rw [e.1] at t3; exact absurd t3 (by decide))) (fun j hj => F12 _ _ _ (by omega)) (fun _ => rfl) rfl
      have W2 : ∀ x, σ2 27 0 x = wm T N r (fg T N) lp h0 (σ 27 0) i x := fun x => (F12 _ _ _ (by omega)).trans (W1 x)
      have c206 : σ2 1 0 6 = nI (r + 1) := (F12 _ _ _ (by omega)).trans c106
      have e2 := EC_f e1 F12 (by omega)
      clear hσ2
      refine c_makes b0 e2.1 (fun u => ?_) (fun u => ?_)
      · have hp : pK T N G = true := by unfold pK; rw [decide_eq_false (by omega)]; rfl
        have hp2 : pK T N (colo r (fg T N) i) = true := by rw [hG]; exact hp
        have M1 := MK1 hp
        simp +decide (discharger := first | decide | assumption | omega) only [WP_go, cd, ↓reduceIte, Nat.reduceLT, Nat.reduceAdd, Nat.reduceSub, Nat.reduceMul, Nat.reduceEqDiff, WX_next, WX_call, WX_end, WX_none, xkt, xkn, xkc, xst, nb_, nbl_, nble_, decide_true, decide_false, Bool.and_true, Bool.true_and, Bool.and_false, Bool.false_and, Bool.not_true, Bool.not_false, Bool.true_or, Bool.false_or, cond_true, cond_false, List.getElem?_cons_zero, List.getElem?_cons_succ, List.getElem?_nil, List.set_cons_zero, List.set_cons_succ, List.length_cons, List.length_nil, xok, xtg, xcmp, xargs, xsum, xcat, xmn, xdp, xlo, xml, xmc, xrt, xrecv, xent, xmake, xec, xes, Nat.reduceLeDiff, Int.reduceAdd, Int.reduceToNat, Int.reduceLE, xz_cast, xz_cast0, xz_cast1, Bool.false_eq_true, not_false_eq_true, not_true_eq_false, and_true, true_and, and_self, true_or, or_true, WP_sw0, WP_swT, WP_swF, WX_ifT, WX_ifF, WX_ifN, Int32.reduceOfInt, Int.reduceNeg, List.replicate, Nat.zero_add, Nat.lt_irrefl, Option.toList, List.cons_append, List.nil_append, WK_ret, ↓q_m1d, ↓q_m2d, q_lit, q_ofN, q_cl, q_add, q_sub, q_m1, pk_mul, q_ltT, q_ltF, q_leN, q_eqT, q_eqF, q_n1lt, q_ltn1, q_len1, q_n1le, q_eqn1, q_n1eq, xin_nI, decide_eq_true_eq, Bool.not_eq_true', decide_eq_false_iff_not, up3_s, up3_t, up3_n, up3_k, up3_e, cd_26, xo_iconst, xo_lconst, xo_iload, xo_lload, xo_aload, xo_istore, xo_astore, xo_iinc, xo_iadd, xo_isub, xo_imul, xo_iand, xo_idiv, xo_irem, xo_land, xo_lor, xo_lshl, xo_lshr, xo_lushr, xo_i2l, xo_l2i, xo_lcmp, xo_dup, xo_dup2, xo_pop, xo_goto, xo_icmp, xo_if, xo_switch, xo_getf, xo_puti, xo_putz, xo_putr, xo_iald, xo_bald, xo_lald, xo_aald, xo_iast, xo_bast, xo_last, xo_aast, xo_alen, xo_new, xo_newa, xo_throw, xo_call, xo_objinit, xo_abs, xo_max, xo_ret, hR, B2, c206, v21]
        refine c_mkLoop hR (by omega) (fun σ3 F3 O3 v1 v2 v3 v4 v5 O28 N28 => ?_)
        have hmade : ∀ x, x < lp + mkc T N r (fg T N) i → x ≠ lp + mkc T N r (fg T N) i := fun x hx => by omega
        have DATA : ∀ σ4, (∀ t, t ∈ [23, 24, 25, 26] → σ4 t 0 = σ3 t 0) → (∀ y, y < (lp + mkc T N r (fg T N) i) * 4 → σ4 28 0 y = σ3 28 0 y) → (∀ j, j < 4 → σ4 28 0 ((lp + mkc T N r (fg T N) i) * 4 + j) = if j < (npa T N r (fg T N) lp h0 pa (i + 1) (lp + mkc T N r (fg T N) i)).length then nI ((npa T N r (fg T N) lp h0 pa (i + 1) (lp + mkc T N r (fg T N) i)).getD j 0) else neg1) → ∀ x, x < lp + mkc T N r (fg T N) (i + 1) → LDx σ4 (nlo T N r (fg T N) lp q (nbd T N bd) lo (i + 1)) (npa T N r (fg T N) lp h0 pa (i + 1)) x := by
          intro σ4 q1 q2 q3 x hx
          by_cases e : x = lp + mkc T N r (fg T N) i
          · have en : ∀ k, nlo T N r (fg T N) lp q (nbd T N bd) lo (i + 1) x k = [r + 1, G, nbd T N bd G, q].getD k 0 := fun k => by
              show (if _ then _ else _) = _
              rw [if_pos ⟨hp2, e⟩, hG]
            subst e
            refine ⟨?_, ?_, ?_, ?_, q3⟩
            · rw [en, q1 23 (by decide), v1]; rfl
            · rw [en, q1 24 (by decide), v2]; rfl
            · rw [en, q1 25 (by decide), v3]; rfl
            · rw [en, q1 26 (by decide), v4]; rfl
          · refine LDx_k (D2 x (by omega)) (fun t t1 t2 t3 => by rw [q1 t t3]; exact O3 t x t1 e) (fun j hj => by rw [q2 _ (by omega)]; exact O28 _ (by omega)) (fun k => ?_) ?_
            · exact if_neg (fun u => e u.2)
            · exact if_neg (fun u => e u.2)
        have F13 : FrP (Pz (r + 1)) σ σ3 := F2.tr (F3.mono (fun t m u => Or.inr u))
        have H3 := RS_f H2 F3 (by omega) (by omega)
        have g0 : σ3 13 (idx (fg T) N G) 0 = nI (sg T (idx (fg T) N G)) := (EC_f e2 F3 (by omega)).1
        have B3 : σ3 10 (r + 1) 5 = nI (lp + mkc T N r (fg T N) i) := (F3 _ _ _ (by omega)).trans B2
        by_cases k : sg T (idx (fg T) N G) = 116
        · have d10 := (H3 G (by omega)).2.1
          have hl := hh G hcl k
          have PU := RS_push (x := lp + mkc T N r (fg T N) i) H3 (show G < 16 by omega) (by rw [hu]; omega)
          rw [hu] at d10 PU
          have hpa : npa T N r (fg T N) lp h0 pa (i + 1) (lp + mkc T N r (fg T N) i) = [] := by
            show (if _ then _ else _) = _
            rw [if_pos ⟨hp2, rfl⟩, if_pos (by rw [hG]; exact k)]
          rw [k] at g0
          simp +decide (discharger := first | decide | assumption | omega) only [WP_go, cd, ↓reduceIte, Nat.reduceLT, Nat.reduceAdd, Nat.reduceSub, Nat.reduceMul, Nat.reduceEqDiff, WX_next, WX_call, WX_end, WX_none, xkt, xkn, xkc, xst, nb_, nbl_, nble_, decide_true, decide_false, Bool.and_true, Bool.true_and, Bool.and_false, Bool.false_and, Bool.not_true, Bool.not_false, Bool.true_or, Bool.false_or, cond_true, cond_false, List.getElem?_cons_zero, List.getElem?_cons_succ, List.getElem?_nil, List.set_cons_zero, List.set_cons_succ, List.length_cons, List.length_nil, xok, xtg, xcmp, xargs, xsum, xcat, xmn, xdp, xlo, xml, xmc, xrt, xrecv, xent, xmake, xec, xes, Nat.reduceLeDiff, Int.reduceAdd, Int.reduceToNat, Int.reduceLE, xz_cast, xz_cast0, xz_cast1, Bool.false_eq_true, not_false_eq_true, not_true_eq_false, and_true, true_and, and_self, true_or, or_true, WP_sw0, WP_swT, WP_swF, WX_ifT, WX_ifF, WX_ifN, Int32.reduceOfInt, Int.reduceNeg, List.replicate, Nat.zero_add, Nat.lt_irrefl, Option.toList, List.cons_append, List.nil_append, WK_ret, ↓q_m1d, ↓q_m2d, q_lit, q_ofN, q_cl, q_add, q_sub, q_m1, pk_mul, q_ltT, q_ltF, q_leN, q_eqT, q_eqF, q_n1lt, q_ltn1, q_len1, q_n1le, q_eqn1, q_n1eq, xin_nI, decide_eq_true_eq, Bool.not_eq_true', decide_eq_false_iff_not, up3_s, up3_t, up3_n, up3_k, up3_e, cd_26, cd_65, @WC_in 65, xo_iconst, xo_lconst, xo_iload, xo_lload, xo_aload, xo_istore, xo_astore, xo_iinc, xo_iadd, xo_isub, xo_imul, xo_iand, xo_idiv, xo_irem, xo_land, xo_lor, xo_lshl, xo_lshr, xo_lushr, xo_i2l, xo_l2i, xo_lcmp, xo_dup, xo_dup2, xo_pop, xo_goto, xo_icmp, xo_if, xo_switch, xo_getf, xo_puti, xo_putz, xo_putr, xo_iald, xo_bald, xo_lald, xo_aald, xo_iast, xo_bast, xo_last, xo_aast, xo_alen, xo_new, xo_newa, xo_throw, xo_call, xo_objinit, xo_abs, xo_max, xo_ret, hR, g0]
          refine c_push hR (by omega) (by omega) hl d10 ?_
          simp +decide (discharger := first | decide | assumption | omega) only [WP_go, cd, ↓reduceIte, Nat.reduceLT, Nat.reduceAdd, Nat.reduceSub, Nat.reduceMul, Nat.reduceEqDiff, WX_next, WX_call, WX_end, WX_none, xkt, xkn, xkc, xst, nb_, nbl_, nble_, decide_true, decide_false, Bool.and_true, Bool.true_and, Bool.and_false, Bool.false_and, Bool.not_true, Bool.not_false, Bool.true_or, Bool.false_or, cond_true, cond_false, List.getElem?_cons_zero, List.getElem?_cons_succ, List.getElem?_nil, List.set_cons_zero, List.set_cons_succ, List.length_cons, List.length_nil, xok, xtg, xcmp, xargs, xsum, xcat, xmn, xdp, xlo, xml, xmc, xrt, xrecv, xent, xmake, xec, xes, Nat.reduceLeDiff, Int.reduceAdd, Int.reduceToNat, Int.reduceLE, xz_cast, xz_cast0, xz_cast1, Bool.false_eq_true, not_false_eq_true, not_true_eq_false, and_true, true_and, and_self, true_or, or_true, WP_sw0, WP_swT, WP_swF, WX_ifT, WX_ifF, WX_ifN, Int32.reduceOfInt, Int.reduceNeg, List.replicate, Nat.zero_add, Nat.lt_irrefl, Option.toList, List.cons_append, List.nil_append, WK_ret, ↓q_m1d, ↓q_m2d, q_lit, q_ofN, q_cl, q_add, q_sub, q_m1, pk_mul, q_ltT, q_ltF, q_leN, q_eqT, q_eqF, q_n1lt, q_ltn1, q_len1, q_n1le, q_eqn1, q_n1eq, xin_nI, decide_eq_true_eq, Bool.not_eq_true', decide_eq_false_iff_not, up3_s, up3_t, up3_n, up3_k, up3_e, cd_26, xo_iconst, xo_lconst, xo_iload, xo_lload, xo_aload, xo_istore, xo_astore, xo_iinc, xo_iadd, xo_isub, xo_imul, xo_iand, xo_idiv, xo_irem, xo_land, xo_lor, xo_lshl, xo_lshr, xo_lushr, xo_i2l, xo_l2i, xo_lcmp, xo_dup, xo_dup2, xo_pop, xo_goto, xo_icmp, xo_if, xo_switch, xo_getf, xo_puti, xo_putz, xo_putr, xo_iald, xo_bald, xo_lald, xo_aald, xo_iast, xo_bast, xo_last, xo_aast, xo_alen, xo_new, xo_newa, xo_throw, xo_call, xo_objinit, xo_abs, xo_max, xo_ret, hR, B3]
          refine ih _ _ ⟨_, _, _, _, rfl, rfl, ((F13.up (Or.inl ⟨Or.inr (Or.inl rfl), rfl⟩)).up (Or.inl ⟨Or.inr (Or.inr (Or.inl rfl)), rfl⟩)).up (Or.inl ⟨Or.inl rfl, rfl⟩), fun j hj => ?_, ?_, ?_, fun j hj => ?_, ?_, fun x => ?_⟩
          · rw [up3_k hj, up3_t (by decide), up3_t (by decide), F3 _ _ _ (by omega)]; exact A2 j hj
          · rw [up3_s, M1]; rfl
          · refine RS_f (P := fun t _ => t = 10) (RS_e PU (fun q' _ => ?_)) (FrP.rf.up rfl) (by decide) (by decide)
            have en : nsv T N r (fg T N) lp h0 i = h0 G ++ [lp + mkc T N r (fg T N) i] := by unfold nsv; rw [hG, if_neg (by omega), if_pos k]
            show upL _ (colo r (fg T N) i) _ q' = _
            rw [hG, en]
          · rw [up3_t (by decide), up3_t (by decide), up3_t (by decide), F3 _ _ _ (by omega)]; exact C2 j hj
          · refine DATA _ (fun t ht => ?_) (fun y hy => ?_) (fun j hj => ?_)
            · funext y
              rw [up3_t (by rintro rfl; exact absurd ht (by decide)), up3_t (by rintro rfl; exact absurd ht (by decide)), up3_t (by rintro rfl; exact absurd ht (by decide))]
            · rw [up3_t (by decide), up3_t (by decide), up3_t (by decide)]
            · rw [up3_t (by decide), up3_t (by decide), up3_t (by decide), hpa]
              exact N28 j hj
          · rw [up3_t (by decide), up3_t (by decide), up3_t (by decide)]
            show _ = (if _ then _ else _)
            rw [if_pos hp2, if_neg (fun u => u.1 (by rw [hG]; exact k)), hG]
            by_cases e : x = lp + mkc T N r (fg T N) i
            · rw [if_pos e, e]; exact v5
            · rw [if_neg e, O3 27 x (by decide) e]; exact W2 x
        · have d10 := (H3 G (by omega)).2
          have d11 := (H3 G (by omega)).1
          rw [hu] at d10 d11
          have hpa : npa T N r (fg T N) lp h0 pa (i + 1) (lp + mkc T N r (fg T N) i) = h0 G := by
            show (if _ then _ else _) = _
            rw [if_pos ⟨hp2, rfl⟩, if_neg (by rw [hG]; exact k), hG]
          have k2 : sg T (idx (fg T) N G) ≠ 109 := by omega
          simp +decide (discharger := first | decide | assumption | omega) only [WP_go, cd, ↓reduceIte, Nat.reduceLT, Nat.reduceAdd, Nat.reduceSub, Nat.reduceMul, Nat.reduceEqDiff, WX_next, WX_call, WX_end, WX_none, xkt, xkn, xkc, xst, nb_, nbl_, nble_, decide_true, decide_false, Bool.and_true, Bool.true_and, Bool.and_false, Bool.false_and, Bool.not_true, Bool.not_false, Bool.true_or, Bool.false_or, cond_true, cond_false, List.getElem?_cons_zero, List.getElem?_cons_succ, List.getElem?_nil, List.set_cons_zero, List.set_cons_succ, List.length_cons, List.length_nil, xok, xtg, xcmp, xargs, xsum, xcat, xmn, xdp, xlo, xml, xmc, xrt, xrecv, xent, xmake, xec, xes, Nat.reduceLeDiff, Int.reduceAdd, Int.reduceToNat, Int.reduceLE, xz_cast, xz_cast0, xz_cast1, Bool.false_eq_true, not_false_eq_true, not_true_eq_false, and_true, true_and, and_self, true_or, or_true, WP_sw0, WP_swT, WP_swF, WX_ifT, WX_ifF, WX_ifN, Int32.reduceOfInt, Int.reduceNeg, List.replicate, Nat.zero_add, Nat.lt_irrefl, Option.toList, List.cons_append, List.nil_append, WK_ret, ↓q_m1d, ↓q_m2d, q_lit, q_ofN, q_cl, q_add, q_sub, q_m1, pk_mul, q_ltT, q_ltF, q_leN, q_eqT, q_eqF, q_n1lt, q_ltn1, q_len1, q_n1le, q_eqn1, q_n1eq, xin_nI, decide_eq_true_eq, Bool.not_eq_true', decide_eq_false_iff_not, up3_s, up3_t, up3_n, up3_k, up3_e, cd_26, cd_65, @WC_in 65, xo_iconst, xo_lconst, xo_iload, xo_lload, xo_aload, xo_istore, xo_astore, xo_iinc, xo_iadd, xo_isub, xo_imul, xo_iand, xo_idiv, xo_irem, xo_land, xo_lor, xo_lshl, xo_lshr, xo_lushr, xo_i2l, xo_l2i, xo_lcmp, xo_dup, xo_dup2, xo_pop, xo_goto, xo_icmp, xo_if, xo_switch, xo_getf, xo_puti, xo_putz, xo_putr, xo_iald, xo_bald, xo_lald, xo_aald, xo_iast, xo_bast, xo_last, xo_aast, xo_alen, xo_new, xo_newa, xo_throw, xo_call, xo_objinit, xo_abs, xo_max, xo_ret, hR, g0]
          refine c_draw hR (by omega) (by omega) (by omega) d11 (fun y h => by have := hy G y hcl h; omega) d10.1 d10.2 (fun σ4 F4 P4 O4 W4 Z4 Y4 => ?_)
          have H4 : RS (r + 1) (upL (hm T N r (fg T N) lp h0 i) G []) σ4 := by
            intro q' hq'
            unfold upL
            by_cases e : q' = G
            · rw [if_pos e]
              exact ⟨by simp, by rw [e, Z4]; rfl, fun d hd => absurd hd (Nat.not_lt_zero d)⟩
            · rw [if_neg e]
              have := H3 q' hq'
              exact ⟨this.1, (Y4 q' e).trans this.2.1, fun d hd => (F4 _ _ _ (by omega)).trans (this.2.2 d hd)⟩
          have PU := RS_push (x := lp + mkc T N r (fg T N) i) H4 (show G < 16 by omega) (by unfold upL; rw [if_pos rfl]; simp)
          have eL : (upL (hm T N r (fg T N) lp h0 i) G [] G) = [] := by unfold upL; rw [if_pos rfl]
          rw [eL] at PU
          have F14 : FrP (Pz (r + 1)) σ σ4 := F13.tr (F4.mono (fun t m u => by rcases u with u | u | u; exact Or.inr (by omega); exact Or.inr (by omega); exact Or.inl ⟨Or.inr (Or.inr (Or.inl u.1)), u.2⟩))
          have B4 : σ4 10 (r + 1) 5 = nI (lp + mkc T N r (fg T N) i) := (F4 _ _ _ (by omega)).trans B3
          simp +decide (discharger := first | decide | assumption | omega) only [WP_go, cd, ↓reduceIte, Nat.reduceLT, Nat.reduceAdd, Nat.reduceSub, Nat.reduceMul, Nat.reduceEqDiff, WX_next, WX_call, WX_end, WX_none, xkt, xkn, xkc, xst, nb_, nbl_, nble_, decide_true, decide_false, Bool.and_true, Bool.true_and, Bool.and_false, Bool.false_and, Bool.not_true, Bool.not_false, Bool.true_or, Bool.false_or, cond_true, cond_false, List.getElem?_cons_zero, List.getElem?_cons_succ, List.getElem?_nil, List.set_cons_zero, List.set_cons_succ, List.length_cons, List.length_nil, xok, xtg, xcmp, xargs, xsum, xcat, xmn, xdp, xlo, xml, xmc, xrt, xrecv, xent, xmake, xec, xes, Nat.reduceLeDiff, Int.reduceAdd, Int.reduceToNat, Int.reduceLE, xz_cast, xz_cast0, xz_cast1, Bool.false_eq_true, not_false_eq_true, not_true_eq_false, and_true, true_and, and_self, true_or, or_true, WP_sw0, WP_swT, WP_swF, WX_ifT, WX_ifF, WX_ifN, Int32.reduceOfInt, Int.reduceNeg, List.replicate, Nat.zero_add, Nat.lt_irrefl, Option.toList, List.cons_append, List.nil_append, WK_ret, ↓q_m1d, ↓q_m2d, q_lit, q_ofN, q_cl, q_add, q_sub, q_m1, pk_mul, q_ltT, q_ltF, q_leN, q_eqT, q_eqF, q_n1lt, q_ltn1, q_len1, q_n1le, q_eqn1, q_n1eq, xin_nI, decide_eq_true_eq, Bool.not_eq_true', decide_eq_false_iff_not, up3_s, up3_t, up3_n, up3_k, up3_e, cd_26, xo_iconst, xo_lconst, xo_iload, xo_lload, xo_aload, xo_istore, xo_astore, xo_iinc, xo_iadd, xo_isub, xo_imul, xo_iand, xo_idiv, xo_irem, xo_land, xo_lor, xo_lshl, xo_lshr, xo_lushr, xo_i2l, xo_l2i, xo_lcmp, xo_dup, xo_dup2, xo_pop, xo_goto, xo_icmp, xo_if, xo_switch, xo_getf, xo_puti, xo_putz, xo_putr, xo_iald, xo_bald, xo_lald, xo_aald, xo_iast, xo_bast, xo_last, xo_aast, xo_alen, xo_new, xo_newa, xo_throw, xo_call, xo_objinit, xo_abs, xo_max, xo_ret, hR]
          refine c_push hR (by omega) (by omega) (n := 0) (by omega) Z4 ?_
          simp +decide (discharger := first | decide | assumption | omega) only [WP_go, cd, ↓reduceIte, Nat.reduceLT, Nat.reduceAdd, Nat.reduceSub, Nat.reduceMul, Nat.reduceEqDiff, WX_next, WX_call, WX_end, WX_none, xkt, xkn, xkc, xst, nb_, nbl_, nble_, decide_true, decide_false, Bool.and_true, Bool.true_and, Bool.and_false, Bool.false_and, Bool.not_true, Bool.not_false, Bool.true_or, Bool.false_or, cond_true, cond_false, List.getElem?_cons_zero, List.getElem?_cons_succ, List.getElem?_nil, List.set_cons_zero, List.set_cons_succ, List.length_cons, List.length_nil, xok, xtg, xcmp, xargs, xsum, xcat, xmn, xdp, xlo, xml, xmc, xrt, xrecv, xent, xmake, xec, xes, Nat.reduceLeDiff, Int.reduceAdd, Int.reduceToNat, Int.reduceLE, xz_cast, xz_cast0, xz_cast1, Bool.false_eq_true, not_false_eq_true, not_true_eq_false, and_true, true_and, and_self, true_or, or_true, WP_sw0, WP_swT, WP_swF, WX_ifT, WX_ifF, WX_ifN, Int32.reduceOfInt, Int.reduceNeg, List.replicate, Nat.zero_add, Nat.lt_irrefl, Option.toList, List.cons_append, List.nil_append, WK_ret, ↓q_m1d, ↓q_m2d, q_lit, q_ofN, q_cl, q_add, q_sub, q_m1, pk_mul, q_ltT, q_ltF, q_leN, q_eqT, q_eqF, q_n1lt, q_ltn1, q_len1, q_n1le, q_eqn1, q_n1eq, xin_nI, decide_eq_true_eq, Bool.not_eq_true', decide_eq_false_iff_not, up3_s, up3_t, up3_n, up3_k, up3_e, cd_26, xo_iconst, xo_lconst, xo_iload, xo_lload, xo_aload, xo_istore, xo_astore, xo_iinc, xo_iadd, xo_isub, xo_imul, xo_iand, xo_idiv, xo_irem, xo_land, xo_lor, xo_lshl, xo_lshr, xo_lushr, xo_i2l, xo_l2i, xo_lcmp, xo_dup, xo_dup2, xo_pop, xo_goto, xo_icmp, xo_if, xo_switch, xo_getf, xo_puti, xo_putz, xo_putr, xo_iald, xo_bald, xo_lald, xo_aald, xo_iast, xo_bast, xo_last, xo_aast, xo_alen, xo_new, xo_newa, xo_throw, xo_call, xo_objinit, xo_abs, xo_max, xo_ret, hR, B4]
          refine ih _ _ ⟨_, _, _, _, rfl, rfl, ((F14.up (Or.inl ⟨Or.inr (Or.inl rfl), rfl⟩)).up (Or.inl ⟨Or.inr (Or.inr (Or.inl rfl)), rfl⟩)).up (Or.inl ⟨Or.inl rfl, rfl⟩), fun j hj => ?_, ?_, ?_, fun j hj => ?_, ?_, fun x => ?_⟩
          · rw [up3_k hj, up3_t (by decide), up3_t (by decide), F4 _ _ _ (by omega), F3 _ _ _ (by omega)]; exact A2 j hj
          · rw [up3_s, M1]; rfl
          · refine RS_f (P := fun t _ => t = 10) (RS_e PU (fun q' _ => ?_)) (FrP.rf.up rfl) (by decide) (by decide)
            have en : nsv T N r (fg T N) lp h0 i = [lp + mkc T N r (fg T N) i] := by unfold nsv; rw [hG, if_neg k2, if_neg k]
            show upL _ (colo r (fg T N) i) _ q' = _
            rw [hG, en]
            unfold upL
            by_cases e : q' = G
            · rw [if_pos e, if_pos e]; rfl
            · rw [if_neg e, if_neg e, if_neg e]
          · rw [up3_t (by decide), up3_t (by decide), up3_t (by decide), F4 _ _ _ (by omega), F3 _ _ _ (by omega)]; exact C2 j hj
          · refine DATA _ (fun t ht => ?_) (fun y hy => ?_) (fun j hj => ?_)
            · funext y
              rw [up3_t (by rintro rfl; exact absurd ht (by decide)), up3_t (by rintro rfl; exact absurd ht (by decide)), up3_t (by rintro rfl; exact absurd ht (by decide))]
              exact F4 _ _ _ (by
                rintro (u | u | u)
                · subst u; exact absurd ht (by decide)
                · subst u; exact absurd ht (by decide)
                · rw [u.1] at ht; exact absurd ht (by decide))
            · rw [up3_t (by decide), up3_t (by decide), up3_t (by decide)]
              exact O4 y (Or.inl hy)
            · rw [up3_t (by decide), up3_t (by decide), up3_t (by decide), hpa]
              by_cases e : j < (h0 G).length
              · rw [if_pos e]; exact P4 j e
              · rw [if_neg e, O4 _ (by omega)]; exact N28 j hj
          · rw [up3_t (by decide), up3_t (by decide), up3_t (by decide), W4 x]
            show _ = (if _ then _ else _)
            rw [if_pos hp2, hG]
            by_cases u : x ∈ h0 G
            · rw [if_pos u, if_pos ⟨k, u⟩]
            · rw [if_neg u, if_neg (fun v => u v.2)]
              by_cases e : x = lp + mkc T N r (fg T N) i
              · rw [if_pos e, e]; exact v5
              · rw [if_neg e, O3 27 x (by decide) e]; exact W2 x
      · have u' : sg T (idx (fg T) N G) = 109 := by omega
        have hp : pK T N G = false := by unfold pK; rw [decide_eq_true u']; rfl
        have hp2 : pK T N (colo r (fg T N) i) = false := by rw [hG]; exact hp
        have hp3 : ¬ pK T N (colo r (fg T N) i) = true := by rw [hp2]; decide
        have M1 := MK0 hp
        simp +decide (discharger := first | decide | assumption | omega) only [WP_go, cd, ↓reduceIte, Nat.reduceLT, Nat.reduceAdd, Nat.reduceSub, Nat.reduceMul, Nat.reduceEqDiff, WX_next, WX_call, WX_end, WX_none, xkt, xkn, xkc, xst, nb_, nbl_, nble_, decide_true, decide_false, Bool.and_true, Bool.true_and, Bool.and_false, Bool.false_and, Bool.not_true, Bool.not_false, Bool.true_or, Bool.false_or, cond_true, cond_false, List.getElem?_cons_zero, List.getElem?_cons_succ, List.getElem?_nil, List.set_cons_zero, List.set_cons_succ, List.length_cons, List.length_nil, xok, xtg, xcmp, xargs, xsum, xcat, xmn, xdp, xlo, xml, xmc, xrt, xrecv, xent, xmake, xec, xes, Nat.reduceLeDiff, Int.reduceAdd, Int.reduceToNat, Int.reduceLE, xz_cast, xz_cast0, xz_cast1, Bool.false_eq_true, not_false_eq_true, not_true_eq_false, and_true, true_and, and_self, true_or, or_true, WP_sw0, WP_swT, WP_swF, WX_ifT, WX_ifF, WX_ifN, Int32.reduceOfInt, Int.reduceNeg, List.replicate, Nat.zero_add, Nat.lt_irrefl, Option.toList, List.cons_append, List.nil_append, WK_ret, ↓q_m1d, ↓q_m2d, q_lit, q_ofN, q_cl, q_add, q_sub, q_m1, pk_mul, q_ltT, q_ltF, q_leN, q_eqT, q_eqF, q_n1lt, q_ltn1, q_len1, q_n1le, q_eqn1, q_n1eq, xin_nI, decide_eq_true_eq, Bool.not_eq_true', decide_eq_false_iff_not, up3_s, up3_t, up3_n, up3_k, up3_e, cd_26, xo_iconst, xo_lconst, xo_iload, xo_lload, xo_aload, xo_istore, xo_astore, xo_iinc, xo_iadd, xo_isub, xo_imul, xo_iand, xo_idiv, xo_irem, xo_land, xo_lor, xo_lshl, xo_lshr, xo_lushr, xo_i2l, xo_l2i, xo_lcmp, xo_dup, xo_dup2, xo_pop, xo_goto, xo_icmp, xo_if, xo_switch, xo_getf, xo_puti, xo_putz, xo_putr, xo_iald, xo_bald, xo_lald, xo_aald, xo_iast, xo_bast, xo_last, xo_aast, xo_alen, xo_new, xo_newa, xo_throw, xo_call, xo_objinit, xo_abs, xo_max, xo_ret, hR]
        refine ih _ _ ⟨_, _, _, _, rfl, rfl, F2, A2, by rw [M1]; exact B2, RS_e H2 (fun q' _ => ?_), C2, fun x hx => ?_, fun x => ?_⟩
        · have en : nsv T N r (fg T N) lp h0 i = h0 G := by unfold nsv; rw [hG, if_pos u']
          show upL _ (colo r (fg T N) i) _ q' = _
          rw [hG, en]
          unfold upL
          by_cases e : q' = G
          · rw [if_pos e, e, hu]
          · rw [if_neg e]
        · rw [M1] at hx
          exact LDx_k (D2 x hx) (fun _ _ _ _ => rfl) (fun _ _ => rfl) (fun _ => if_neg (fun e => hp3 e.1)) (if_neg (fun e => hp3 e.1))
        · rw [W2 x]
          exact (if_neg hp3).symm
    rw [WP_force]
    by_cases hodd : (r + 1) % 2 = 1
    · have eG : fg T N - 1 - i = G := by rw [← hG]; unfold colo; rw [if_pos hodd]
      simp +decide (discharger := first | decide | assumption | omega) only [WP_go, cd, ↓reduceIte, Nat.reduceLT, Nat.reduceAdd, Nat.reduceSub, Nat.reduceMul, Nat.reduceEqDiff, WX_next, WX_call, WX_end, WX_none, xkt, xkn, xkc, xst, nb_, nbl_, nble_, decide_true, decide_false, Bool.and_true, Bool.true_and, Bool.and_false, Bool.false_and, Bool.not_true, Bool.not_false, Bool.true_or, Bool.false_or, cond_true, cond_false, List.getElem?_cons_zero, List.getElem?_cons_succ, List.getElem?_nil, List.set_cons_zero, List.set_cons_succ, List.length_cons, List.length_nil, xok, xtg, xcmp, xargs, xsum, xcat, xmn, xdp, xlo, xml, xmc, xrt, xrecv, xent, xmake, xec, xes, Nat.reduceLeDiff, Int.reduceAdd, Int.reduceToNat, Int.reduceLE, xz_cast, xz_cast0, xz_cast1, Bool.false_eq_true, not_false_eq_true, not_true_eq_false, and_true, true_and, and_self, true_or, or_true, WP_sw0, WP_swT, WP_swF, WX_ifT, WX_ifF, WX_ifN, Int32.reduceOfInt, Int.reduceNeg, List.replicate, Nat.zero_add, Nat.lt_irrefl, Option.toList, List.cons_append, List.nil_append, WK_ret, ↓q_m1d, ↓q_m2d, q_lit, q_ofN, q_cl, q_add, q_sub, q_m1, pk_mul, q_ltT, q_ltF, q_leN, q_eqT, q_eqF, q_n1lt, q_ltn1, q_len1, q_n1le, q_eqn1, q_n1eq, xin_nI, decide_eq_true_eq, Bool.not_eq_true', decide_eq_false_iff_not, up3_s, up3_t, up3_n, up3_k, up3_e, cd_26, cd_26, @WC_in 26, cd_19, @WC_in 19, xo_iconst, xo_lconst, xo_iload, xo_lload, xo_aload, xo_istore, xo_astore, xo_iinc, xo_iadd, xo_isub, xo_imul, xo_iand, xo_idiv, xo_irem, xo_land, xo_lor, xo_lshl, xo_lshr, xo_lushr, xo_i2l, xo_l2i, xo_lcmp, xo_dup, xo_dup2, xo_pop, xo_goto, xo_icmp, xo_if, xo_switch, xo_getf, xo_puti, xo_putz, xo_putr, xo_iald, xo_bald, xo_lald, xo_aald, xo_iast, xo_bast, xo_last, xo_aast, xo_alen, xo_new, xo_newa, xo_throw, xo_call, xo_objinit, xo_abs, xo_max, xo_ret, hR, c100, c106, hrem, hodd, eG, r17]
      exact KEY _
    · have eG : i = G := by rw [← hG]; unfold colo; rw [if_neg hodd]
      have h2 : (r + 1) % 2 = 0 := by omega
      have r17' : ρ 17 0 i = some (13, idx (fg T) N G) := by rw [eG]; exact r17
      have KEY := KEY z7
      simp +decide (discharger := first | decide | assumption | omega) only [WP_go, cd, ↓reduceIte, Nat.reduceLT, Nat.reduceAdd, Nat.reduceSub, Nat.reduceMul, Nat.reduceEqDiff, WX_next, WX_call, WX_end, WX_none, xkt, xkn, xkc, xst, nb_, nbl_, nble_, decide_true, decide_false, Bool.and_true, Bool.true_and, Bool.and_false, Bool.false_and, Bool.not_true, Bool.not_false, Bool.true_or, Bool.false_or, cond_true, cond_false, List.getElem?_cons_zero, List.getElem?_cons_succ, List.getElem?_nil, List.set_cons_zero, List.set_cons_succ, List.length_cons, List.length_nil, xok, xtg, xcmp, xargs, xsum, xcat, xmn, xdp, xlo, xml, xmc, xrt, xrecv, xent, xmake, xec, xes, Nat.reduceLeDiff, Int.reduceAdd, Int.reduceToNat, Int.reduceLE, xz_cast, xz_cast0, xz_cast1, Bool.false_eq_true, not_false_eq_true, not_true_eq_false, and_true, true_and, and_self, true_or, or_true, WP_sw0, WP_swT, WP_swF, WX_ifT, WX_ifF, WX_ifN, Int32.reduceOfInt, Int.reduceNeg, List.replicate, Nat.zero_add, Nat.lt_irrefl, Option.toList, List.cons_append, List.nil_append, WK_ret, ↓q_m1d, ↓q_m2d, q_lit, q_ofN, q_cl, q_add, q_sub, q_m1, pk_mul, q_ltT, q_ltF, q_leN, q_eqT, q_eqF, q_n1lt, q_ltn1, q_len1, q_n1le, q_eqn1, q_n1eq, xin_nI, decide_eq_true_eq, Bool.not_eq_true', decide_eq_false_iff_not, up3_s, up3_t, up3_n, up3_k, up3_e, cd_26, cd_26, @WC_in 26, cd_19, @WC_in 19, xo_iconst, xo_lconst, xo_iload, xo_lload, xo_aload, xo_istore, xo_astore, xo_iinc, xo_iadd, xo_isub, xo_imul, xo_iand, xo_idiv, xo_irem, xo_land, xo_lor, xo_lshl, xo_lshr, xo_lushr, xo_i2l, xo_l2i, xo_lcmp, xo_dup, xo_dup2, xo_pop, xo_goto, xo_icmp, xo_if, xo_switch, xo_getf, xo_puti, xo_putz, xo_putr, xo_iald, xo_bald, xo_lald, xo_aald, xo_iast, xo_bast, xo_last, xo_aast, xo_alen, xo_new, xo_newa, xo_throw, xo_call, xo_objinit, xo_abs, xo_max, xo_ret, hR, c100, c106, hrem, h2, r17']
      rw [← eG] at KEY ⊢
      exact KEY
  · rintro _ _ ⟨σ1, z5, z6, z7, rfl, rfl, F1, A1, B1, H1, C1, D1, W1⟩
    have c100 : σ1 10 (r + 1) 0 = nI (fg T N) := (A1 0 (by decide)).trans h100
    rw [WP_force]
    simp +decide (discharger := first | decide | assumption | omega) only [WP_go, cd, ↓reduceIte, Nat.reduceLT, Nat.reduceAdd, Nat.reduceSub, Nat.reduceMul, Nat.reduceEqDiff, WX_next, WX_call, WX_end, WX_none, xkt, xkn, xkc, xst, nb_, nbl_, nble_, decide_true, decide_false, Bool.and_true, Bool.true_and, Bool.and_false, Bool.false_and, Bool.not_true, Bool.not_false, Bool.true_or, Bool.false_or, cond_true, cond_false, List.getElem?_cons_zero, List.getElem?_cons_succ, List.getElem?_nil, List.set_cons_zero, List.set_cons_succ, List.length_cons, List.length_nil, xok, xtg, xcmp, xargs, xsum, xcat, xmn, xdp, xlo, xml, xmc, xrt, xrecv, xent, xmake, xec, xes, Nat.reduceLeDiff, Int.reduceAdd, Int.reduceToNat, Int.reduceLE, xz_cast, xz_cast0, xz_cast1, Bool.false_eq_true, not_false_eq_true, not_true_eq_false, and_true, true_and, and_self, true_or, or_true, WP_sw0, WP_swT, WP_swF, WX_ifT, WX_ifF, WX_ifN, Int32.reduceOfInt, Int.reduceNeg, List.replicate, Nat.zero_add, Nat.lt_irrefl, Option.toList, List.cons_append, List.nil_append, WK_ret, ↓q_m1d, ↓q_m2d, q_lit, q_ofN, q_cl, q_add, q_sub, q_m1, pk_mul, q_ltT, q_ltF, q_leN, q_eqT, q_eqF, q_n1lt, q_ltn1, q_len1, q_n1le, q_eqn1, q_n1eq, xin_nI, decide_eq_true_eq, Bool.not_eq_true', decide_eq_false_iff_not, up3_s, up3_t, up3_n, up3_k, up3_e, cd_26, cd_26, @WC_in 26, xo_iconst, xo_lconst, xo_iload, xo_lload, xo_aload, xo_istore, xo_astore, xo_iinc, xo_iadd, xo_isub, xo_imul, xo_iand, xo_idiv, xo_irem, xo_land, xo_lor, xo_lshl, xo_lshr, xo_lushr, xo_i2l, xo_l2i, xo_lcmp, xo_dup, xo_dup2, xo_pop, xo_goto, xo_icmp, xo_if, xo_switch, xo_getf, xo_puti, xo_putz, xo_putr, xo_iald, xo_bald, xo_lald, xo_aald, xo_iast, xo_bast, xo_last, xo_aast, xo_alen, xo_new, xo_newa, xo_throw, xo_call, xo_objinit, xo_abs, xo_max, xo_ret, hR, c100]
    refine hQ _ F1 A1 B1 H1 (fun c hc => ?_) D1 W1
    have := C1 (colo r (fg T N) c) (colo_lt hc)
    rw [colo_colo hc] at this
    exact this
