/-! the cloth with its next row -/
def dvs (sel : Nat → Bool) (f : Nat → List Nat) (v : Nat) (b : Nat → Nat) : Nat → Nat → Nat
  | 0, x => b x
  | j + 1, x => if sel j = true ∧ x ∈ f j then v else dvs sel f v b j x
def nS (S : ST) (N q : Nat) : ST := (S.r + 1, S.T, 0, neg1, fun i => if i = S.r + 1 then fg S.T N else S.cN i, fun i => if i = S.r + 1 then hm S.T N S.r (fg S.T N) (S.lp S.r) (msq S.T N (S.st S.r)) (fg S.T N) else S.st i, fun i => if i = S.r + 1 then nbd S.T N (S.bd S.r) else S.bd i, fun i => if i = S.r + 1 then (fun j => if j = q then nI (1 - (S.r + 1) % 2) else S.sd S.r j) else S.sd i, fun i => if i = S.r + 1 then S.lp S.r + mkc S.T N S.r (fg S.T N) (fg S.T N) else S.lp i, fun i => if i = S.r + 1 then S.dr S.r + drs S.T N (S.st S.r) (ft S.T N) else S.dr i, fun i => if i = S.r + 1 then (fun k => [aTr S.T N (S.bd S.r), aRk S.T N, cnt (pN S.T N) (ft S.T N), md S.T N].getD k 0) else S.pg i, fun i => if i = S.r + 1 then S.T else S.tx i, fun i => if i = S.r + 1 then S.n else S.ln i, nlo S.T N S.r (fg S.T N) (S.lp S.r) q (nbd S.T N (S.bd S.r)) S.lo (fg S.T N), npa S.T N S.r (fg S.T N) (S.lp S.r) (msq S.T N (S.st S.r)) S.pa (fg S.T N), dvs (pN S.T N) (S.st S.r) (S.r + 1) (fun x => if S.lp S.r ≤ x then 0 else S.di x) (ft S.T N))
theorem upf_s {α : Type} {f : Nat → α} {k : Nat} {v : α} : (fun i => if i = k then v else f i) k = v := if_pos rfl
theorem upf_n {α : Type} {f : Nat → α} {k i : Nat} {v : α} (h : i ≠ k) : (fun i => if i = k then v else f i) i = f i := if_neg h
section
variable {S : ST} {N q i : Nat}
theorem nS_cN1 : (nS S N q).cN (S.r + 1) = fg S.T N := if_pos rfl
theorem nS_cN0 (h : i ≠ S.r + 1) : (nS S N q).cN i = S.cN i := if_neg h
theorem nS_st1 : (nS S N q).st (S.r + 1) = hm S.T N S.r (fg S.T N) (S.lp S.r) (msq S.T N (S.st S.r)) (fg S.T N) := if_pos rfl
theorem nS_st0 (h : i ≠ S.r + 1) : (nS S N q).st i = S.st i := if_neg h
theorem nS_bd1 : (nS S N q).bd (S.r + 1) = nbd S.T N (S.bd S.r) := if_pos rfl
theorem nS_bd0 (h : i ≠ S.r + 1) : (nS S N q).bd i = S.bd i := if_neg h
theorem nS_sd1 {j : Nat} : (nS S N q).sd (S.r + 1) j = if j = q then nI (1 - (S.r + 1) % 2) else S.sd S.r j := by
  show (if S.r + 1 = S.r + 1 then (fun j => if j = q then nI (1 - (S.r + 1) % 2) else S.sd S.r j) else S.sd (S.r + 1)) j = _
  rw [if_pos rfl]
theorem nS_sd0 (h : i ≠ S.r + 1) : (nS S N q).sd i = S.sd i := if_neg h
theorem nS_lp1 : (nS S N q).lp (S.r + 1) = S.lp S.r + mkc S.T N S.r (fg S.T N) (fg S.T N) := if_pos rfl
theorem nS_lp0 (h : i ≠ S.r + 1) : (nS S N q).lp i = S.lp i := if_neg h
theorem nS_dr1 : (nS S N q).dr (S.r + 1) = S.dr S.r + drs S.T N (S.st S.r) (ft S.T N) := if_pos rfl
theorem nS_dr0 (h : i ≠ S.r + 1) : (nS S N q).dr i = S.dr i := if_neg h
theorem nS_pg1 {k : Nat} : (nS S N q).pg (S.r + 1) k = [aTr S.T N (S.bd S.r), aRk S.T N, cnt (pN S.T N) (ft S.T N), md S.T N].getD k 0 := by
  show (if S.r + 1 = S.r + 1 then (fun k => [aTr S.T N (S.bd S.r), aRk S.T N, cnt (pN S.T N) (ft S.T N), md S.T N].getD k 0) else S.pg (S.r + 1)) k = _
  rw [if_pos rfl]
theorem nS_pg0 (h : i ≠ S.r + 1) : (nS S N q).pg i = S.pg i := if_neg h
theorem nS_tx1 : (nS S N q).tx (S.r + 1) = S.T := if_pos rfl
theorem nS_tx0 (h : i ≠ S.r + 1) : (nS S N q).tx i = S.tx i := if_neg h
theorem nS_ln1 : (nS S N q).ln (S.r + 1) = S.n := if_pos rfl
theorem nS_ln0 (h : i ≠ S.r + 1) : (nS S N q).ln i = S.ln i := if_neg h
theorem nS_N0 (h : i ≠ S.r + 1) : (nS S N q).N i = S.N i := by
  unfold ST.N
  rw [nS_tx0 h, nS_ln0 h]
theorem nS_N1 (hrd : rdr S.T S.n S.n 0 0 = (N, none)) : (nS S N q).N (S.r + 1) = N := by
  unfold ST.N
  rw [nS_tx1, nS_ln1, hrd]
theorem nS_xr0 : ∀ {i : Nat}, i ≤ S.r → (nS S N q).xr i = S.xr i
  | 0, _ => rfl
  | i + 1, h => by
    show (nS S N q).xr i + cbn ((nS S N q).tx (i + 1)) ((nS S N q).N (i + 1)) = S.xr i + cbn (S.tx (i + 1)) (S.N (i + 1))
    rw [nS_xr0 (by omega), nS_tx0 (by omega), nS_N0 (by omega)]
theorem nS_xr1 (hrd : rdr S.T S.n S.n 0 0 = (N, none)) : (nS S N q).xr (S.r + 1) = S.xr S.r + cbn S.T N := by
  show (nS S N q).xr S.r + cbn ((nS S N q).tx (S.r + 1)) ((nS S N q).N (S.r + 1)) = _
  rw [nS_xr0 (Nat.le_refl _), nS_tx1, nS_N1 hrd]
end
/-- a row can be knitted -/
abbrev KH (S : ST) (N : Nat) : Prop := rdr S.T S.n S.n 0 0 = (N, none) ∧ ft S.T N = S.cN S.r ∧ 1 ≤ fg S.T N ∧ fg S.T N ≤ 16 ∧ fsb (ovb S.T (fun j => (S.st S.r j).length)) N = none ∧ S.r < 20 ∧ S.lp S.r + md S.T N ≤ 300
theorem xr_8 {S : ST} (hP : PJ S) : ∀ {i : Nat}, i ≤ S.r → S.xr i ≤ 8 * i
  | 0, _ => Nat.le_refl _
  | i + 1, h => by
    have h1 := xr_8 hP (i := i) (by omega)
    obtain ⟨p1, p2, p3, p4, p5, p6⟩ := hP.2.2.2.2.2.2.2.2.1 (i + 1) (by omega) h
    have p7 := hP.2.2.2.1 i (by omega)
    have hV : VT (S.tx (i + 1)) (S.N (i + 1)) := VT_of p2 (by
      unfold ST.N
      exact Prod.ext rfl p4)
    have := cbn_8 hV (Nat.le_refl _)
    rw [p5] at this
    show S.xr i + cbn (S.tx (i + 1)) (S.N (i + 1)) ≤ _
    have e : i + 1 - 1 = i := rfl
    rw [e] at this
    omega
abbrev PA (R t m : Nat) : Prop := (t = 10 ∨ t = 19 ∨ t = 20 ∨ t = 21 ∨ t = 22) ∧ m = R ∨ t = 6 ∨ (23 ≤ t ∧ t ≤ 32)
/-- where the loops are before the new ones are made -/
def w3 (S : ST) (N : Nat) : Nat → Int32 := wvs (pB S.T N 1) (fun j => oI (cg S.T N j)) (S.st S.r) (wvs (pB S.T N 0) (fun j => oI (cg S.T N j)) (S.st S.r) (wvs (pN S.T N) (fun _ => neg2) (S.st S.r) (fun x => S.wh x) (ft S.T N)) (ft S.T N)) (ft S.T N)
theorem wvs_b {sel : Nat → Bool} {v : Nat → Int32} {f : Nat → List Nat} {b b' : Nat → Int32} {x : Nat} (h : b x = b' x) : ∀ {n : Nat}, wvs sel v f b n x = wvs sel v f b' n x
  | 0 => h
  | n + 1 => by
    show (if _ then _ else _) = (if _ then _ else _)
    rw [wvs_b h]
theorem wm_b {T : Nat → Nat} {N r n lp : Nat} {h0 h0' : Nat → List Nat} {b b' : Nat → Int32} {x : Nat} (h : b x = b' x) (hh : ∀ c, c < n → h0 c = h0' c) : ∀ {i : Nat}, i ≤ n → wm T N r n lp h0 b i x = wm T N r n lp h0' b' i x
  | 0, _ => h
  | i + 1, hi => by
    show (if _ then (if _ then _ else _) else _) = (if _ then (if _ then _ else _) else _)
    rw [wm_b h hh (by omega), hh _ (colo_lt hi)]
theorem hm_b {T : Nat → Nat} {N r n lp : Nat} {h0 h0' : Nat → List Nat} (hh : ∀ c, c < n → h0 c = h0' c) {c : Nat} (hc : c < n) : ∀ {i : Nat}, i ≤ n → hm T N r n lp h0 i c = hm T N r n lp h0' i c
  | 0, _ => hh c hc
  | i + 1, hi => by
    show upL _ _ _ c = upL _ _ _ c
    unfold upL nsv
    rw [hm_b hh hc (by omega), hh _ (colo_lt hi)]
theorem npa_b {T : Nat → Nat} {N r n lp : Nat} {h0 h0' : Nat → List Nat} {pa : Nat → List Nat} (hh : ∀ c, c < n → h0 c = h0' c) {x : Nat} : ∀ {i : Nat}, i ≤ n → npa T N r n lp h0 pa i x = npa T N r n lp h0' pa i x
  | 0, _ => rfl
  | i + 1, hi => by
    show (if _ then (if _ then _ else _) else _) = (if _ then (if _ then _ else _) else _)
    rw [npa_b hh (by omega), hh _ (colo_lt hi)]
theorem c_next {σ : Nat → Nat → Nat → Int32} {g : Nat → Nat → Nat → Int64} {ρ : Nat → Nat → Nat → Option XR} {k : Nat → Nat} {L c w : Nat} {Q : XO → XM → Prop} {S : ST} {N q : Nat} (hR : RC ρ) (hP : PJ S) (hC : CI S σ) (hq : q < 3) (hS7 : S.told = neg1) (hK : KH S N) (hM : MK S.T N σ ρ (ft S.T N) (fg S.T N)) (hE : ∀ j, j < N → EC S.T σ j) (h3 : σ 4 0 3 = nI N) (h5 : σ 4 0 5 = nI (fg S.T N)) (h6 : σ 4 0 6 = nI (md S.T N)) (hwh : ∀ x, x < S.lp S.r + mkc S.T N S.r (fg S.T N) (fg S.T N) → wm S.T N S.r (fg S.T N) (S.lp S.r) (msq S.T N (S.st S.r)) (w3 S N) (fg S.T N) x = (nS S N q).wh x) (hwb : ∀ x, S.lp S.r ≤ x → ∀ b b' : Nat → Int32, x < S.lp S.r + mkc S.T N S.r (fg S.T N) (fg S.T N) → wm S.T N S.r (fg S.T N) (S.lp S.r) (msq S.T N (S.st S.r)) b (fg S.T N) x = wm S.T N S.r (fg S.T N) (S.lp S.r) (msq S.T N (S.st S.r)) b' (fg S.T N) x) (hQ : ∀ σ', CI (nS S N q) (up3 σ' 4 0 1 (nI 0)) → FrP (fun t _ => t ≠ 2 ∧ t < 33) (fun t n k => σ t n k) (fun t n k => σ t n k) → (∀ t n k, 33 ≤ t ∨ t = 0 → σ' t n k = σ t n k) → (∀ k, σ' 2 0 k = σ 2 0 k) → Q (.inl none) (σ', g, ρ, k, L, c, w)) : WC 22 [.inr (.inr (some (1, 0))), .inl (nI q)] (σ, g, ρ, k, L, c, w) Q := by
  obtain ⟨k1, k2, k3, k4, k5, k6, k7⟩ := hK
  obtain ⟨C1, C2, C3, C4, C5, C6, C7, C8, C9, C10, C11, C12, C13, C14, C15, C16, C17, C18, C19, C20, C21, C22, C23, C24⟩ := hC
  have hV : VT S.T N := VT_of hP.2.2.1 k1
  have hN : N ≤ 40 := Nat.le_trans (rdr_N k1) hP.2.1
  have p4 := hP.2.2.2.1 S.r (Nat.le_refl _)
  have hf : ft S.T N ≤ 16 := by rw [k2]; exact p4
  have lpr := hP.2.2.2.2.2.1 S.r (Nat.le_refl _)
  have mk3 : S.lp S.r + mkc S.T N S.r (fg S.T N) (fg S.T N) ≤ 300 := by rw [mkc_all, md_cnt (Nat.le_refl N)]; exact k7
  have c6 := C1
  have s10 := C5 S.r (Nat.le_refl _)
  have hBS : BS S.r (ft S.T N) (S.lp S.r) (S.st S.r) σ := by
    rw [k2]
    exact ⟨fun j hj => hP.2.2.2.2.1 S.r j (Nat.le_refl _) hj, fun j hj => C6 S.r j (Nat.le_refl _) hj, fun j d hj hd => C7 S.r j d (Nat.le_refl _) hj hd, fun j x hj hx => hP.2.2.2.2.2.2.1 S.r j x (Nat.le_refl _) hj hx, lpr⟩
  have hbb : ∀ j, j < ft S.T N → S.bd S.r j ≤ 1 := fun j hj => hP.2.2.2.2.2.2.2.2.2.2.2.2.2.2.2.2.2.2 S.r j (Nat.le_refl _) (by rw [← k2]; exact hj)
  have m16 : ∀ c, c < 16 → (brl S.T N 1 (S.st S.r) (brl S.T N 0 (S.st S.r) (fun _ => []) (ft S.T N)) (ft S.T N) c).length ≤ 4 := by
    intro c hc
    by_cases u : c < fg S.T N
    · rw [bb_e hV u]
      have := msq_len hV u hBS.1 k5
      omega
    · rw [bb_0 hV u]; simp
  have m16' : ∀ c, c < 16 → (brl S.T N 0 (S.st S.r) (fun _ => []) (ft S.T N) c).length ≤ 4 := by
    intro c hc
    have := m16 c hc
    rw [brl_e, List.length_append] at this
    omega
  simp +decide (discharger := first | decide | assumption | omega) only [WP_go, cd, ↓reduceIte, Nat.reduceLT, Nat.reduceAdd, Nat.reduceSub, Nat.reduceMul, Nat.reduceEqDiff, WX_next, WX_call, WX_end, WX_none, xkt, xkn, xkc, xst, nb_, nbl_, nble_, decide_true, decide_false, Bool.and_true, Bool.true_and, Bool.and_false, Bool.false_and, Bool.not_true, Bool.not_false, Bool.true_or, Bool.false_or, cond_true, cond_false, List.getElem?_cons_zero, List.getElem?_cons_succ, List.getElem?_nil, List.set_cons_zero, List.set_cons_succ, List.length_cons, List.length_nil, xok, xtg, xcmp, xargs, xsum, xcat, xmn, xdp, xlo, xml, xmc, xrt, xrecv, xent, xmake, xec, xes, Nat.reduceLeDiff, Int.reduceAdd, Int.reduceToNat, Int.reduceLE, xz_cast, xz_cast0, xz_cast1, Bool.false_eq_true, not_false_eq_true, not_true_eq_false, and_true, true_and, and_self, true_or, or_true, WP_sw0, WP_swT, WP_swF, WX_ifT, WX_ifF, WX_ifN, Int32.reduceOfInt, Int.reduceNeg, List.replicate, Nat.zero_add, Nat.lt_irrefl, Option.toList, List.cons_append, List.nil_append, WK_ret, ↓q_m1d, ↓q_m2d, q_lit, q_ofN, q_cl, q_add, q_sub, q_m1, pk_mul, q_ltT, q_ltF, q_leN, q_eqT, q_eqF, q_n1lt, q_ltn1, q_len1, q_n1le, q_eqn1, q_n1eq, xin_nI, decide_eq_true_eq, Bool.not_eq_true', decide_eq_false_iff_not, up3_s, up3_t, up3_n, up3_k, up3_e, cd_22, cd_22, @WC_in 22, xo_iconst, xo_lconst, xo_iload, xo_lload, xo_aload, xo_istore, xo_astore, xo_iinc, xo_iadd, xo_isub, xo_imul, xo_iand, xo_idiv, xo_irem, xo_land, xo_lor, xo_lshl, xo_lshr, xo_lushr, xo_i2l, xo_l2i, xo_lcmp, xo_dup, xo_dup2, xo_pop, xo_goto, xo_icmp, xo_if, xo_switch, xo_getf, xo_puti, xo_putz, xo_putr, xo_iald, xo_bald, xo_lald, xo_aald, xo_iast, xo_bast, xo_last, xo_aast, xo_alen, xo_new, xo_newa, xo_throw, xo_call, xo_objinit, xo_abs, xo_max, xo_ret, hR, C1, h5]
  generalize hσa : up3 σ 1 0 6 (nI (S.r + 1)) = σa
  have fa : ∀ t n k, ¬ (t = 1 ∧ n = 0 ∧ k = 6) → σa t n k = σ t n k := by
    intro t n k h
    rw [← hσa]
    unfold up3
    split
    · split
      · split
        · exact absurd ⟨‹_›, ‹_›, ‹_›⟩ h
        · rfl
      · rfl
    · rfl
  have a6 : σa 1 0 6 = nI (S.r + 1) := by rw [← hσa]; exact up3_s
  clear hσa
  refine c_begin hR (by omega) (fun σ1 F1 v0 o1 z1 => ?_)
  have G1 : FrP (PA (S.r + 1)) σa σ1 := F1.mono (fun t m u => by omega)
  have g1 : σ1 4 0 6 = nI (md S.T N) := (G1 _ _ _ (by omega)).trans ((fa _ _ _ (by omega)).trans h6)
  simp +decide (discharger := first | decide | assumption | omega) only [WP_go, cd, ↓reduceIte, Nat.reduceLT, Nat.reduceAdd, Nat.reduceSub, Nat.reduceMul, Nat.reduceEqDiff, WX_next, WX_call, WX_end, WX_none, xkt, xkn, xkc, xst, nb_, nbl_, nble_, decide_true, decide_false, Bool.and_true, Bool.true_and, Bool.and_false, Bool.false_and, Bool.not_true, Bool.not_false, Bool.true_or, Bool.false_or, cond_true, cond_false, List.getElem?_cons_zero, List.getElem?_cons_succ, List.getElem?_nil, List.set_cons_zero, List.set_cons_succ, List.length_cons, List.length_nil, xok, xtg, xcmp, xargs, xsum, xcat, xmn, xdp, xlo, xml, xmc, xrt, xrecv, xent, xmake, xec, xes, Nat.reduceLeDiff, Int.reduceAdd, Int.reduceToNat, Int.reduceLE, xz_cast, xz_cast0, xz_cast1, Bool.false_eq_true, not_false_eq_true, not_true_eq_false, and_true, true_and, and_self, true_or, or_true, WP_sw0, WP_swT, WP_swF, WX_ifT, WX_ifF, WX_ifN, Int32.reduceOfInt, Int.reduceNeg, List.replicate, Nat.zero_add, Nat.lt_irrefl, Option.toList, List.cons_append, List.nil_append, WK_ret, ↓q_m1d, ↓q_m2d, q_lit, q_ofN, q_cl, q_add, q_sub, q_m1, pk_mul, q_ltT, q_ltF, q_leN, q_eqT, q_eqF, q_n1lt, q_ltn1, q_len1, q_n1le, q_eqn1, q_n1eq, xin_nI, decide_eq_true_eq, Bool.not_eq_true', decide_eq_false_iff_not, up3_s, up3_t, up3_n, up3_k, up3_e, cd_22, xo_iconst, xo_lconst, xo_iload, xo_lload, xo_aload, xo_istore, xo_astore, xo_iinc, xo_iadd, xo_isub, xo_imul, xo_iand, xo_idiv, xo_irem, xo_land, xo_lor, xo_lshl, xo_lshr, xo_lushr, xo_i2l, xo_l2i, xo_lcmp, xo_dup, xo_dup2, xo_pop, xo_goto, xo_icmp, xo_if, xo_switch, xo_getf, xo_puti, xo_putz, xo_putr, xo_iald, xo_bald, xo_lald, xo_aald, xo_iast, xo_bast, xo_last, xo_aast, xo_alen, xo_new, xo_newa, xo_throw, xo_call, xo_objinit, xo_abs, xo_max, xo_ret, hR, g1]
  generalize hσ2 : up3 σ1 10 (S.r + 1) 11 (nI (md S.T N)) = σ2
  have F12 : FrP (fun t m => t = 10 ∧ m = S.r + 1) σ1 σ2 := by rw [← hσ2]; exact FrP.rf.up ⟨rfl, rfl⟩
  have G2 : FrP (PA (S.r + 1)) σa σ2 := G1.tr (F12.mono (fun t m u => by omega))
  have s2_0 : σ2 10 (S.r + 1) 0 = nI (fg S.T N) := by rw [← hσ2, up3_k (by decide)]; exact v0
  have s2_11 : σ2 10 (S.r + 1) 11 = nI (md S.T N) := by rw [← hσ2]; exact up3_s
  have z2 : ∀ j, j < 16 → σ2 20 (S.r + 1) j = nI 0 := fun j hj => (F12 _ _ _ (by omega)).trans (z1 j hj)
  clear hσ2
  have EC' : ∀ σx, FrP (PA (S.r + 1)) σa σx → ∀ j, j < N → EC S.T σx j := fun σx hx j hj => by
    have := hE j hj
    unfold EC at this ⊢
    rw [hx 13 j 0 (by omega), hx 13 j 1 (by omega), hx 13 j 2 (by omega), hx 13 j 3 (by omega), hx 13 j 4 (by omega), hx 13 j 5 (by omega), fa 13 j 0 (by omega), fa 13 j 1 (by omega), fa 13 j 2 (by omega), fa 13 j 3 (by omega), fa 13 j 4 (by omega), fa 13 j 5 (by omega)]
    exact this
  have MK' : ∀ σx, FrP (PA (S.r + 1)) σa σx → MK S.T N σx ρ (ft S.T N) (fg S.T N) := fun σx hx => ⟨(hx _ _ _ (by omega)).trans ((fa _ _ _ (by omega)).trans hM.1), hM.2.1, fun j hj => (hx _ _ _ (by omega)).trans ((fa _ _ _ (by omega)).trans (hM.2.2.1 j hj)), fun j hj => (hx _ _ _ (by omega)).trans ((fa _ _ _ (by omega)).trans (hM.2.2.2.1 j hj)), hM.2.2.2.2⟩
  have BS' : ∀ σx, FrP (PA (S.r + 1)) σa σx → BS S.r (ft S.T N) (S.lp S.r) (S.st S.r) σx := fun σx hx => ⟨hBS.1, fun j hj => (hx _ _ _ (by omega)).trans ((fa _ _ _ (by omega)).trans (hBS.2.1 j hj)), fun j d hj hd => (hx _ _ _ (by omega)).trans ((fa _ _ _ (by omega)).trans (hBS.2.2.1 j d hj hd)), hBS.2.2.2⟩
  have B21' : ∀ σx, FrP (PA (S.r + 1)) σa σx → ∀ j, j < ft S.T N → σx 21 S.r j = nI (S.bd S.r j) := fun σx hx j hj => (hx _ _ _ (by omega)).trans ((fa _ _ _ (by omega)).trans (C8 S.r j (Nat.le_refl _) (by rw [← k2]; exact hj)))
  have row' : ∀ σx, FrP (PA (S.r + 1)) σa σx → ∀ k, σx 10 S.r k = σ 10 S.r k := fun σx hx k => (hx _ _ _ (by omega)).trans (fa _ _ _ (by omega))
  refine c_run (bd := S.bd S.r) ⟨hR, by omega, hV, hf, k4, MK' _ G2, EC' _ G2, B21' _ G2, hbb⟩ (fun σ3 F23 t1 t2 => ?_)
  have G3 : FrP (PA (S.r + 1)) σa σ3 := G2.tr (F23.mono (fun t m u => by omega))
  simp +decide (discharger := first | decide | assumption | omega) only [WP_go, cd, ↓reduceIte, Nat.reduceLT, Nat.reduceAdd, Nat.reduceSub, Nat.reduceMul, Nat.reduceEqDiff, WX_next, WX_call, WX_end, WX_none, xkt, xkn, xkc, xst, nb_, nbl_, nble_, decide_true, decide_false, Bool.and_true, Bool.true_and, Bool.and_false, Bool.false_and, Bool.not_true, Bool.not_false, Bool.true_or, Bool.false_or, cond_true, cond_false, List.getElem?_cons_zero, List.getElem?_cons_succ, List.getElem?_nil, List.set_cons_zero, List.set_cons_succ, List.length_cons, List.length_nil, xok, xtg, xcmp, xargs, xsum, xcat, xmn, xdp, xlo, xml, xmc, xrt, xrecv, xent, xmake, xec, xes, Nat.reduceLeDiff, Int.reduceAdd, Int.reduceToNat, Int.reduceLE, xz_cast, xz_cast0, xz_cast1, Bool.false_eq_true, not_false_eq_true, not_true_eq_false, and_true, true_and, and_self, true_or, or_true, WP_sw0, WP_swT, WP_swF, WX_ifT, WX_ifF, WX_ifN, Int32.reduceOfInt, Int.reduceNeg, List.replicate, Nat.zero_add, Nat.lt_irrefl, Option.toList, List.cons_append, List.nil_append, WK_ret, ↓q_m1d, ↓q_m2d, q_lit, q_ofN, q_cl, q_add, q_sub, q_m1, pk_mul, q_ltT, q_ltF, q_leN, q_eqT, q_eqF, q_n1lt, q_ltn1, q_len1, q_n1le, q_eqn1, q_n1eq, xin_nI, decide_eq_true_eq, Bool.not_eq_true', decide_eq_false_iff_not, up3_s, up3_t, up3_n, up3_k, up3_e, cd_22, xo_iconst, xo_lconst, xo_iload, xo_lload, xo_aload, xo_istore, xo_astore, xo_iinc, xo_iadd, xo_isub, xo_imul, xo_iand, xo_idiv, xo_irem, xo_land, xo_lor, xo_lshl, xo_lshr, xo_lushr, xo_i2l, xo_l2i, xo_lcmp, xo_dup, xo_dup2, xo_pop, xo_goto, xo_icmp, xo_if, xo_switch, xo_getf, xo_puti, xo_putz, xo_putr, xo_iald, xo_bald, xo_lald, xo_aald, xo_iast, xo_bast, xo_last, xo_aast, xo_alen, xo_new, xo_newa, xo_throw, xo_call, xo_objinit, xo_abs, xo_max, xo_ret, hR, t1, t2]
  generalize hσ4 : up3 (up3 σ3 10 (S.r + 1) 8 (nI (aTr S.T N (S.bd S.r)))) 10 (S.r + 1) 9 (nI (aRk S.T N)) = σ4
  have F34 : FrP (fun t m => t = 10 ∧ m = S.r + 1) σ3 σ4 := by rw [← hσ4]; exact (FrP.rf.up ⟨rfl, rfl⟩).up ⟨rfl, rfl⟩
  have G4 : FrP (PA (S.r + 1)) σa σ4 := G3.tr (F34.mono (fun t m u => by omega))
  have s4_0 : σ4 10 (S.r + 1) 0 = nI (fg S.T N) := by rw [← hσ4, up3_k (by decide), up3_k (by decide)]; exact (F23 _ _ _ (by omega)).trans s2_0
  have s4_11 : σ4 10 (S.r + 1) 11 = nI (md S.T N) := by rw [← hσ4, up3_k (by decide), up3_k (by decide)]; exact (F23 _ _ _ (by omega)).trans s2_11
  have s4_8 : σ4 10 (S.r + 1) 8 = nI (aTr S.T N (S.bd S.r)) := by rw [← hσ4, up3_k (by decide), up3_s]
  have s4_9 : σ4 10 (S.r + 1) 9 = nI (aRk S.T N) := by rw [← hσ4, up3_s]
  have z4 : ∀ j, j < 16 → σ4 20 (S.r + 1) j = nI 0 := fun j hj => (F34 _ _ _ (by omega)).trans ((F23 _ _ _ (by omega)).trans (z2 j hj))
  have w4 : ∀ x, σ4 27 0 x = σ 27 0 x := fun x => (F34 _ _ _ (by omega)).trans ((F23 _ _ _ (by omega)).trans ((F12 _ _ _ (by omega)).trans ((F1 _ _ _ (by omega)).trans (fa _ _ _ (by omega)))))
  clear hσ4
  refine c_release (D := S.dr S.r) hR k6 hV hf k4 (MK' _ G4) (BS' _ G4) ((row' _ G4 6).trans (C11 S.r (Nat.le_refl _))) (fun σ5 F45 o5 s5_10 s5_6 w5 => ?_)
  have G5 : FrP (PA (S.r + 1)) σa σ5 := G4.tr (F45.mono (fun t m u => by omega))
  have H5 : RS (S.r + 1) (fun _ => []) σ5 := fun c hc => ⟨by simp, (F45 _ _ _ (by omega)).trans (z4 c hc), fun d hd => absurd hd (Nat.not_lt_zero d)⟩
  simp +decide (discharger := first | decide | assumption | omega) only [WP_go, cd, ↓reduceIte, Nat.reduceLT, Nat.reduceAdd, Nat.reduceSub, Nat.reduceMul, Nat.reduceEqDiff, WX_next, WX_call, WX_end, WX_none, xkt, xkn, xkc, xst, nb_, nbl_, nble_, decide_true, decide_false, Bool.and_true, Bool.true_and, Bool.and_false, Bool.false_and, Bool.not_true, Bool.not_false, Bool.true_or, Bool.false_or, cond_true, cond_false, List.getElem?_cons_zero, List.getElem?_cons_succ, List.getElem?_nil, List.set_cons_zero, List.set_cons_succ, List.length_cons, List.length_nil, xok, xtg, xcmp, xargs, xsum, xcat, xmn, xdp, xlo, xml, xmc, xrt, xrecv, xent, xmake, xec, xes, Nat.reduceLeDiff, Int.reduceAdd, Int.reduceToNat, Int.reduceLE, xz_cast, xz_cast0, xz_cast1, Bool.false_eq_true, not_false_eq_true, not_true_eq_false, and_true, true_and, and_self, true_or, or_true, WP_sw0, WP_swT, WP_swF, WX_ifT, WX_ifF, WX_ifN, Int32.reduceOfInt, Int.reduceNeg, List.replicate, Nat.zero_add, Nat.lt_irrefl, Option.toList, List.cons_append, List.nil_append, WK_ret, ↓q_m1d, ↓q_m2d, q_lit, q_ofN, q_cl, q_add, q_sub, q_m1, pk_mul, q_ltT, q_ltF, q_leN, q_eqT, q_eqF, q_n1lt, q_ltn1, q_len1, q_n1le, q_eqn1, q_n1eq, xin_nI, decide_eq_true_eq, Bool.not_eq_true', decide_eq_false_iff_not, up3_s, up3_t, up3_n, up3_k, up3_e, cd_22, xo_iconst, xo_lconst, xo_iload, xo_lload, xo_aload, xo_istore, xo_astore, xo_iinc, xo_iadd, xo_isub, xo_imul, xo_iand, xo_idiv, xo_irem, xo_land, xo_lor, xo_lshl, xo_lshr, xo_lushr, xo_i2l, xo_l2i, xo_lcmp, xo_dup, xo_dup2, xo_pop, xo_goto, xo_icmp, xo_if, xo_switch, xo_getf, xo_puti, xo_putz, xo_putr, xo_iald, xo_bald, xo_lald, xo_aald, xo_iast, xo_bast, xo_last, xo_aast, xo_alen, xo_new, xo_newa, xo_throw, xo_call, xo_objinit, xo_abs, xo_max, xo_ret, hR]
  refine c_bring (f' := 0) hR k6 (by omega) hV hf k4 (MK' _ G5) (BS' _ G5) H5 m16' (fun σ6 F56 H6 w6 => ?_)
  have G6 : FrP (PA (S.r + 1)) σa σ6 := G5.tr (F56.mono (fun t m u => by omega))
  simp +decide (discharger := first | decide | assumption | omega) only [WP_go, cd, ↓reduceIte, Nat.reduceLT, Nat.reduceAdd, Nat.reduceSub, Nat.reduceMul, Nat.reduceEqDiff, WX_next, WX_call, WX_end, WX_none, xkt, xkn, xkc, xst, nb_, nbl_, nble_, decide_true, decide_false, Bool.and_true, Bool.true_and, Bool.and_false, Bool.false_and, Bool.not_true, Bool.not_false, Bool.true_or, Bool.false_or, cond_true, cond_false, List.getElem?_cons_zero, List.getElem?_cons_succ, List.getElem?_nil, List.set_cons_zero, List.set_cons_succ, List.length_cons, List.length_nil, xok, xtg, xcmp, xargs, xsum, xcat, xmn, xdp, xlo, xml, xmc, xrt, xrecv, xent, xmake, xec, xes, Nat.reduceLeDiff, Int.reduceAdd, Int.reduceToNat, Int.reduceLE, xz_cast, xz_cast0, xz_cast1, Bool.false_eq_true, not_false_eq_true, not_true_eq_false, and_true, true_and, and_self, true_or, or_true, WP_sw0, WP_swT, WP_swF, WX_ifT, WX_ifF, WX_ifN, Int32.reduceOfInt, Int.reduceNeg, List.replicate, Nat.zero_add, Nat.lt_irrefl, Option.toList, List.cons_append, List.nil_append, WK_ret, ↓q_m1d, ↓q_m2d, q_lit, q_ofN, q_cl, q_add, q_sub, q_m1, pk_mul, q_ltT, q_ltF, q_leN, q_eqT, q_eqF, q_n1lt, q_ltn1, q_len1, q_n1le, q_eqn1, q_n1eq, xin_nI, decide_eq_true_eq, Bool.not_eq_true', decide_eq_false_iff_not, up3_s, up3_t, up3_n, up3_k, up3_e, cd_22, xo_iconst, xo_lconst, xo_iload, xo_lload, xo_aload, xo_istore, xo_astore, xo_iinc, xo_iadd, xo_isub, xo_imul, xo_iand, xo_idiv, xo_irem, xo_land, xo_lor, xo_lshl, xo_lshr, xo_lushr, xo_i2l, xo_l2i, xo_lcmp, xo_dup, xo_dup2, xo_pop, xo_goto, xo_icmp, xo_if, xo_switch, xo_getf, xo_puti, xo_putz, xo_putr, xo_iald, xo_bald, xo_lald, xo_aald, xo_iast, xo_bast, xo_last, xo_aast, xo_alen, xo_new, xo_newa, xo_throw, xo_call, xo_objinit, xo_abs, xo_max, xo_ret, hR]
  refine c_bring (f' := 1) hR k6 (by omega) hV hf k4 (MK' _ G6) (BS' _ G6) H6 m16 (fun σ7 F67 H7 w7 => ?_)
  have G7 : FrP (PA (S.r + 1)) σa σ7 := G6.tr (F67.mono (fun t m u => by omega))
  have o7 : ∀ k, σ7 10 (S.r + 1) k = σ5 10 (S.r + 1) k := fun k => (F67 _ _ _ (by omega)).trans (F56 _ _ _ (by omega))
  have hX : S.xr S.r + cbn S.T N ≤ 160 := by
    have h8 := cbn_8 hV (Nat.le_refl N)
    have h9 := xr_8 hP (Nat.le_refl S.r)
    omega
  simp +decide (discharger := first | decide | assumption | omega) only [WP_go, cd, ↓reduceIte, Nat.reduceLT, Nat.reduceAdd, Nat.reduceSub, Nat.reduceMul, Nat.reduceEqDiff, WX_next, WX_call, WX_end, WX_none, xkt, xkn, xkc, xst, nb_, nbl_, nble_, decide_true, decide_false, Bool.and_true, Bool.true_and, Bool.and_false, Bool.false_and, Bool.not_true, Bool.not_false, Bool.true_or, Bool.false_or, cond_true, cond_false, List.getElem?_cons_zero, List.getElem?_cons_succ, List.getElem?_nil, List.set_cons_zero, List.set_cons_succ, List.length_cons, List.length_nil, xok, xtg, xcmp, xargs, xsum, xcat, xmn, xdp, xlo, xml, xmc, xrt, xrecv, xent, xmake, xec, xes, Nat.reduceLeDiff, Int.reduceAdd, Int.reduceToNat, Int.reduceLE, xz_cast, xz_cast0, xz_cast1, Bool.false_eq_true, not_false_eq_true, not_true_eq_false, and_true, true_and, and_self, true_or, or_true, WP_sw0, WP_swT, WP_swF, WX_ifT, WX_ifF, WX_ifN, Int32.reduceOfInt, Int.reduceNeg, List.replicate, Nat.zero_add, Nat.lt_irrefl, Option.toList, List.cons_append, List.nil_append, WK_ret, ↓q_m1d, ↓q_m2d, q_lit, q_ofN, q_cl, q_add, q_sub, q_m1, pk_mul, q_ltT, q_ltF, q_leN, q_eqT, q_eqF, q_n1lt, q_ltn1, q_len1, q_n1le, q_eqn1, q_n1eq, xin_nI, decide_eq_true_eq, Bool.not_eq_true', decide_eq_false_iff_not, up3_s, up3_t, up3_n, up3_k, up3_e, cd_22, xo_iconst, xo_lconst, xo_iload, xo_lload, xo_aload, xo_istore, xo_astore, xo_iinc, xo_iadd, xo_isub, xo_imul, xo_iand, xo_idiv, xo_irem, xo_land, xo_lor, xo_lshl, xo_lshr, xo_lushr, xo_i2l, xo_l2i, xo_lcmp, xo_dup, xo_dup2, xo_pop, xo_goto, xo_icmp, xo_if, xo_switch, xo_getf, xo_puti, xo_putz, xo_putr, xo_iald, xo_bald, xo_lald, xo_aald, xo_iast, xo_bast, xo_last, xo_aast, xo_alen, xo_new, xo_newa, xo_throw, xo_call, xo_objinit, xo_abs, xo_max, xo_ret, hR]
  refine c_noteCrossings (X := S.xr S.r) hR k6 hV hN hf ((G7 _ _ _ (by omega)).trans ((fa _ _ _ (by omega)).trans h3)) (EC' _ G7) (BS' _ G7) ((row' _ G7 7).trans (C12 S.r (Nat.le_refl _))) hX (fun σ8 F78 o8 s8_7 s8_12 x8 e8 => ?_)
  have G8 : FrP (PA (S.r + 1)) σa σ8 := G7.tr (F78.mono (fun t m u => by omega))
  have H8 := RS_f H7 F78 (by omega) (by omega)
  have LDs : ∀ x, x < S.lp S.r → LDx σ8 S.lo S.pa x := fun x hx => by
    have q' : ∀ t k, 23 ≤ t → t ≤ 28 → t ≠ 27 → σ8 t 0 k = σ t 0 k := fun t k a b d => (F78 _ _ _ (by omega)).trans ((F67 _ _ _ (by omega)).trans ((F56 _ _ _ (by omega)).trans ((F45 _ _ _ (by omega)).trans ((F34 _ _ _ (by omega)).trans ((F23 _ _ _ (by omega)).trans ((F12 _ _ _ (by omega)).trans ((F1 _ _ _ (by omega)).trans (fa _ _ _ (by omega)))))))))
    exact ⟨(q' 23 x (by omega) (by omega) (by omega)).trans (C18 x hx), (q' 24 x (by omega) (by omega) (by omega)).trans (C19 x hx), (q' 25 x (by omega) (by omega) (by omega)).trans (C20 x hx), (q' 26 x (by omega) (by omega) (by omega)).trans (C21 x hx), fun j hj => (q' 28 _ (by omega) (by omega) (by omega)).trans (C23 x j hx hj)⟩
  have s8_0 : σ8 10 (S.r + 1) 0 = nI (fg S.T N) := (o8 0 (by decide) (by decide)).trans ((o7 0).trans ((o5 0 (by decide) (by decide)).trans s4_0))
  simp +decide (discharger := first | decide | assumption | omega) only [WP_go, cd, ↓reduceIte, Nat.reduceLT, Nat.reduceAdd, Nat.reduceSub, Nat.reduceMul, Nat.reduceEqDiff, WX_next, WX_call, WX_end, WX_none, xkt, xkn, xkc, xst, nb_, nbl_, nble_, decide_true, decide_false, Bool.and_true, Bool.true_and, Bool.and_false, Bool.false_and, Bool.not_true, Bool.not_false, Bool.true_or, Bool.false_or, cond_true, cond_false, List.getElem?_cons_zero, List.getElem?_cons_succ, List.getElem?_nil, List.set_cons_zero, List.set_cons_succ, List.length_cons, List.length_nil, xok, xtg, xcmp, xargs, xsum, xcat, xmn, xdp, xlo, xml, xmc, xrt, xrecv, xent, xmake, xec, xes, Nat.reduceLeDiff, Int.reduceAdd, Int.reduceToNat, Int.reduceLE, xz_cast, xz_cast0, xz_cast1, Bool.false_eq_true, not_false_eq_true, not_true_eq_false, and_true, true_and, and_self, true_or, or_true, WP_sw0, WP_swT, WP_swF, WX_ifT, WX_ifF, WX_ifN, Int32.reduceOfInt, Int.reduceNeg, List.replicate, Nat.zero_add, Nat.lt_irrefl, Option.toList, List.cons_append, List.nil_append, WK_ret, ↓q_m1d, ↓q_m2d, q_lit, q_ofN, q_cl, q_add, q_sub, q_m1, pk_mul, q_ltT, q_ltF, q_leN, q_eqT, q_eqF, q_n1lt, q_ltn1, q_len1, q_n1le, q_eqn1, q_n1eq, xin_nI, decide_eq_true_eq, Bool.not_eq_true', decide_eq_false_iff_not, up3_s, up3_t, up3_n, up3_k, up3_e, cd_22, xo_iconst, xo_lconst, xo_iload, xo_lload, xo_aload, xo_istore, xo_astore, xo_iinc, xo_iadd, xo_isub, xo_imul, xo_iand, xo_idiv, xo_irem, xo_land, xo_lor, xo_lshl, xo_lshr, xo_lushr, xo_i2l, xo_l2i, xo_lcmp, xo_dup, xo_dup2, xo_pop, xo_goto, xo_icmp, xo_if, xo_switch, xo_getf, xo_puti, xo_putz, xo_putr, xo_iald, xo_bald, xo_lald, xo_aald, xo_iast, xo_bast, xo_last, xo_aast, xo_alen, xo_new, xo_newa, xo_throw, xo_call, xo_objinit, xo_abs, xo_max, xo_ret, hR]
  refine c_makeLoops (lp := S.lp S.r) (bd := S.bd S.r) (lo := S.lo) (pa := S.pa) hR k6 hV hf k4 (MK' _ G8) (EC' _ G8) (B21' _ G8) ((G8 _ _ _ (by omega)).trans a6) s8_0 ((row' _ G8 5).trans (C10 S.r (Nat.le_refl _))) H8 (fun c hc h116 => by
    rw [bb_e hV hc]
    have := msq_len hV hc hBS.1 k5
    rw [if_pos h116] at this
    omega) (fun c y hc hy => by
    rw [bb_e hV hc] at hy
    obtain ⟨j, j1, j2, j3⟩ := (msq_mem hV hc).mp hy
    exact hBS.2.2.2.1 j y j1 j3) mk3 LDs (fun σ9 F89 o9 s9_5 H9 b9 L9 w9 => ?_)
  have G9 : FrP (PA (S.r + 1)) σa σ9 := G8.tr (F89.mono (fun t m u => by omega))
  have a9 : σ9 1 0 6 = nI (S.r + 1) := (G9 _ _ _ (by omega)).trans a6
  have hrem : nI (S.r + 1) - nI (S.r + 1) / nI 2 * nI 2 = nI ((S.r + 1) % 2) := q_rem (by omega) (by omega) (by omega)
  have hm2 : (S.r + 1) % 2 < 2 := Nat.mod_lt _ (by omega)
  have sd0 : ∀ j, j < 3 → σ9 22 S.r j = S.sd S.r j := fun j hj => (G9 _ _ _ (by omega)).trans ((fa _ _ _ (by omega)).trans (C9 S.r j (Nat.le_refl _) hj))
  have d0 := sd0 0 (by omega)
  have d1 := sd0 1 (by omega)
  have d2 := sd0 2 (by omega)
  have FIN : ∀ v, v = 1 - (S.r + 1) % 2 → Q (.inl none) (up3 (up3 (up3 (up3 σ9 22 (S.r + 1) 0 (S.sd S.r 0)) 22 (S.r + 1) 1 (S.sd S.r 1)) 22 (S.r + 1) 2 (S.sd S.r 2)) 22 (S.r + 1) q (nI v), g, ρ, k, L, c, w) := by
    intro v hv
    generalize hσ' : up3 (up3 (up3 (up3 σ9 22 (S.r + 1) 0 (S.sd S.r 0)) 22 (S.r + 1) 1 (S.sd S.r 1)) 22 (S.r + 1) 2 (S.sd S.r 2)) 22 (S.r + 1) q (nI v) = σ'
    have FZ : FrP (fun t m => t = 22 ∧ m = S.r + 1) σ9 σ' := by rw [← hσ']; exact (((FrP.rf.up ⟨rfl, rfl⟩).up ⟨rfl, rfl⟩).up ⟨rfl, rfl⟩).up ⟨rfl, rfl⟩
    have sdn : ∀ j, j < 3 → σ' 22 (S.r + 1) j = if j = q then nI (1 - (S.r + 1) % 2) else S.sd S.r j := by
      intro j hj
      rw [← hσ']
      by_cases e : j = q
      · rw [if_pos e, e, up3_s, hv]
      · rw [if_neg e, up3_k e]
        have : j = 0 ∨ j = 1 ∨ j = 2 := by omega
        rcases this with rfl | rfl | rfl
        · simp +decide (discharger := first | decide | assumption | omega) only [up3_s, up3_t, up3_n, up3_k, up3_e]
        · simp +decide (discharger := first | decide | assumption | omega) only [up3_s, up3_t, up3_n, up3_k, up3_e]
        · simp +decide (discharger := first | decide | assumption | omega) only [up3_s, up3_t, up3_n, up3_k, up3_e]
    clear hσ'
    have GZ : FrP (PA (S.r + 1)) σa σ' := G9.tr (FZ.mono (fun t m u => by omega))
    have old : ∀ t i k, i ≠ S.r + 1 → ¬ t = 6 → ¬ (23 ≤ t ∧ t ≤ 32) → ¬ (t = 1 ∧ i = 0 ∧ k = 6) → σ' t i k = σ t i k := fun t i k a b d e => (GZ _ _ _ (by omega)).trans (fa _ _ _ e)
    have rowR : ∀ k, σ' 10 (S.r + 1) k = σ9 10 (S.r + 1) k := fun k => FZ _ _ _ (by omega)
    have rowS : ∀ k, k ≠ 5 → k ≠ 7 → k ≠ 12 → σ' 10 (S.r + 1) k = σ5 10 (S.r + 1) k := fun k a b d => (rowR k).trans ((o9 k a).trans ((o8 k b d).trans (o7 k)))
    have hbe : ∀ c, c < fg S.T N → brl S.T N 1 (S.st S.r) (brl S.T N 0 (S.st S.r) (fun _ => []) (ft S.T N)) (ft S.T N) c = msq S.T N (S.st S.r) c := fun c hc => bb_e hV hc
    have HZ : ∀ c, c < fg S.T N → (msq S.T N (S.st S.r) c = msq S.T N (S.st S.r) c) ∧ σ' 20 (S.r + 1) c = nI (hm S.T N S.r (fg S.T N) (S.lp S.r) (msq S.T N (S.st S.r)) (fg S.T N) c).length ∧ ∀ d, d < (hm S.T N S.r (fg S.T N) (S.lp S.r) (msq S.T N (S.st S.r)) (fg S.T N) c).length → σ' 19 (S.r + 1) (c * 4 + d) = nI ((hm S.T N S.r (fg S.T N) (S.lp S.r) (msq S.T N (S.st S.r)) (fg S.T N) c).getD d 0) := by
      intro c hc
      have := H9 c (by omega)
      rw [hm_b hbe hc (Nat.le_refl _)] at this
      exact ⟨rfl, (FZ _ _ _ (by omega)).trans this.2.1, fun d hd => (FZ _ _ _ (by omega)).trans (this.2.2 d hd)⟩
    have LZ : ∀ x, x < S.lp S.r + mkc S.T N S.r (fg S.T N) (fg S.T N) → LDx σ' (nS S N q).lo (nS S N q).pa x := fun x hx => LDx_k (L9 x hx) (fun t _ _ ht => FZ _ _ _ (fun u => by rw [u.1] at ht; exact absurd ht (by decide))) (fun j hj => FZ _ _ _ (by omega)) (fun _ => rfl) (npa_b (fun c hc => (hbe c hc).symm) (Nat.le_refl _))
    have lpE : (nS S N q).lp (nS S N q).r = S.lp S.r + mkc S.T N S.r (fg S.T N) (fg S.T N) := nS_lp1
    have rE : (nS S N q).r = S.r + 1 := rfl
    have X8 : ∀ t y, (t = 29 ∨ t = 30 ∨ t = 31 ∨ t = 32) → σ' t 0 y = σ8 t 0 y := fun t y ht => (FZ _ _ _ (by omega)).trans (F89 _ _ _ (by omega))
    have X7 : ∀ t y, (t = 29 ∨ t = 30 ∨ t = 31 ∨ t = 32) → y < S.xr S.r → σ' t 0 y = σ t 0 y := fun t y ht hy => (X8 t y ht).trans ((x8 t y ht hy).trans ((F67 _ _ _ (by omega)).trans ((F56 _ _ _ (by omega)).trans ((F45 _ _ _ (by omega)).trans ((F34 _ _ _ (by omega)).trans ((F23 _ _ _ (by omega)).trans ((F12 _ _ _ (by omega)).trans ((F1 _ _ _ (by omega)).trans (fa _ _ _ (by omega)))))))))) 
    refine hQ _ ⟨?_, ?_, ?_, ?_, ?_, ?_, ?_, ?_, ?_, ?_, ?_, ?_, ?_, ?_, ?_, ?_, ?_, ?_, ?_, ?_, ?_, ?_, ?_, ?_⟩ FrP.rf (fun t n k ht => ?_) (fun k => ?_)
    · rw [up3_t (by decide)]; exact (GZ _ _ _ (by omega)).trans a6
    · rw [up3_t (by decide), old _ _ _ (by omega) (by decide) (by decide) (by omega), C2, hS7]; rfl
    · intro k hk
      rw [up3_t (by decide), old _ _ _ (by omega) (by decide) (by decide) (by omega)]; exact C3 k hk
    · exact up3_s
    · intro i hi
      rw [up3_t (by decide)]
      by_cases e : i = S.r + 1
      · rw [e, nS_cN1, rowS 0 (by decide) (by decide) (by decide), o5 0 (by decide) (by decide)]; exact s4_0
      · rw [nS_cN0 e, old _ _ _ e (by decide) (by decide) (by omega)]; exact C5 i (by omega)
    · intro i j hi hj
      rw [up3_t (by decide)]
      by_cases e : i = S.r + 1
      · rw [e, nS_cN1] at hj
        rw [e, nS_st1]; exact (HZ j hj).2.1
      · rw [nS_cN0 e] at hj
        rw [nS_st0 e, old _ _ _ e (by decide) (by decide) (by omega)]; exact C6 i j (by omega) hj
    · intro i j d hi hj hd
      rw [up3_t (by decide)]
      by_cases e : i = S.r + 1
      · rw [e, nS_cN1] at hj
        rw [e, nS_st1] at hd
        rw [e, nS_st1]; exact (HZ j hj).2.2 d hd
      · rw [nS_cN0 e] at hj
        rw [nS_st0 e] at hd
        rw [nS_st0 e, old _ _ _ e (by decide) (by decide) (by omega)]; exact C7 i j d (by omega) hj hd
    · intro i j hi hj
      rw [up3_t (by decide)]
      by_cases e : i = S.r + 1
      · rw [e, nS_cN1] at hj
        rw [e, nS_bd1, FZ _ _ _ (by omega)]; exact b9 j hj
      · rw [nS_cN0 e] at hj
        rw [nS_bd0 e, old _ _ _ e (by decide) (by decide) (by omega)]; exact C8 i j (by omega) hj
    · intro i j hi hj
      rw [up3_t (by decide)]
      by_cases e : i = S.r + 1
      · rw [e, nS_sd1]; exact sdn j hj
      · rw [nS_sd0 e, old _ _ _ e (by decide) (by decide) (by omega)]; exact C9 i j (by omega) hj
    · intro i hi
      rw [up3_t (by decide)]
      by_cases e : i = S.r + 1
      · rw [e, nS_lp1, rowR]; exact s9_5
      · rw [nS_lp0 e, old _ _ _ e (by decide) (by decide) (by omega)]; exact C10 i (by omega)
    · intro i hi
      rw [up3_t (by decide)]
      by_cases e : i = S.r + 1
      · rw [e, nS_dr1, rowS 6 (by decide) (by decide) (by decide)]; exact s5_6
      · rw [nS_dr0 e, old _ _ _ e (by decide) (by decide) (by omega)]; exact C11 i (by omega)
    · intro i hi
      rw [up3_t (by decide)]
      by_cases e : i = S.r + 1
      · rw [e, nS_xr1 k1, rowR, o9 7 (by decide)]; exact s8_7
      · have hi : i ≤ S.r + 1 := hi
        rw [nS_xr0 (by omega), old _ _ _ e (by decide) (by decide) (by omega)]; exact C12 i (by omega)
    · intro i i1 hi
      rw [up3_t (by decide)]
      by_cases e : i = S.r + 1
      · rw [e, nS_pg1, rowS 8 (by decide) (by decide) (by decide), o5 8 (by decide) (by decide)]; exact s4_8
      · have hi : i ≤ S.r + 1 := hi
        rw [nS_pg0 e, old _ _ _ e (by decide) (by decide) (by omega)]; exact C13 i i1 (by omega)
    · intro i i1 hi
      rw [up3_t (by decide)]
      by_cases e : i = S.r + 1
      · rw [e, nS_pg1, rowS 9 (by decide) (by decide) (by decide), o5 9 (by decide) (by decide)]; exact s4_9
      · have hi : i ≤ S.r + 1 := hi
        rw [nS_pg0 e, old _ _ _ e (by decide) (by decide) (by omega)]; exact C14 i i1 (by omega)
    · intro i i1 hi
      rw [up3_t (by decide)]
      by_cases e : i = S.r + 1
      · rw [e, nS_pg1, rowS 10 (by decide) (by decide) (by decide)]; exact s5_10
      · have hi : i ≤ S.r + 1 := hi
        rw [nS_pg0 e, old _ _ _ e (by decide) (by decide) (by omega)]; exact C15 i i1 (by omega)
    · intro i i1 hi
      rw [up3_t (by decide)]
      by_cases e : i = S.r + 1
      · rw [e, nS_pg1, rowS 11 (by decide) (by decide) (by decide), o5 11 (by decide) (by decide)]; exact s4_11
      · have hi : i ≤ S.r + 1 := hi
        rw [nS_pg0 e, old _ _ _ e (by decide) (by decide) (by omega)]; exact C16 i i1 (by omega)
    · intro i i1 hi
      rw [up3_t (by decide)]
      by_cases e : i = S.r + 1
      · rw [e, nS_tx1, nS_N1 k1, Nat.add_sub_cancel, nS_st0 (by omega), rowR, o9 12 (by decide)]; exact s8_12
      · have hi : i ≤ S.r + 1 := hi
        rw [nS_tx0 e, nS_N0 e, nS_st0 (by omega), old _ _ _ e (by decide) (by decide) (by omega)]; exact C17 i i1 (by omega)
    · intro x hx
      rw [lpE] at hx
      rw [up3_t (by decide)]; exact (LZ x hx).1
    · intro x hx
      rw [lpE] at hx
      rw [up3_t (by decide)]; exact (LZ x hx).2.1
    · intro x hx
      rw [lpE] at hx
      rw [up3_t (by decide)]; exact (LZ x hx).2.2.1
    · intro x hx
      rw [lpE] at hx
      rw [up3_t (by decide)]; exact (LZ x hx).2.2.2.1
    · intro x hx
      rw [lpE] at hx
      rw [up3_t (by decide), FZ _ _ _ (by omega), w9 x, ← hwh x hx]
      by_cases u : x < S.lp S.r
      · refine wm_b ?_ hbe (Nat.le_refl _)
        rw [F78 _ _ _ (by omega), w7 x]
        unfold w3
        refine wvs_b ?_
        rw [w6 x]
        refine wvs_b ?_
        rw [w5 x]
        refine wvs_b ?_
        rw [w4 x]
        exact C22 x u
      · rw [wm_b (b' := σ8 27 0) rfl hbe (Nat.le_refl _)]
        exact hwb x (by omega) _ _ hx
    · intro x j hx hj
      rw [lpE] at hx
      rw [up3_t (by decide)]; exact (LZ x hx).2.2.2.2 j hj
    · intro i s hi hs hc
      have hi : i < S.r + 1 := hi
      rw [up3_t (by decide), up3_t (by decide), up3_t (by decide), up3_t (by decide)]
      by_cases e : i = S.r
      · subst e
        rw [nS_N1 k1] at hs
        rw [nS_tx1] at hc
        rw [nS_xr0 (Nat.le_refl _), nS_tx1, X8 _ _ (by decide), X8 _ _ (by decide), X8 _ _ (by decide), X8 _ _ (by decide)]
        exact e8 s hs hc
      · rw [nS_N0 (by omega)] at hs
        rw [nS_tx0 (by omega)] at hc
        have lt : S.xr i + cbn (S.tx (i + 1)) s < S.xr S.r := by
          have m1 := cbn_le (T := S.tx (i + 1)) (show s + 1 ≤ S.N (i + 1) from hs)
          rw [cbn_y hc] at m1
          have m2 : S.xr (i + 1) ≤ S.xr S.r := mono_of (f := S.xr) (fun i => Nat.le_add_right _ _) (by omega)
          have m3 : S.xr (i + 1) = S.xr i + cbn (S.tx (i + 1)) (S.N (i + 1)) := rfl
          omega
        rw [nS_xr0 (by omega), nS_tx0 (by omega), X7 _ _ (by decide) lt, X7 _ _ (by decide) lt, X7 _ _ (by decide) lt, X7 _ _ (by decide) lt]
        exact C24 i s (by omega) hs hc
    · exact (GZ _ _ _ (by omega)).trans (fa _ _ _ (by omega))
    · exact (GZ _ _ _ (by omega)).trans (fa _ _ _ (by omega))
  by_cases hodd : (S.r + 1) % 2 = 1
  · simp +decide (discharger := first | decide | assumption | omega) only [WP_go, cd, ↓reduceIte, Nat.reduceLT, Nat.reduceAdd, Nat.reduceSub, Nat.reduceMul, Nat.reduceEqDiff, WX_next, WX_call, WX_end, WX_none, xkt, xkn, xkc, xst, nb_, nbl_, nble_, decide_true, decide_false, Bool.and_true, Bool.true_and, Bool.and_false, Bool.false_and, Bool.not_true, Bool.not_false, Bool.true_or, Bool.false_or, cond_true, cond_false, List.getElem?_cons_zero, List.getElem?_cons_succ, List.getElem?_nil, List.set_cons_zero, List.set_cons_succ, List.length_cons, List.length_nil, xok, xtg, xcmp, xargs, xsum, xcat, xmn, xdp, xlo, xml, xmc, xrt, xrecv, xent, xmake, xec, xes, Nat.reduceLeDiff, Int.reduceAdd, Int.reduceToNat, Int.reduceLE, xz_cast, xz_cast0, xz_cast1, Bool.false_eq_true, not_false_eq_true, not_true_eq_false, and_true, true_and, and_self, true_or, or_true, WP_sw0, WP_swT, WP_swF, WX_ifT, WX_ifF, WX_ifN, Int32.reduceOfInt, Int.reduceNeg, List.replicate, Nat.zero_add, Nat.lt_irrefl, Option.toList, List.cons_append, List.nil_append, WK_ret, ↓q_m1d, ↓q_m2d, q_lit, q_ofN, q_cl, q_add, q_sub, q_m1, pk_mul, q_ltT, q_ltF, q_leN, q_eqT, q_eqF, q_n1lt, q_ltn1, q_len1, q_n1le, q_eqn1, q_n1eq, xin_nI, decide_eq_true_eq, Bool.not_eq_true', decide_eq_false_iff_not, up3_s, up3_t, up3_n, up3_k, up3_e, cd_22, cd_19, @WC_in 19, @WP_force 22 122, xo_iconst, xo_lconst, xo_iload, xo_lload, xo_aload, xo_istore, xo_astore, xo_iinc, xo_iadd, xo_isub, xo_imul, xo_iand, xo_idiv, xo_irem, xo_land, xo_lor, xo_lshl, xo_lshr, xo_lushr, xo_i2l, xo_l2i, xo_lcmp, xo_dup, xo_dup2, xo_pop, xo_goto, xo_icmp, xo_if, xo_switch, xo_getf, xo_puti, xo_putz, xo_putr, xo_iald, xo_bald, xo_lald, xo_aald, xo_iast, xo_bast, xo_last, xo_aast, xo_alen, xo_new, xo_newa, xo_throw, xo_call, xo_objinit, xo_abs, xo_max, xo_ret, hR, a9, hrem, hodd, d0, d1, d2]
    exact FIN 0 (by omega)
  · have h2 : (S.r + 1) % 2 = 0 := by omega
    simp +decide (discharger := first | decide | assumption | omega) only [WP_go, cd, ↓reduceIte, Nat.reduceLT, Nat.reduceAdd, Nat.reduceSub, Nat.reduceMul, Nat.reduceEqDiff, WX_next, WX_call, WX_end, WX_none, xkt, xkn, xkc, xst, nb_, nbl_, nble_, decide_true, decide_false, Bool.and_true, Bool.true_and, Bool.and_false, Bool.false_and, Bool.not_true, Bool.not_false, Bool.true_or, Bool.false_or, cond_true, cond_false, List.getElem?_cons_zero, List.getElem?_cons_succ, List.getElem?_nil, List.set_cons_zero, List.set_cons_succ, List.length_cons, List.length_nil, xok, xtg, xcmp, xargs, xsum, xcat, xmn, xdp, xlo, xml, xmc, xrt, xrecv, xent, xmake, xec, xes, Nat.reduceLeDiff, Int.reduceAdd, Int.reduceToNat, Int.reduceLE, xz_cast, xz_cast0, xz_cast1, Bool.false_eq_true, not_false_eq_true, not_true_eq_false, and_true, true_and, and_self, true_or, or_true, WP_sw0, WP_swT, WP_swF, WX_ifT, WX_ifF, WX_ifN, Int32.reduceOfInt, Int.reduceNeg, List.replicate, Nat.zero_add, Nat.lt_irrefl, Option.toList, List.cons_append, List.nil_append, WK_ret, ↓q_m1d, ↓q_m2d, q_lit, q_ofN, q_cl, q_add, q_sub, q_m1, pk_mul, q_ltT, q_ltF, q_leN, q_eqT, q_eqF, q_n1lt, q_ltn1, q_len1, q_n1le, q_eqn1, q_n1eq, xin_nI, decide_eq_true_eq, Bool.not_eq_true', decide_eq_false_iff_not, up3_s, up3_t, up3_n, up3_k, up3_e, cd_22, cd_19, @WC_in 19, @WP_force 22 122, xo_iconst, xo_lconst, xo_iload, xo_lload, xo_aload, xo_istore, xo_astore, xo_iinc, xo_iadd, xo_isub, xo_imul, xo_iand, xo_idiv, xo_irem, xo_land, xo_lor, xo_lshl, xo_lshr, xo_lushr, xo_i2l, xo_l2i, xo_lcmp, xo_dup, xo_dup2, xo_pop, xo_goto, xo_icmp, xo_if, xo_switch, xo_getf, xo_puti, xo_putz, xo_putr, xo_iald, xo_bald, xo_lald, xo_aald, xo_iast, xo_bast, xo_last, xo_aast, xo_alen, xo_new, xo_newa, xo_throw, xo_call, xo_objinit, xo_abs, xo_max, xo_ret, hR, a9, hrem, h2, d0, d1, d2]
    exact FIN 1 (by omega)
