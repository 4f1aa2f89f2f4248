/-! the next row keeps what holds of a cloth -/
section
variable {T : Nat → Nat} {N r n lp : Nat} {h0 : Nat → List Nat} {pa : Nat → List Nat} {x : Nat}
theorem npa_old (hx : x < lp) : ∀ {i : Nat}, npa T N r n lp h0 pa i x = pa x
  | 0 => rfl
  | i + 1 => by
    show (if _ then _ else npa T N r n lp h0 pa i x) = _
    rw [if_neg (fun u => by have := u.2; omega)]
    exact npa_old hx
theorem npa_new {j : Nat} (hp : pK T N (colo r n j) = true) : ∀ {i : Nat}, j < i → npa T N r n lp h0 pa i (lp + mkc T N r n j) = if sg T (idx (fg T) N (colo r n j)) = 116 then [] else h0 (colo r n j)
  | 0, h => absurd h (by omega)
  | i + 1, h => by
    show (if pK T N (colo r n i) = true ∧ lp + mkc T N r n j = lp + mkc T N r n i then _ else npa T N r n lp h0 pa i (lp + mkc T N r n j)) = _
    by_cases e : j = i
    · subst e; rw [if_pos ⟨hp, rfl⟩]
    · rw [if_neg (fun u => e (mkc_inj hp u.1 (by omega)))]
      exact npa_new hp (by omega)
end
theorem lp_le {S : ST} (hP : PJ S) {i : Nat} : ∀ {j : Nat}, i ≤ j → j ≤ S.r → S.lp i ≤ S.lp j
  | 0, h, _ => by rw [Nat.le_zero.mp h]; exact Nat.le_refl _
  | j + 1, h, hj => by
    by_cases e : i = j + 1
    · rw [e]; exact Nat.le_refl _
    · exact Nat.le_trans (lp_le hP (i := i) (j := j) (by omega) (by omega)) (hP.2.2.2.2.2.2.2.1 j (by omega))
/-- what is known of the new stacks -/
theorem nst_mem {S : ST} {N q : Nat} (hP : PJ S) (hK : KH S N) {c x : Nat} (hc : c < fg S.T N) : x ∈ (nS S N q).st (S.r + 1) c ↔ (x ∈ msq S.T N (S.st S.r) c ∧ (sg S.T (idx (fg S.T) N c) = 109 ∨ sg S.T (idx (fg S.T) N c) = 116)) ∨ (pK S.T N c = true ∧ x = S.lp S.r + mkc S.T N S.r (fg S.T N) (colo S.r (fg S.T N) c)) := by
  rw [nS_st1]
  have hcl := colo_lt (r := S.r) hc
  have hh := hm_c (T := S.T) (N := N) (r := S.r) (lp := S.lp S.r) (h0 := msq S.T N (S.st S.r)) (Nat.le_refl _) hcl
  rw [colo_colo hc] at hh
  rw [hh]
  unfold nsv pK
  rw [colo_colo hc]
  by_cases e1 : sg S.T (idx (fg S.T) N c) = 109
  · rw [if_pos e1]
    constructor
    · intro h; exact Or.inl ⟨h, Or.inl e1⟩
    · rintro (h | h)
      · exact h.1
      · rw [decide_eq_true e1] at h; exact absurd h.1 (by decide)
  rw [if_neg e1]
  by_cases e2 : sg S.T (idx (fg S.T) N c) = 116
  · rw [if_pos e2, List.mem_append, List.mem_singleton, decide_eq_false e1]
    constructor
    · rintro (h | h)
      · exact Or.inl ⟨h, Or.inr e2⟩
      · exact Or.inr ⟨rfl, h⟩
    · rintro (h | h)
      · exact Or.inl h.1
      · exact Or.inr h.2
  · rw [if_neg e2, List.mem_singleton, decide_eq_false e1]
    constructor
    · intro h; exact Or.inr ⟨rfl, h⟩
    · rintro (h | h)
      · exact absurd h.2 (by omega)
      · exact h.2
theorem msq_lt {S : ST} {N : Nat} (hP : PJ S) (hK : KH S N) {c x : Nat} (hc : c < fg S.T N) (h : x ∈ msq S.T N (S.st S.r) c) : x < S.lp S.r := by
  obtain ⟨j, j1, j2, j3⟩ := (msq_mem (VT_of hP.2.2.1 hK.1) hc).mp h
  exact hP.2.2.2.2.2.2.1 S.r j x (Nat.le_refl _) (by rw [← hK.2.1]; exact j1) j3
theorem msq_un {S : ST} {N : Nat} (hP : PJ S) (hK : KH S N) {c c' x : Nat} (hc : c < fg S.T N) (hc' : c' < fg S.T N) (h : x ∈ msq S.T N (S.st S.r) c) (h' : x ∈ msq S.T N (S.st S.r) c') : c = c' := by
  obtain ⟨j, j1, j2, j3⟩ := (msq_mem (VT_of hP.2.2.1 hK.1) hc).mp h
  obtain ⟨j', j1', j2', j3'⟩ := (msq_mem (VT_of hP.2.2.1 hK.1) hc').mp h'
  have := hP.2.2.2.2.2.2.2.2.2.2.2.1 S.r j j' x (Nat.le_refl _) (by rw [← hK.2.1]; exact j1) (by rw [← hK.2.1]; exact j1') j3 j3'
  subst this
  rw [j2] at j2'
  exact Option.some.inj j2'
theorem nst_un {S : ST} {N q : Nat} (hP : PJ S) (hK : KH S N) {c c' x : Nat} (hc : c < fg S.T N) (hc' : c' < fg S.T N) (h : x ∈ (nS S N q).st (S.r + 1) c) (h' : x ∈ (nS S N q).st (S.r + 1) c') : c = c' := by
  rcases (nst_mem hP hK hc).mp h with ⟨a, -⟩ | ⟨a, b⟩
  · rcases (nst_mem hP hK hc').mp h' with ⟨a', -⟩ | ⟨a', b'⟩
    · exact msq_un hP hK hc hc' a a'
    · have := msq_lt hP hK hc a; omega
  · rcases (nst_mem hP hK hc').mp h' with ⟨a', -⟩ | ⟨a', b'⟩
    · have := msq_lt hP hK hc' a'; omega
    · have e := mkc_inj (T := S.T) (N := N) (r := S.r) (n := fg S.T N) (by rw [colo_colo hc]; exact a) (by rw [colo_colo hc']; exact a') (by omega)
      rw [← colo_colo (r := S.r) hc, e, colo_colo hc']
theorem nwh {S : ST} {N q : Nat} (hP : PJ S) (hK : KH S N) {x : Nat} (hx : x < S.lp S.r + mkc S.T N S.r (fg S.T N) (fg S.T N)) : wm S.T N S.r (fg S.T N) (S.lp S.r) (msq S.T N (S.st S.r)) (w3 S N) (fg S.T N) x = (nS S N q).wh x := by
  have hV : VT S.T N := VT_of hP.2.2.1 hK.1
  have hu := hP.2.2.2.2.2.2.2.2.2.2.2.1 S.r
  have hm := hP.2.2.2.2.2.2.1 S.r
  have hcn := hK.2.1
  have ew : (nS S N q).wh x = match whr ((nS S N q).st (S.r + 1)) x (fg S.T N) with
    | some q => nI q
    | none => if (nS S N q).di x = 0 then neg1 else neg2 := by
    unfold ST.wh
    have e1 : (nS S N q).cN (nS S N q).r = fg S.T N := nS_cN1
    rw [e1]; rfl
  rw [ew]
  by_cases hn : x < S.lp S.r
  · rw [wm_old hn]
    have noNew : ∀ c, c < fg S.T N → x ∈ (nS S N q).st (S.r + 1) c → x ∈ msq S.T N (S.st S.r) c ∧ (sg S.T (idx (fg S.T) N c) = 109 ∨ sg S.T (idx (fg S.T) N c) = 116) := by
      intro c hc h
      rcases (nst_mem hP hK hc).mp h with a | a
      · exact a
      · omega
    by_cases hj : ∃ j, j < ft S.T N ∧ x ∈ S.st S.r j
    · obtain ⟨j, j1, j2⟩ := hj
      have j1' : j < S.cN S.r := by rw [← hcn]; exact j1
      have uq : ∀ j', j' < ft S.T N → x ∈ S.st S.r j' → j' = j := fun j' a b => hu j' j x (Nat.le_refl _) (by rw [← hcn]; exact a) j1' b j2
      have ew3 : w3 S N x = match cg S.T N j with | none => neg2 | some c => nI c := by
        unfold w3
        rw [wvs_in j2 uq j1, wvs_in j2 uq j1, wvs_in j2 uq j1]
        have cl1 : cl S.T N j ≤ 1 := ltf_1 _ _ _
        cases hc : cg S.T N j with
        | none =>
          rw [if_neg (by unfold pB; rw [hc]; simp), if_neg (by unfold pB; rw [hc]; simp), if_pos (by unfold pN; rw [hc]; rfl)]
        | some c =>
          by_cases u : cl S.T N j = 1
          · rw [if_pos (by unfold pB; rw [hc, decide_eq_true u]; rfl)]; rfl
          · rw [if_neg (by unfold pB; rw [hc, decide_eq_false u]; simp), if_pos (by unfold pB; rw [hc, decide_eq_true (by omega)]; rfl)]; rfl
      have dz : S.di x = 0 := by
        have a := hP.2.2.2.2.2.2.2.2.2.2.2.2.2.2.1 x hn
        have b := hP.2.2.2.2.2.2.2.2.2.2.2.2.2.2.2.1 S.r j x (Nat.le_refl _) j1' j2
        omega
      cases hc : cg S.T N j with
      | none =>
        rw [hc] at ew3
        have nom : ∀ c, c < fg S.T N → x ∉ msq S.T N (S.st S.r) c := by
          intro c hcc h
          obtain ⟨j', a1, a2, a3⟩ := (msq_mem hV hcc).mp h
          rw [uq j' a1 a3, hc] at a2
          cases a2
        rw [if_neg (fun u => by obtain ⟨i, i1, -, -, i4⟩ := u; exact nom _ (colo_lt i1) i4), ew3, whr_out (fun c hcc h => nom c hcc (noNew c hcc h).1)]
        have : (nS S N q).di x = S.r + 1 := dvs_in ⟨j, j1, by unfold pN; rw [hc]; rfl, j2⟩
        show neg2 = if (nS S N q).di x = 0 then neg1 else neg2
        rw [this, if_neg (by omega)]
      | some c =>
        rw [hc] at ew3
        have hcc := cg_lt hV j1 hc
        have inm : x ∈ msq S.T N (S.st S.r) c := (msq_mem hV hcc).mpr ⟨j, j1, hc, j2⟩
        have onl : ∀ c', c' < fg S.T N → x ∈ msq S.T N (S.st S.r) c' → c' = c := fun c' h1 h2 => msq_un hP hK h1 hcc h2 inm
        by_cases hk : sg S.T (idx (fg S.T) N c) = 109 ∨ sg S.T (idx (fg S.T) N c) = 116
        · have inF : x ∈ (nS S N q).st (S.r + 1) c := (nst_mem hP hK hcc).mpr (Or.inl ⟨inm, hk⟩)
          rw [whr_yes (whr_out (fun c' h1 h2 => by
            have := nst_un hP hK (by omega) hcc h2 inF
            omega)) inF hcc]
          rw [if_neg (fun u => ?_), ew3]
          obtain ⟨i, i1, i2, i3, i4⟩ := u
          have := onl _ (colo_lt i1) i4
          rw [this] at i2 i3
          rcases hk with hk | hk
          · unfold pK at i2
            rw [decide_eq_true hk] at i2
            exact absurd i2 (by decide)
          · exact i3 hk
        · rw [if_pos ⟨colo S.r (fg S.T N) c, colo_lt hcc, by rw [colo_colo hcc]; unfold pK; rw [decide_eq_false (by omega)]; rfl, by rw [colo_colo hcc]; omega, by rw [colo_colo hcc]; exact inm⟩]
          rw [whr_out (fun c' h1 h2 => by
            have a := noNew c' h1 h2
            have := onl c' h1 a.1
            subst this
            exact hk a.2)]
          have : (nS S N q).di x = S.di x := by
            have e : (nS S N q).di x = (fun x => if S.lp S.r ≤ x then 0 else S.di x) x := dvs_out (fun j' a1 a2 a3 => by
              have := uq j' a1 a3
              subst this
              unfold pN at a2
              rw [hc] at a2
              exact absurd a2 (by simp))
            rw [e]; exact if_neg (by omega)
          show neg1 = if (nS S N q).di x = 0 then neg1 else neg2
          rw [this, dz, if_pos rfl]
    · have no : ∀ j, j < ft S.T N → x ∉ S.st S.r j := fun j a b => hj ⟨j, a, b⟩
      have nom : ∀ c, c < fg S.T N → x ∉ msq S.T N (S.st S.r) c := by
        intro c hcc h
        obtain ⟨j', a1, a2, a3⟩ := (msq_mem hV hcc).mp h
        exact no j' a1 a3
      have ew3 : w3 S N x = S.wh x := by
        unfold w3
        rw [wvs_out no, wvs_out no, wvs_out no]
      rw [if_neg (fun u => by obtain ⟨i, i1, -, -, i4⟩ := u; exact nom _ (colo_lt i1) i4), ew3, whr_out (fun c hcc h => nom c hcc (noNew c hcc h).1)]
      have e : (nS S N q).di x = (fun x => if S.lp S.r ≤ x then 0 else S.di x) x := dvs_out (fun j' a1 a2 a3 => no j' a1 a3)
      have e2 : (nS S N q).di x = S.di x := by rw [e]; exact if_neg (by omega)
      show S.wh x = if (nS S N q).di x = 0 then neg1 else neg2
      rw [e2]
      unfold ST.wh
      rw [whr_out (fun j hj => no j (by rw [hcn]; exact hj))]
  · obtain ⟨i, i1, i2, i3⟩ := mkc_ex (T := S.T) (N := N) (r := S.r) (n := fg S.T N) (i := fg S.T N) (y := x - S.lp S.r) (by omega)
    have ex : x = S.lp S.r + mkc S.T N S.r (fg S.T N) i := by omega
    have hcl := colo_lt (r := S.r) i1
    have inF : x ∈ (nS S N q).st (S.r + 1) (colo S.r (fg S.T N) i) := (nst_mem hP hK hcl).mpr (Or.inr ⟨i2, by rw [colo_colo i1]; exact ex⟩)
    rw [whr_yes (whr_out (fun c' h1 h2 => by
      have := nst_un hP hK (by omega) hcl h2 inF
      omega)) inF hcl]
    rw [ex]
    exact wm_new i2 (fun c y hc hy => msq_lt hP hK hc hy) (Nat.le_refl _) i1
theorem nwb {S : ST} {N : Nat} (hP : PJ S) (hK : KH S N) {x : Nat} (hl : S.lp S.r ≤ x) (b b' : Nat → Int32) (hx : x < S.lp S.r + mkc S.T N S.r (fg S.T N) (fg S.T N)) : wm S.T N S.r (fg S.T N) (S.lp S.r) (msq S.T N (S.st S.r)) b (fg S.T N) x = wm S.T N S.r (fg S.T N) (S.lp S.r) (msq S.T N (S.st S.r)) b' (fg S.T N) x := by
  obtain ⟨i, i1, i2, i3⟩ := mkc_ex (T := S.T) (N := N) (r := S.r) (n := fg S.T N) (i := fg S.T N) (y := x - S.lp S.r) (by omega)
  have ex : x = S.lp S.r + mkc S.T N S.r (fg S.T N) i := by omega
  rw [ex, wm_new i2 (fun c y hc hy => msq_lt hP hK hc hy) (Nat.le_refl _) i1, wm_new i2 (fun c y hc hy => msq_lt hP hK hc hy) (Nat.le_refl _) i1]
theorem ndi_c {S : ST} {N q x : Nat} : ((nS S N q).di x = S.r + 1 ∧ ∃ j, j < ft S.T N ∧ cg S.T N j = none ∧ x ∈ S.st S.r j) ∨ ((nS S N q).di x = if S.lp S.r ≤ x then 0 else S.di x) ∧ ¬ ∃ j, j < ft S.T N ∧ cg S.T N j = none ∧ x ∈ S.st S.r j := by
  by_cases h : ∃ j, j < ft S.T N ∧ cg S.T N j = none ∧ x ∈ S.st S.r j
  · refine Or.inl ⟨?_, h⟩
    obtain ⟨j, a, b, c⟩ := h
    exact dvs_in ⟨j, a, by unfold pN; rw [b]; rfl, c⟩
  · refine Or.inr ⟨?_, h⟩
    refine dvs_out (fun j a b c => h ⟨j, a, ?_, c⟩)
    unfold pN at b
    simpa using b
theorem nPJ {S : ST} {N q : Nat} (hP : PJ S) (hK : KH S N) (h0 : S.cN 0 ≠ 0) : PJ (nS S N q) := by
  have hV : VT S.T N := VT_of hP.2.2.1 hK.1
  have hP' := hP
  have hK' := hK
  obtain ⟨P1, P2, P3, P4, P5, P6, P7, P8, P9, P10, P11, P12, P13, P14, P15, P16, P17, P18, P19⟩ := hP
  obtain ⟨k1, k2, k3, k4, k5, k6, k7⟩ := hK
  have mk3 : S.lp S.r + mkc S.T N S.r (fg S.T N) (fg S.T N) ≤ 300 := by rw [mkc_all, md_cnt (Nat.le_refl N)]; exact k7
  have hn0 : S.n ≠ 0 := fun e => by
    have := (rdr_0 k1).mpr e
    rw [this] at k3
    have k3 : 1 ≤ 0 := k3
    omega
  have h4 : ∀ j, j < ft S.T N → (S.st S.r j).length ≤ 4 := fun j hj => P5 S.r j (Nat.le_refl _) (by rw [← k2]; exact hj)
  have rE : (nS S N q).r = S.r + 1 := rfl
  have lpE : (nS S N q).lp (nS S N q).r = S.lp S.r + mkc S.T N S.r (fg S.T N) (fg S.T N) := nS_lp1
  have newlt : ∀ c, c < fg S.T N → pK S.T N c = true → S.lp S.r + mkc S.T N S.r (fg S.T N) (colo S.r (fg S.T N) c) < S.lp S.r + mkc S.T N S.r (fg S.T N) (fg S.T N) := by
    intro c hc hp
    have h1 := mkc_le (T := S.T) (N := N) (r := S.r) (n := fg S.T N) (show colo S.r (fg S.T N) c + 1 ≤ fg S.T N from colo_lt hc)
    rw [mkc_s (by rw [colo_colo hc]; exact hp)] at h1
    omega
  have hst : ∀ c, c < fg S.T N → (nS S N q).st (S.r + 1) c = nsv S.T N S.r (fg S.T N) (S.lp S.r) (msq S.T N (S.st S.r)) (colo S.r (fg S.T N) c) := by
    intro c hc
    have hh := hm_c (T := S.T) (N := N) (r := S.r) (lp := S.lp S.r) (h0 := msq S.T N (S.st S.r)) (Nat.le_refl _) (colo_lt (r := S.r) hc)
    rw [colo_colo hc] at hh
    rw [nS_st1, hh]
  refine ⟨?_, ?_, P3, ?_, ?_, ?_, ?_, ?_, ?_, ?_, ?_, ?_, ?_, ?_, ?_, ?_, ?_, ?_, ?_⟩
  · rw [rE]; omega
  · show 0 ≤ 40; omega
  · intro i hi
    rw [rE] at hi
    by_cases e : i = S.r + 1
    · rw [e, nS_cN1]; exact k4
    · rw [nS_cN0 e]; exact P4 i (by omega)
  · intro i j hi hj
    rw [rE] at hi
    by_cases e : i = S.r + 1
    · rw [e, nS_cN1] at hj
      rw [e, hst j hj]; exact nsv_4 hV h4 k5 (colo_lt hj)
    · rw [nS_cN0 e] at hj
      rw [nS_st0 e]; exact P5 i j (by omega) hj
  · intro i hi
    rw [rE] at hi
    by_cases e : i = S.r + 1
    · rw [e, nS_lp1]; exact mk3
    · rw [nS_lp0 e]; exact P6 i (by omega)
  · intro i j x hi hj hx
    rw [rE] at hi
    by_cases e : i = S.r + 1
    · rw [e, nS_cN1] at hj
      rw [e] at hx
      rw [e, nS_lp1]
      rcases (nst_mem hP' hK' hj).mp hx with ⟨a, -⟩ | ⟨a, b⟩
      · have := msq_lt hP' hK' hj a; omega
      · rw [b]; exact newlt j hj a
    · rw [nS_cN0 e] at hj
      rw [nS_st0 e] at hx
      rw [nS_lp0 e]; exact P7 i j x (by omega) hj hx
  · intro i hi
    rw [rE] at hi
    by_cases e : i = S.r
    · subst e
      rw [nS_lp1, nS_lp0 (by omega)]; omega
    · rw [nS_lp0 (by omega), nS_lp0 (by omega)]; exact P8 i (by omega)
  · intro i i1 hi
    rw [rE] at hi
    by_cases e : i = S.r + 1
    · subst e
      rw [nS_ln1, nS_tx1, nS_N1 k1, nS_cN1, Nat.add_sub_cancel, nS_cN0 (by omega), k1]
      exact ⟨P2, P3, hn0, rfl, k2, rfl⟩
    · rw [nS_ln0 e, nS_tx0 e, nS_N0 e, nS_cN0 e, nS_cN0 (by omega)]
      exact P9 i i1 (by omega)
  · intro h
    rw [nS_cN0 (by omega)] at h
    exact absurd h h0
  · intro x hx
    rw [lpE] at hx
    show (npa S.T N S.r (fg S.T N) (S.lp S.r) (msq S.T N (S.st S.r)) S.pa (fg S.T N) x).length ≤ 4
    by_cases u : x < S.lp S.r
    · rw [npa_old u]; exact P11 x u
    · obtain ⟨i, i1, i2, i3⟩ := mkc_ex (T := S.T) (N := N) (r := S.r) (n := fg S.T N) (i := fg S.T N) (y := x - S.lp S.r) (by omega)
      have ex : x = S.lp S.r + mkc S.T N S.r (fg S.T N) i := by omega
      rw [ex, npa_new i2 i1]
      split
      · simp
      · have := msq_len hV (colo_lt (r := S.r) i1) h4 k5; omega
  · intro i j j' x hi hj hj' hx hx'
    rw [rE] at hi
    by_cases e : i = S.r + 1
    · rw [e] at hx hx'
      rw [e, nS_cN1] at hj hj'
      exact nst_un hP' hK' hj hj' hx hx'
    · rw [nS_cN0 e] at hj hj'
      rw [nS_st0 e] at hx hx'
      exact P12 i j j' x (by omega) hj hj' hx hx'
  · intro i j hi hj
    rw [rE] at hi
    by_cases e : i = S.r + 1
    · rw [e, nS_cN1] at hj
      have nd := msq_nd (f := S.st S.r) hV hj (fun j hj => P13 S.r j (Nat.le_refl _) (by rw [← k2]; exact hj)) (fun j j' x a b => P12 S.r j j' x (Nat.le_refl _) (by rw [← k2]; exact a) (by rw [← k2]; exact b))
      rw [e, hst j hj]
      unfold nsv
      rw [colo_colo hj]
      split
      · exact nd
      · split
        · rw [List.nodup_append]
          refine ⟨nd, by simp, fun a ha b hb e => ?_⟩
          rw [List.mem_singleton] at hb
          have := msq_lt hP' hK' hj ha
          omega
        · simp
    · rw [nS_cN0 e] at hj
      rw [nS_st0 e]; exact P13 i j (by omega) hj
  · intro i j x hi hj hx hl
    rw [rE] at hi
    by_cases e : i = S.r
    · subst e
      rw [nS_cN1] at hj
      rw [nS_lp0 (by omega)] at hl
      rw [nS_cN0 (by omega), nS_st0 (by omega)]
      rcases (nst_mem hP' hK' hj).mp hx with ⟨a, -⟩ | ⟨a, b⟩
      · obtain ⟨j', a1, a2, a3⟩ := (msq_mem hV hj).mp a
        exact ⟨j', by rw [← k2]; exact a1, a3⟩
      · omega
    · rw [nS_cN0 (by omega)] at hj
      rw [nS_st0 (by omega)] at hx
      rw [nS_lp0 (by omega)] at hl
      rw [nS_cN0 (by omega), nS_st0 (by omega)]
      exact P14 i j x (by omega) hj hx hl
  · intro x hx
    rw [rE]
    rcases ndi_c (S := S) (N := N) (q := q) (x := x) with ⟨a, -⟩ | ⟨a, -⟩
    · omega
    · rw [a]
      split
      · omega
      · have := P15 x (by omega); omega
  · intro i j x hi hj hx
    rw [rE] at hi
    rcases ndi_c (S := S) (N := N) (q := q) (x := x) with ⟨a, b⟩ | ⟨a, b⟩
    · by_cases e : i = S.r + 1
      · exfalso
        subst e
        rw [nS_cN1] at hj
        obtain ⟨j', b1, b2, b3⟩ := b
        rcases (nst_mem hP' hK' hj).mp hx with ⟨u, -⟩ | ⟨u, v⟩
        · obtain ⟨j2, a1, a2, a3⟩ := (msq_mem hV hj).mp u
          have := P12 S.r j2 j' x (Nat.le_refl _) (by rw [← k2]; exact a1) (by rw [← k2]; exact b1) a3 b3
          subst this
          rw [a2] at b2; cases b2
        · have := P7 S.r j' x (Nat.le_refl _) (by rw [← k2]; exact b1) b3
          omega
      · right; omega
    · rw [a]
      by_cases e : i = S.r + 1
      · left
        subst e
        rw [nS_cN1] at hj
        split
        · rfl
        · rcases (nst_mem hP' hK' hj).mp hx with ⟨u, -⟩ | ⟨u, v⟩
          · obtain ⟨j2, a1, a2, a3⟩ := (msq_mem hV hj).mp u
            have p := P16 S.r j2 x (Nat.le_refl _) (by rw [← k2]; exact a1) a3
            have p' := P15 x (by omega)
            omega
          · omega
      · rw [nS_cN0 e] at hj
        rw [nS_st0 e] at hx
        have l1 := P7 i j x (by omega) hj hx
        have l2 := lp_le hP' (show i ≤ S.r by omega) (Nat.le_refl _)
        rw [if_neg (by omega)]
        exact P16 i j x (by omega) hj hx
  · intro i x hi hx hd
    rw [rE] at hi
    rw [nS_lp0 (by omega)] at hx
    rw [nS_cN0 (by omega), nS_st0 (by omega)]
    have l2 := lp_le hP' (show i ≤ S.r by omega) (Nat.le_refl _)
    rcases ndi_c (S := S) (N := N) (q := q) (x := x) with ⟨a, b⟩ | ⟨a, b⟩
    · have e : i = S.r := by omega
      subst e
      obtain ⟨j', b1, b2, b3⟩ := b
      exact ⟨j', by rw [← k2]; exact b1, b3⟩
    · rw [a, if_neg (by omega)] at hd
      have p' := P15 x (by omega)
      exact P17 i x (by omega) hx hd
  · intro x hx hd
    rcases ndi_c (S := S) (N := N) (q := q) (x := x) with ⟨a, b⟩ | ⟨a, b⟩
    · rw [a, Nat.add_sub_cancel, nS_lp0 (by omega)]
      obtain ⟨j', b1, b2, b3⟩ := b
      exact P7 S.r j' x (Nat.le_refl _) (by rw [← k2]; exact b1) b3
    · rw [a] at hd ⊢
      by_cases u : S.lp S.r ≤ x
      · rw [if_pos u] at hd; exact absurd rfl hd
      · rw [if_neg u] at hd ⊢
        have p' := P15 x (by omega)
        rw [nS_lp0 (by omega)]
        exact P18 x (by omega) hd
  · intro i j hi hj
    rw [rE] at hi
    by_cases e : i = S.r + 1
    · rw [e, nS_cN1] at hj
      rw [e, nS_bd1]
      unfold nbd
      obtain ⟨s1, s2, s3⟩ := idx_ok (f := fg S.T) rfl hj
      by_cases hk : sg S.T (idx (fg S.T) N j) = 116 ∨ sg S.T (idx (fg S.T) N j) = 109
      · have t1 : tkn S.T (idx (fg S.T) N j) = 1 := by
          unfold tkn tk
          rw [if_neg (by omega), if_neg (by omega), if_neg (by omega), if_neg (by omega)]
        have l := ft_le (T := S.T) (show idx (fg S.T) N j + 1 ≤ N from s1)
        rw [ft_s, t1] at l
        exact bdn_1 (P19 S.r _ (Nat.le_refl _) (by rw [← k2]; omega))
      · unfold bdn
        rw [if_neg hk]
        split <;> omega
    · rw [nS_cN0 e] at hj
      rw [nS_bd0 e]; exact P19 i j (by omega) hj
