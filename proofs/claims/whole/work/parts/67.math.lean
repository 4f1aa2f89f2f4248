/-! which columns come to which, in what order -/
def oL (p : Nat → Bool) : Nat → List Nat
  | 0 => []
  | n + 1 => oL p n ++ (if p n = true then [n] else [])
theorem oL_mem {p : Nat → Bool} {x : Nat} : ∀ {n : Nat}, x ∈ oL p n ↔ x < n ∧ p x = true
  | 0 => ⟨fun h => absurd h (by simp [oL]), fun h => absurd h.1 (by omega)⟩
  | n + 1 => by
    show x ∈ oL p n ++ (if p n = true then [n] else []) ↔ _
    rw [List.mem_append, oL_mem]
    constructor
    · rintro (h | h)
      · exact ⟨by omega, h.2⟩
      · by_cases e : p n = true
        · rw [if_pos e, List.mem_singleton] at h
          exact ⟨by omega, by rw [h]; exact e⟩
        · rw [if_neg e] at h; exact absurd h (by simp)
    · rintro ⟨h1, h2⟩
      by_cases e : x = n
      · exact Or.inr (by rw [← e, if_pos h2]; simp)
      · exact Or.inl ⟨by omega, h2⟩
theorem oL_nd {p : Nat → Bool} : ∀ {n : Nat}, (oL p n).Nodup
  | 0 => List.nodup_nil
  | n + 1 => by
    show (oL p n ++ (if p n = true then [n] else [])).Nodup
    rw [List.nodup_append]
    refine ⟨oL_nd, ?_, ?_⟩
    · split <;> simp
    · intro a ha b hb e
      have h1 := (oL_mem.mp ha).1
      split at hb
      · rw [List.mem_singleton] at hb; omega
      · exact absurd hb (by simp)
theorem oL_add {p : Nat → Bool} {a : Nat} : ∀ {n : Nat}, oL p (a + n) = oL p a ++ (oL (fun o => p (a + o)) n).map (fun o => a + o)
  | 0 => by show oL p a = oL p a ++ []; rw [List.append_nil]
  | n + 1 => by
    show oL p (a + n) ++ (if p (a + n) = true then [a + n] else []) = oL p a ++ (oL (fun o => p (a + o)) n ++ (if p (a + n) = true then [n] else [])).map (fun o => a + o)
    rw [oL_add, List.map_append, List.append_assoc]
    by_cases e : p (a + n) = true
    · rw [if_pos e, if_pos e]; rfl
    · rw [if_neg e, if_neg e]; rfl
theorem oL_cg {p p' : Nat → Bool} : ∀ {n : Nat}, (∀ x, x < n → p x = p' x) → oL p n = oL p' n
  | 0, _ => rfl
  | n + 1, h => by
    show oL p n ++ (if p n = true then [n] else []) = oL p' n ++ (if p' n = true then [n] else [])
    rw [oL_cg (fun x hx => h x (by omega)), h n (by omega)]
theorem oL_0 {p : Nat → Bool} : ∀ {n : Nat}, (∀ x, x < n → p x = false) → oL p n = []
  | 0, _ => rfl
  | n + 1, h => by
    show oL p n ++ (if p n = true then [n] else []) = []
    rw [oL_0 (fun x hx => h x (by omega)), h n (by omega)]; rfl
theorem oL_1 {p : Nat → Bool} {o : Nat} : ∀ {n : Nat}, o < n → p o = true → (∀ x, x < n → x ≠ o → p x = false) → oL p n = [o]
  | 0, h, _, _ => absurd h (by omega)
  | n + 1, h, h1, h2 => by
    show oL p n ++ (if p n = true then [n] else []) = [o]
    by_cases e : o = n
    · subst e
      rw [oL_0 (fun x hx => h2 x (by omega) (by omega)), if_pos h1]; rfl
    · rw [oL_1 (by omega) h1 (fun x hx hne => h2 x (by omega) hne), h2 n (by omega) (by omega)]; rfl
/-- the columns that are brought to q, late or not -/
def pG (T : Nat → Nat) (N f' q j : Nat) : Bool := decide (cg T N j = some q ∧ cl T N j = f')
def pS (T : Nat → Nat) (s f' q o : Nat) : Bool := decide (gof T s o = some q ∧ ltf T s o = f')
theorem brl_e {T : Nat → Nat} {N f' : Nat} {f h : Nat → List Nat} {q : Nat} : ∀ {j : Nat}, brl T N f' f h j q = h q ++ (oL (pG T N f' q) j).flatMap f
  | 0 => by show h q = h q ++ []; rw [List.append_nil]
  | j + 1 => by
    show (if cg T N j = some q ∧ cl T N j = f' then brl T N f' f h j q ++ f j else brl T N f' f h j q) = h q ++ (oL (pG T N f' q) j ++ (if pG T N f' q j = true then [j] else [])).flatMap f
    by_cases e : cg T N j = some q ∧ cl T N j = f'
    · rw [if_pos e, if_pos (by unfold pG; exact decide_eq_true e), brl_e, List.flatMap_append, List.append_assoc]; simp
    · rw [if_neg e, if_neg (by unfold pG; rw [decide_eq_false e]; decide), brl_e, List.append_nil]
theorem oL_st {T : Nat → Nat} {N f' s q : Nat} (hV : VT T N) (hs : s < N) (h1 : fg T s ≤ q) (h2 : q < fg T s + gvn T s) : ∀ {i : Nat}, i ≤ N → oL (pG T N f' q) (ft T i) = if s < i then (oL (pS T s f' q) (tkn T s)).map (fun o => ft T s + o) else []
  | 0, _ => by rw [if_neg (by omega)]; rfl
  | i + 1, hi => by
    have own : oL (fun o => pG T N f' q (ft T i + o)) (tkn T i) = oL (pS T i f' q) (tkn T i) := oL_cg (fun o ho => by
      unfold pG pS
      rw [cg_t (by omega) ho, cl_t (by omega) ho])
    rw [ft_s, oL_add, own, oL_st hV hs h1 h2 (by omega)]
    by_cases e : i = s
    · subst e
      rw [if_neg (by omega), if_pos (by omega)]; rfl
    · have : oL (pS T i f' q) (tkn T i) = [] := oL_0 (fun o ho => by
        unfold pS
        refine decide_eq_false (fun u => ?_)
        have := gof_lt hV (by omega) ho u.1
        by_cases lt : i < s
        · have k := fg_le (T := T) (show i + 1 ≤ s by omega)
          rw [fg_s] at k; omega
        · have k := fg_le (T := T) (show s + 1 ≤ i by omega)
          rw [fg_s] at k; omega)
      rw [this]
      by_cases lt : s < i
      · rw [if_pos lt, if_pos (by omega)]; simp
      · rw [if_neg lt, if_neg (by omega)]; rfl
theorem own_all {T : Nat → Nat} {N s o : Nat} (hV : VT T N) (hs : s < N) (ho : o < gvn T s) : (oL (pS T s 0 (fg T s + o)) (tkn T s)).map (fun o => ft T s + o) ++ (oL (pS T s 1 (fg T s + o)) (tkn T s)).map (fun o => ft T s + o) = sro T s o := by
  unfold sro
  by_cases hc : cb T s
  · rw [if_pos hc]
    have ht : tkn T s = sl T s + sr T s := tk_c hc
    have hgn : gvn T s = sl T s + sr T s := gv_c hc
    have hgof : ∀ o', gof T s o' = if o' < sl T s then some (fg T s + sr T s + o') else some (fg T s + o' - sl T s) := fun o' => by
      unfold gof
      have hc' : sg T s = 60 ∨ sg T s = 62 := hc
      rw [if_neg (by omega), if_pos hc]
    have one : ∀ o' f', o' < tkn T s → gof T s o' = some (fg T s + o) → oL (pS T s f' (fg T s + o)) (tkn T s) = if ltf T s o' = f' then [o'] else [] := by
      intro o' f' h1 h2
      have uq : ∀ x, x < tkn T s → x ≠ o' → gof T s x ≠ some (fg T s + o) := by
        intro x hx hne hh
        rw [hgof] at h2 hh
        split at h2 <;> split at hh <;> simp only [Option.some.injEq] at h2 hh <;> omega
      by_cases e : ltf T s o' = f'
      · rw [if_pos e]
        exact oL_1 h1 (by unfold pS; exact decide_eq_true ⟨h2, e⟩) (fun x hx hne => by unfold pS; exact decide_eq_false (fun u => uq x hx hne u.1))
      · rw [if_neg e]
        refine oL_0 (fun x hx => ?_)
        unfold pS
        refine decide_eq_false (fun u => ?_)
        by_cases e2 : x = o'
        · subst e2; exact e u.2
        · exact uq x hx e2 u.1
    have fin : ∀ o', o' < tkn T s → gof T s o' = some (fg T s + o) → (oL (pS T s 0 (fg T s + o)) (tkn T s)).map (fun o => ft T s + o) ++ (oL (pS T s 1 (fg T s + o)) (tkn T s)).map (fun o => ft T s + o) = [ft T s + o'] := by
      intro o' h1 h2
      rw [one o' 0 h1 h2, one o' 1 h1 h2]
      have := ltf_1 T s o'
      by_cases e : ltf T s o' = 0
      · rw [if_pos e, if_neg (by omega)]; rfl
      · rw [if_neg e, if_pos (by omega)]; rfl
    by_cases u : o < sr T s
    · rw [if_pos u]
      refine fin _ (by omega) ?_
      rw [hgof, if_neg (by omega)]
      exact congrArg some (by omega)
    · rw [if_neg u]
      refine fin _ (by omega) ?_
      rw [hgof, if_pos (by omega)]
      exact congrArg some (by omega)
  · rw [if_neg hc]
    have hpl : pl (sg T s) := by
      rcases (hV s hs).2 with v | v
      · exact v
      · exact absurd v.1 hc
    have n120 : sg T s ≠ 120 := by
      intro e
      unfold gvn gv at ho
      rw [if_neg hc, if_pos e] at ho
      omega
    have g1 : gvn T s = 1 := by unfold gvn gv; rw [if_neg hc, if_neg n120]
    have o0 : o = 0 := by omega
    subst o0
    have hgo : ∀ o', gof T s o' = some (fg T s + 0) := fun o' => by unfold gof; rw [if_neg n120, if_neg hc]; rfl
    have ps : ∀ f' o', pS T s f' (fg T s + 0) o' = decide (ltf T s o' = f') := fun f' o' => by
      unfold pS
      rw [hgo]; simp
    have cg : ∀ f', oL (pS T s f' (fg T s + 0)) (tkn T s) = oL (fun o' => decide (ltf T s o' = f')) (tkn T s) := fun f' => oL_cg (fun x _ => ps f' x)
    rw [cg, cg]
    unfold ltf tkn tk
    rcases hpl with h | h | h | h | h | h | h | h | h <;> simp [h, oL] <;> omega
/-- what comes to column q -/
def msq (T : Nat → Nat) (N : Nat) (f : Nat → List Nat) (q : Nat) : List Nat := (src T N q).flatMap f
theorem src_e {T : Nat → Nat} {N q : Nat} (hV : VT T N) (hq : q < fg T N) : oL (pG T N 0 q) (ft T N) ++ oL (pG T N 1 q) (ft T N) = src T N q := by
  obtain ⟨s1, s2, s3⟩ := idx_ok (f := fg T) rfl hq
  rw [fg_s] at s3
  obtain ⟨o, ho⟩ : ∃ o, q = fg T (idx (fg T) N q) + o := ⟨q - fg T (idx (fg T) N q), by omega⟩
  rw [oL_st hV s1 s2 s3 (Nat.le_refl N), oL_st hV s1 s2 s3 (Nat.le_refl N), if_pos s1, if_pos s1]
  unfold src
  have : q - fg T (idx (fg T) N q) = o := by omega
  rw [this]
  have K := own_all hV s1 (show o < gvn T (idx (fg T) N q) by omega)
  rw [← ho] at K
  exact K
theorem src_mem {T : Nat → Nat} {N q j : Nat} (hV : VT T N) (hq : q < fg T N) : j ∈ src T N q ↔ j < ft T N ∧ cg T N j = some q := by
  rw [← src_e hV hq, List.mem_append, oL_mem, oL_mem]
  have := ltf_1 T (idx (ft T) N j) (j - ft T (idx (ft T) N j))
  unfold pG
  rw [decide_eq_true_eq, decide_eq_true_eq]
  constructor
  · rintro (h | h)
    · exact ⟨h.1, h.2.1⟩
    · exact ⟨h.1, h.2.1⟩
  · rintro ⟨h1, h2⟩
    by_cases e : cl T N j = 0
    · exact Or.inl ⟨h1, h2, e⟩
    · exact Or.inr ⟨h1, h2, by unfold cl at e ⊢; omega⟩
theorem src_nd {T : Nat → Nat} {N q : Nat} (hV : VT T N) (hq : q < fg T N) : (src T N q).Nodup := by
  rw [← src_e hV hq, List.nodup_append]
  refine ⟨oL_nd, oL_nd, fun a ha b hb e => ?_⟩
  subst e
  have h1 := (oL_mem.mp ha).2
  have h2 := (oL_mem.mp hb).2
  unfold pG at h1 h2
  rw [decide_eq_true_eq] at h1 h2
  rw [h1.2] at h2
  exact absurd h2.2 (by decide)
/-- the stacks after all is brought -/
theorem bb_e {T : Nat → Nat} {N q : Nat} {f : Nat → List Nat} (hV : VT T N) (hq : q < fg T N) : brl T N 1 f (brl T N 0 f (fun _ => []) (ft T N)) (ft T N) q = msq T N f q := by
  rw [brl_e, brl_e, List.nil_append, ← List.flatMap_append, src_e hV hq]; rfl
theorem bb_0 {T : Nat → Nat} {N q : Nat} {f : Nat → List Nat} (hV : VT T N) (hq : ¬ q < fg T N) : brl T N 1 f (brl T N 0 f (fun _ => []) (ft T N)) (ft T N) q = [] := by
  have : ∀ f', oL (pG T N f' q) (ft T N) = [] := fun f' => oL_0 (fun j hj => by
    unfold pG
    exact decide_eq_false (fun u => hq (cg_lt hV hj u.1)))
  rw [brl_e, brl_e, this, this]; rfl
theorem msq_len {T : Nat → Nat} {N q : Nat} {f : Nat → List Nat} (hV : VT T N) (hq : q < fg T N) (h4 : ∀ j, j < ft T N → (f j).length ≤ 4) (hov : fsb (ovb T (fun j => (f j).length)) N = none) : (msq T N f q).length + (if sg T (idx (fg T) N q) = 116 then 1 else 0) ≤ 4 := by
  obtain ⟨s1, s2, s3⟩ := idx_ok (f := fg T) rfl hq
  have hs := fsb_none hov _ s1
  unfold ovb at hs
  rw [decide_eq_false_iff_not] at hs
  have hmem : ∀ j, j ∈ src T N q → (f j).length ≤ 4 := fun j hj => h4 j ((src_mem hV hq).mp hj).1
  unfold msq
  unfold src at hmem ⊢
  generalize hS : idx (fg T) N q = s at *
  generalize q - fg T s = o at *
  unfold sro at hmem ⊢
  by_cases hc : cb T s
  · rw [if_pos hc] at hmem ⊢
    have h116 : ¬ sg T s = 116 := fun e => by
      have hc : sg T s = 60 ∨ sg T s = 62 := hc
      omega
    rw [if_neg h116]
    split
    · rename_i u
      rw [if_pos u] at hmem
      have := hmem _ (List.mem_singleton.mpr rfl)
      simp; exact this
    · rename_i u
      rw [if_neg u] at hmem
      have := hmem _ (List.mem_singleton.mpr rfl)
      simp; exact this
  · rw [if_neg hc] at hmem ⊢
    have hs : (if sg T s = 116 then 1 else 0) + sm (fun j => (f j).length) (ft T s) (tkn T s) ≤ 4 := Nat.not_lt.mp (fun e => hs ⟨hc, e⟩)
    rcases (hV s s1).2 with hpl | hpl
    · unfold tkn tk at hs
      rcases hpl with h | h | h | h | h | h | h | h | h <;> simp [h, sm] at hs hmem ⊢ <;> omega
    · exact absurd hpl.1 hc
theorem msq_mem {T : Nat → Nat} {N q x : Nat} {f : Nat → List Nat} (hV : VT T N) (hq : q < fg T N) : x ∈ msq T N f q ↔ ∃ j, j < ft T N ∧ cg T N j = some q ∧ x ∈ f j := by
  unfold msq
  rw [List.mem_flatMap]
  constructor
  · rintro ⟨j, hj, hx⟩
    obtain ⟨a, b⟩ := (src_mem hV hq).mp hj
    exact ⟨j, a, b, hx⟩
  · rintro ⟨j, a, b, hx⟩
    exact ⟨j, (src_mem hV hq).mpr ⟨a, b⟩, hx⟩
theorem fm_nd {f : Nat → List Nat} : ∀ {l : List Nat}, l.Nodup → (∀ j, j ∈ l → (f j).Nodup) → (∀ j j' x, j ∈ l → j' ∈ l → x ∈ f j → x ∈ f j' → j = j') → (l.flatMap f).Nodup
  | [], _, _, _ => by simp
  | a :: l, h1, h2, h3 => by
    rw [List.flatMap_cons, List.nodup_append]
    rw [List.nodup_cons] at h1
    refine ⟨h2 a (by simp), fm_nd h1.2 (fun j hj => h2 j (by simp [hj])) (fun j j' x hj hj' => h3 j j' x (by simp [hj]) (by simp [hj'])), ?_⟩
    intro x hx y hy e
    subst e
    obtain ⟨j, hj, hxj⟩ := List.mem_flatMap.mp hy
    have := h3 a j x (by simp) (by simp [hj]) hx hxj
    subst this
    exact h1.1 hj
theorem msq_nd {T : Nat → Nat} {N q : Nat} {f : Nat → List Nat} (hV : VT T N) (hq : q < fg T N) (h2 : ∀ j, j < ft T N → (f j).Nodup) (h3 : ∀ j j' x, j < ft T N → j' < ft T N → x ∈ f j → x ∈ f j' → j = j') : (msq T N f q).Nodup := fm_nd (src_nd hV hq) (fun j hj => h2 j ((src_mem hV hq).mp hj).1) (fun j j' x hj hj' => h3 j j' x ((src_mem hV hq).mp hj).1 ((src_mem hV hq).mp hj').1)
/-- sums do not mind the order -/
theorem cnt_rev {p : Nat → Bool} {n : Nat} : ∀ {k : Nat}, k ≤ n → cnt (fun i => p (n - 1 - i)) k + cnt p (n - k) = cnt p n
  | 0, _ => by show 0 + cnt p n = cnt p n; omega
  | k + 1, h => by
    have h1 := cnt_rev (p := p) (n := n) (k := k) (by omega)
    show cnt (fun i => p (n - 1 - i)) k + (if p (n - 1 - k) = true then 1 else 0) + cnt p (n - (k + 1)) = cnt p n
    have e : n - k = (n - (k + 1)) + 1 := by omega
    rw [e] at h1
    have h2 : cnt p (n - (k + 1) + 1) = cnt p (n - (k + 1)) + (if p (n - (k + 1)) = true then 1 else 0) := rfl
    rw [h2] at h1
    rw [show n - 1 - k = n - (k + 1) by omega]
    omega
theorem mkc_all {T : Nat → Nat} {N r n : Nat} : mkc T N r n n = cnt (pK T N) n := by
  unfold mkc colo
  by_cases h : (r + 1) % 2 = 1
  · have e : (fun i => pK T N (if (r + 1) % 2 = 1 then n - 1 - i else i)) = fun i => pK T N (n - 1 - i) := by
      funext i; rw [if_pos h]
    rw [e]
    have := cnt_rev (p := pK T N) (n := n) (Nat.le_refl n)
    rw [Nat.sub_self] at this
    exact this
  · have e : (fun i => pK T N (if (r + 1) % 2 = 1 then n - 1 - i else i)) = pK T N := by
      funext i; rw [if_neg h]
    rw [e]
