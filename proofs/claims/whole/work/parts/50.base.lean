/-! tools for the small machine -/
theorem nb_ (a b : Nat) : Nat.beq a b = decide (a = b) := by
  cases h : Nat.beq a b with
  | true => rw [Nat.eq_of_beq_eq_true h]; simp
  | false => have : a ≠ b := fun e => by subst e; rw [Nat.beq_refl] at h; cases h
             simp [this]
theorem nble_ (a b : Nat) : Nat.ble a b = decide (a ≤ b) := by
  cases h : Nat.ble a b with
  | true => simp [Nat.le_of_ble_eq_true h]
  | false => have : ¬ a ≤ b := fun e => by rw [Nat.ble_eq_true_of_le e] at h; cases h
             simp [this]
theorem nbl_ (a b : Nat) : Nat.blt a b = decide (a < b) := nble_ (a + 1) b
theorem xz_cast0 : ((0 : Nat) : Int) = 0 := rfl
theorem xz_cast1 : ((1 : Nat) : Int) = 1 := rfl
theorem xz_cast {n : Nat} : ((no_index (OfNat.ofNat n : Nat)) : Int) = (OfNat.ofNat n : Int) := rfl
theorem WP_sw {y : Nat} {x k : Int32} {d t : Nat} {r : List (Int32 × Nat)} {lv : XL} {st : List XV} {M : XM} {Q : XO → XM → Prop} : WP y (xsw x d ((k, t) :: r)) lv st M Q = ((x = k → WP y t lv st M Q) ∧ (¬ x = k → WP y (xsw x d r) lv st M Q)) := by
  by_cases h : x = k <;> simp [xsw, h]
theorem WP_sw0 {y : Nat} {x : Int32} {d : Nat} {lv : XL} {st : List XV} {M : XM} {Q : XO → XM → Prop} : WP y (xsw x d []) lv st M Q = WP y d lv st M Q := rfl
theorem xin_nI {k n : Nat} (h : k < n) (hn : n < 2147483648) : xin (nI k) n = true := by
  unfold xin
  have h1 : ¬ nI k < 0 := nI_pos (by omega)
  have h2 : (nI k).toNatClampNeg = k := nI_clamp (by omega)
  rw [h2]
  simp only [h1, decide_false, Bool.not_false, Bool.true_and]
  exact Nat.ble_eq_true_of_le h
theorem q_lit (m : Nat) : (no_index (OfNat.ofNat m) : Int32) = nI m := Eq.trans rfl rfl
theorem q_ofN (m : Nat) : Int32.ofNat m = nI m := Eq.trans rfl rfl
theorem q_cl {a : Nat} (h : a < 2147483648) : (nI a).toNatClampNeg = a := nI_clamp h
theorem q_add (a b : Nat) : nI a + nI b = nI (a + b) := (Int32.ofNat_add a b).symm
theorem q_sub {a b : Nat} (h : b ≤ a) : nI a - nI b = nI (a - b) := pk_sub h
theorem q_m1' {a : Nat} (h : 1 ≤ a) : nI a + (-1) = nI (a - 1) := by
  obtain ⟨b, rfl⟩ : ∃ b, a = b + 1 := ⟨a - 1, by omega⟩
  exact pk_m1 b
theorem q_ltT {a b : Nat} (h : a < b) (hb : b < 2147483648) : (nI a < nI b) = True := eq_true (nI_lt h hb)
theorem q_ltF {a b : Nat} (h : b ≤ a) (hb : a < 2147483648) : (nI a < nI b) = False := eq_false (nI_nlt h hb)
theorem q_leT {a b : Nat} (h : a ≤ b) (hb : b < 2147483648) : (nI a ≤ nI b) = True := eq_true (nI_le h hb)
theorem q_leF {a b : Nat} (h : b < a) (hb : a < 2147483648) : (nI a ≤ nI b) = False := eq_false (nI_ge h hb)
theorem q_inj {a b : Nat} (ha : a < 2147483648) (hb : b < 2147483648) (h : nI a = nI b) : a = b := by
  have := congrArg Int32.toNatClampNeg h
  rwa [nI_clamp ha, nI_clamp hb] at this
theorem q_eqT {a b : Nat} (h : a = b) : (nI a = nI b) = True := eq_true (congrArg nI h)
theorem q_eqF {a b : Nat} (h : a ≠ b) (ha : a < 2147483648) (hb : b < 2147483648) : (nI a = nI b) = False := eq_false (fun e => h (q_inj ha hb e))
theorem q_lt {a b : Nat} (ha : a < 2147483648) (hb : b < 2147483648) : (nI a < nI b) = (a < b) := propext ⟨fun h => Nat.not_le.mp (fun e => nI_nlt e ha h), fun h => nI_lt h hb⟩
theorem q_le {a b : Nat} (ha : a < 2147483648) (hb : b < 2147483648) : (nI a ≤ nI b) = (a ≤ b) := propext ⟨fun h => Nat.not_lt.mp (fun e => nI_ge e ha h), fun h => nI_le h hb⟩
theorem q_eq {a b : Nat} (ha : a < 2147483648) (hb : b < 2147483648) : (nI a = nI b) = (a = b) := propext ⟨q_inj ha hb, congrArg nI⟩
def neg1 : Int32 := -1
def neg2 : Int32 := -2
theorem q_m1d : (-1 : Int32) = neg1 := Eq.trans rfl rfl
theorem q_m2d : (-2 : Int32) = neg2 := Eq.trans rfl rfl
theorem neg1_i : neg1.toInt = -1 := by decide
theorem neg2_i : neg2.toInt = -2 := by decide
theorem q_n1lt {a : Nat} (h : a < 2147483648) : (neg1 < nI a) = True := eq_true (by
  rw [Int32.lt_iff_toInt_lt, nI_toInt h, neg1_i]; omega)
theorem q_ltn1 {a : Nat} (h : a < 2147483648) : (nI a < neg1) = False := eq_false (by
  rw [Int32.lt_iff_toInt_lt, nI_toInt h, neg1_i]; omega)
theorem q_len1 {a : Nat} (h : a < 2147483648) : (nI a ≤ neg1) = False := eq_false (by
  rw [Int32.le_iff_toInt_le, nI_toInt h, neg1_i]; omega)
theorem q_n1le {a : Nat} (h : a < 2147483648) : (neg1 ≤ nI a) = True := eq_true (by
  rw [Int32.le_iff_toInt_le, nI_toInt h, neg1_i]; omega)
theorem q_eqn1 {a : Nat} (h : a < 2147483648) : (nI a = neg1) = False := eq_false (fun e => by
  have := congrArg Int32.toInt e
  rw [nI_toInt h, neg1_i] at this; omega)
theorem q_n1eq {a : Nat} (h : a < 2147483648) : (neg1 = nI a) = False := eq_false (fun e => by
  have := congrArg Int32.toInt e
  rw [nI_toInt h, neg1_i] at this; omega)
theorem q_m1 {a : Nat} (h : 1 ≤ a) : nI a + neg1 = nI (a - 1) := q_m1' h
theorem q_m10 : (neg1 < nI 0) = True := eq_true (by decide)
theorem q_m11 : (nI 0 ≤ neg1) = False := eq_false (by decide)
theorem q_div {a d : Nat} (ha : a < 2147483648) (h0 : 0 < d) (hd : d < 2147483648) : nI a / nI d = nI (a / d) := pk_div ha h0 hd
theorem q_rem {a d : Nat} (ha : a < 2147483648) (h0 : 0 < d) (hd : d < 2147483648) : nI a - nI a / nI d * nI d = nI (a % d) := pk_rem ha h0 hd
/-- an int is negative, or beyond n, or one of 0 .. n-1 -/
theorem q_ix (x : Int32) (n : Nat) (hn : n < 2147483648) : x < 0 ∨ nI n ≤ x ∨ ∃ j : Nat, j < n ∧ x = nI j := pk_ix x hn
theorem q_of {x : Int32} (h : ¬ x < 0) : ∃ j : Nat, j < 2147483648 ∧ x = nI j := by
  refine ⟨x.toNatClampNeg, ?_, ?_⟩
  · have h1 := x.toInt_lt
    have h2 : ¬ x.toInt < 0 := fun e => h (Int32.lt_iff_toInt_lt.mpr e)
    have : x.toNatClampNeg = x.toInt.toNat := rfl
    omega
  · apply Int32.toInt_inj.mp
    have h1 := x.toInt_lt
    have h2 : ¬ x.toInt < 0 := fun e => h (Int32.lt_iff_toInt_lt.mpr e)
    have h3 : x.toNatClampNeg = x.toInt.toNat := rfl
    rw [nI_toInt (by omega)]
    omega
theorem WC_in {z : Nat} {as : List XV} {M : XM} {Q : XO → XM → Prop} : WC z as M Q = WP z 0 (xent (xml z) as) [] M Q := rfl
theorem up3_t {α : Type} {f : Nat → Nat → Nat → α} {t n k t' n' k' : Nat} {v : α} (h : t' ≠ t) : up3 f t n k v t' n' k' = f t' n' k' := if_neg h
theorem up3_n {α : Type} {f : Nat → Nat → Nat → α} {t n k n' k' : Nat} {v : α} (h : n' ≠ n) : up3 f t n k v t n' k' = f t n' k' := by
  unfold up3; rw [if_pos rfl, if_neg h]
theorem up3_k {α : Type} {f : Nat → Nat → Nat → α} {t n k k' : Nat} {v : α} (h : k' ≠ k) : up3 f t n k v t n k' = f t n k' := by
  unfold up3; rw [if_pos rfl, if_pos rfl, if_neg h]
theorem up3_s {α : Type} {f : Nat → Nat → Nat → α} {t n k : Nat} {v : α} : up3 f t n k v t n k = v := by
  unfold up3; rw [if_pos rfl, if_pos rfl, if_pos rfl]
theorem up3_e {α : Type} {f : Nat → Nat → Nat → α} {t n k k' : Nat} {v : α} (h : k' = k) : up3 f t n k v t n k' = v := by
  subst h; exact up3_s
/-- a loop that counts j up to n -/
theorem lp_up {y h : Nat} {Q : XO → XM → Prop} (lv : Nat → XL) (I : Nat → XM → Prop) (n : Nat) (step : ∀ j M, j < n → I j M → (∀ M', I (j + 1) M' → WP y h (lv (j + 1)) [] M' Q) → WP y h (lv j) [] M Q) (fin : ∀ M, I n M → WP y h (lv n) [] M Q) : ∀ j M, j ≤ n → I j M → WP y h (lv j) [] M Q := by
  intro j
  have key : ∀ d j M, j + d = n → I j M → WP y h (lv j) [] M Q := by
    intro d
    induction d with
    | zero => intro j M hj hI; have : j = n := by omega
              subst this; exact fin M hI
    | succ d ih => intro j M hj hI; exact step j M (by omega) hI (fun M' h' => ih (j + 1) M' (by omega) h')
  intro M hj hI
  exact key (n - j) j M (by omega) hI
/-- what lies outside P stays -/
def FrP (P : Nat → Nat → Prop) (σ σ' : Nat → Nat → Nat → Int32) : Prop := ∀ t n k, ¬ P t n → σ' t n k = σ t n k
theorem FrP.rf {P : Nat → Nat → Prop} {σ : Nat → Nat → Nat → Int32} : FrP P σ σ := fun _ _ _ _ => rfl
theorem FrP.tr {P : Nat → Nat → Prop} {σ σ' σ'' : Nat → Nat → Nat → Int32} (h : FrP P σ σ') (h' : FrP P σ' σ'') : FrP P σ σ'' := fun t n k q => (h' t n k q).trans (h t n k q)
theorem FrP.up {P : Nat → Nat → Prop} {σ σ' : Nat → Nat → Nat → Int32} (h : FrP P σ σ') {t n k : Nat} {v : Int32} (q : P t n) : FrP P σ (up3 σ' t n k v) := by
  intro t' n' k' hn
  rw [← h t' n' k' hn]
  by_cases a : t' = t
  · subst a
    by_cases b : n' = n
    · subst b; exact absurd q hn
    · exact up3_n b
  · exact up3_t a
theorem FrP.mono {P P' : Nat → Nat → Prop} {σ σ' : Nat → Nat → Nat → Int32} (h : FrP P σ σ') (hp : ∀ t n, P t n → P' t n) : FrP P' σ σ' := fun t n k q => h t n k (fun e => q (hp t n e))
theorem WP_swT {y : Nat} {x k : Int32} {d t : Nat} {r : List (Int32 × Nat)} {lv : XL} {st : List XV} {M : XM} {Q : XO → XM → Prop} (h : x = k) : WP y (xsw x d ((k, t) :: r)) lv st M Q = WP y t lv st M Q := by
  simp [xsw, h]
theorem WP_swF {y : Nat} {x k : Int32} {d t : Nat} {r : List (Int32 × Nat)} {lv : XL} {st : List XV} {M : XM} {Q : XO → XM → Prop} (h : ¬ x = k) : WP y (xsw x d ((k, t) :: r)) lv st M Q = WP y (xsw x d r) lv st M Q := by
  simp [xsw, h]
theorem WX_ifT {c : Prop} {d : Decidable c} {y pc : Nat} {lv : XL} {M : XM} {Q : XO → XM → Prop} {a b : Option XN} (h : c) : WX y pc lv M Q (@ite _ c d a b) = WX y pc lv M Q a := by
  rw [if_pos h]
theorem WX_ifF {c : Prop} {d : Decidable c} {y pc : Nat} {lv : XL} {M : XM} {Q : XO → XM → Prop} {a b : Option XN} (h : ¬ c) : WX y pc lv M Q (@ite _ c d a b) = WX y pc lv M Q b := by
  rw [if_neg h]
theorem WK_thr {y pc e h : Nat} {lv k : XL} {rest : List XV} {M1 : XM} {Q : XO → XM → Prop} (hh : xhl y pc e lv = some (h, k)) : WK y pc lv rest Q (.inr e) M1 = WP y h k [] M1 Q := by
  show (match xhl y pc e lv with | none => False | some (h, k) => WP y h k [] M1 Q) = _
  rw [hh]
theorem WK_thr0 {y pc e : Nat} {lv : XL} {rest : List XV} {M1 : XM} {Q : XO → XM → Prop} : WK y pc lv rest Q (.inr e) M1 = (match xhl y pc e lv with | none => False | some (h, k) => WP y h k [] M1 Q) := rfl
/-- a reference place that is neither below 0 nor at n or beyond -/
theorem q_ix' (x : Int32) (n : Nat) (hn : n < 2147483648) : x < nI 0 ∨ (¬ x < nI 0 ∧ nI n ≤ x ∧ ¬ x < nI n) ∨ ∃ j : Nat, j < n ∧ x = nI j := by
  rcases pk_ix x hn with h | h | h
  · exact Or.inl h
  · exact Or.inr (Or.inl ⟨fun e => by
      have h1 := Int32.lt_iff_toInt_lt.mp e
      have h2 := Int32.le_iff_toInt_le.mp h
      rw [nI_toInt (by omega)] at h1 h2
      omega, h, fun e => by
      have h1 := Int32.lt_iff_toInt_lt.mp e
      have h2 := Int32.le_iff_toInt_le.mp h
      omega⟩)
  · exact Or.inr (Or.inr h)
theorem q_leN {x y : Int32} : (x ≤ y) = ¬ (y < x) := propext Int32.not_lt.symm
theorem WX_ifN {c : Prop} {d : Decidable (¬ c)} {y pc : Nat} {lv : XL} {M : XM} {Q : XO → XM → Prop} {a b : Option XN} (h : c) : WX y pc lv M Q (@ite _ (¬ c) d a b) = WX y pc lv M Q b := by
  rw [if_neg (fun e => e h)]
theorem q_gt {x : Int32} {n : Nat} (h : ¬ x < nI (n + 1)) (hn : n + 1 < 2147483648) : nI n < x := by
  have h1 : nI (n + 1) ≤ x := Int32.not_lt.mp h
  have h1 := Int32.le_iff_toInt_le.mp h1
  rw [nI_toInt (by omega)] at h1
  rw [Int32.lt_iff_toInt_lt, nI_toInt (by omega)]
  omega
/-- the same, where the locals are not known by the count alone -/
theorem lp_upL {y h : Nat} {Q : XO → XM → Prop} (I : Nat → XL → XM → Prop) (n : Nat) (step : ∀ j lv M, j < n → I j lv M → (∀ lv' M', I (j + 1) lv' M' → WP y h lv' [] M' Q) → WP y h lv [] M Q) (fin : ∀ lv M, I n lv M → WP y h lv [] M Q) : ∀ j lv M, j ≤ n → I j lv M → WP y h lv [] M Q := by
  have key : ∀ d j lv M, j + d = n → I j lv M → WP y h lv [] M Q := by
    intro d
    induction d with
    | zero => intro j lv M hj hI; have : j = n := by omega
              subst this; exact fin lv M hI
    | succ d ih => intro j lv M hj hI; exact step j lv M (by omega) hI (fun lv' M' h' => ih (j + 1) lv' M' (by omega) h')
  intro j lv M hj hI
  exact key (n - j) j lv M (by omega) hI
