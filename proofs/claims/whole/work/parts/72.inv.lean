/-! the next row keeps what holds of a cloth; where its loops are -/
theorem whr_out {f : Nat → List Nat} {x : Nat} : ∀ {n : Nat}, (∀ j, j < n → x ∉ f j) → whr f x n = none
  | 0, _ => rfl
  | n + 1, h => whr_no (whr_out (fun j hj => h j (by omega))) (h n (by omega))
theorem wvs_in {sel : Nat → Bool} {v : Nat → Int32} {f : Nat → List Nat} {b : Nat → Int32} {x j : Nat} (hx : x ∈ f j) : ∀ {n : Nat}, (∀ j', j' < n → x ∈ f j' → j' = j) → j < n → wvs sel v f b n x = if sel j = true then v j else b x
  | 0, _, h => absurd h (by omega)
  | n + 1, hu, h => by
    show (if sel n = true ∧ x ∈ f n then v n else wvs sel v f b n x) = _
    by_cases e : j = n
    · subst e
      have rest : ∀ m, m ≤ j → wvs sel v f b m x = b x := by
        intro m hm
        induction m with
        | zero => rfl
        | succ m ih =>
          show (if sel m = true ∧ x ∈ f m then v m else wvs sel v f b m x) = _
          rw [if_neg (fun u => by have := hu m (by omega) u.2; omega)]
          exact ih (by omega)
      rw [rest j (Nat.le_refl _)]
      by_cases s : sel j = true
      · rw [if_pos ⟨s, hx⟩, if_pos s]
      · rw [if_neg (fun u => s u.1), if_neg s]
    · rw [if_neg (fun u => e (hu n (by omega) u.2).symm)]
      exact wvs_in hx (fun j' hj' => hu j' (by omega)) (by omega)
theorem wvs_out {sel : Nat → Bool} {v : Nat → Int32} {f : Nat → List Nat} {b : Nat → Int32} {x : Nat} : ∀ {n : Nat}, (∀ j, j < n → x ∉ f j) → wvs sel v f b n x = b x
  | 0, _ => rfl
  | n + 1, h => by
    show (if sel n = true ∧ x ∈ f n then v n else wvs sel v f b n x) = _
    rw [if_neg (fun u => h n (by omega) u.2)]
    exact wvs_out (fun j hj => h j (by omega))
theorem dvs_in {sel : Nat → Bool} {f : Nat → List Nat} {v : Nat} {b : Nat → Nat} {x : Nat} : ∀ {n : Nat}, (∃ j, j < n ∧ sel j = true ∧ x ∈ f j) → dvs sel f v b n x = v
  | 0, ⟨j, h, _⟩ => absurd h (by omega)
  | n + 1, ⟨j, h, s, hx⟩ => by
    show (if sel n = true ∧ x ∈ f n then v else dvs sel f v b n x) = v
    by_cases e : sel n = true ∧ x ∈ f n
    · rw [if_pos e]
    · rw [if_neg e]
      have : j ≠ n := fun u => e (by rw [← u]; exact ⟨s, hx⟩)
      exact dvs_in ⟨j, by omega, s, hx⟩
theorem dvs_out {sel : Nat → Bool} {f : Nat → List Nat} {v : Nat} {b : Nat → Nat} {x : Nat} : ∀ {n : Nat}, (∀ j, j < n → sel j = true → x ∉ f j) → dvs sel f v b n x = b x
  | 0, _ => rfl
  | n + 1, h => by
    show (if sel n = true ∧ x ∈ f n then v else dvs sel f v b n x) = _
    rw [if_neg (fun u => h n (by omega) u.1 u.2)]
    exact dvs_out (fun j hj => h j (by omega))
theorem dvs_le {sel : Nat → Bool} {f : Nat → List Nat} {v : Nat} {b : Nat → Nat} {x : Nat} : ∀ {n : Nat}, (∃ j, j < n ∧ sel j = true ∧ x ∈ f j) ∨ dvs sel f v b n x = b x
  | 0 => Or.inr rfl
  | n + 1 => by
    by_cases e : sel n = true ∧ x ∈ f n
    · exact Or.inl ⟨n, by omega, e.1, e.2⟩
    · rcases dvs_le (sel := sel) (f := f) (v := v) (b := b) (x := x) (n := n) with ⟨j, h⟩ | h
      · exact Or.inl ⟨j, by omega, h.2⟩
      · exact Or.inr (by
          show (if sel n = true ∧ x ∈ f n then v else dvs sel f v b n x) = _
          rw [if_neg e]; exact h)
section
variable {T : Nat → Nat} {N r n lp : Nat} {h0 : Nat → List Nat} {b b' : Nat → Int32} {x : Nat}
theorem mkc_le {i j : Nat} (h : i ≤ j) : mkc T N r n i ≤ mkc T N r n j := mono_of (f := mkc T N r n) (fun i => Nat.le_add_right _ _) h
theorem mkc_s {i : Nat} (h : pK T N (colo r n i) = true) : mkc T N r n (i + 1) = mkc T N r n i + 1 := cnt_y (p := fun i => pK T N (colo r n i)) h
theorem mkc_inj {i j : Nat} (hi : pK T N (colo r n i) = true) (hj : pK T N (colo r n j) = true) (h : mkc T N r n i = mkc T N r n j) : i = j := by
  by_cases a : i < j
  · have h1 := mkc_le (T := T) (N := N) (r := r) (n := n) (show i + 1 ≤ j from a)
    rw [mkc_s hi] at h1; omega
  by_cases c : j < i
  · have h1 := mkc_le (T := T) (N := N) (r := r) (n := n) (show j + 1 ≤ i from c)
    rw [mkc_s hj] at h1; omega
  omega
theorem mkc_ex : ∀ {i : Nat} {y : Nat}, y < mkc T N r n i → ∃ j, j < i ∧ pK T N (colo r n j) = true ∧ mkc T N r n j = y
  | 0, y, h => absurd h (Nat.not_lt_zero y)
  | i + 1, y, h => by
    by_cases u : y < mkc T N r n i
    · obtain ⟨j, a, e⟩ := mkc_ex u
      exact ⟨j, by omega, e⟩
    · by_cases p : pK T N (colo r n i) = true
      · rw [mkc_s p] at h
        exact ⟨i, by omega, p, by omega⟩
      · have : mkc T N r n (i + 1) = mkc T N r n i := cnt_n (p := fun i => pK T N (colo r n i)) (by simpa using p)
        omega
/-- a loop that was there before -/
theorem wm_old (hx : x < lp) : ∀ {i : Nat}, wm T N r n lp h0 b i x = if ∃ j, j < i ∧ pK T N (colo r n j) = true ∧ sg T (idx (fg T) N (colo r n j)) ≠ 116 ∧ x ∈ h0 (colo r n j) then neg1 else b x := by
  intro i
  induction i with
  | zero => rw [if_neg (fun u => by obtain ⟨j, h, -⟩ := u; omega)]; rfl
  | succ i ih =>
    show (if pK T N (colo r n i) = true then (if sg T (idx (fg T) N (colo r n i)) ≠ 116 ∧ x ∈ h0 (colo r n i) then neg1 else if x = lp + mkc T N r n i then nI (colo r n i) else wm T N r n lp h0 b i x) else wm T N r n lp h0 b i x) = _
    by_cases p : pK T N (colo r n i) = true
    · rw [if_pos p]
      by_cases s : sg T (idx (fg T) N (colo r n i)) ≠ 116 ∧ x ∈ h0 (colo r n i)
      · rw [if_pos s, if_pos ⟨i, by omega, p, s⟩]
      · rw [if_neg s, if_neg (by omega), ih]
        by_cases q : ∃ j, j < i ∧ pK T N (colo r n j) = true ∧ sg T (idx (fg T) N (colo r n j)) ≠ 116 ∧ x ∈ h0 (colo r n j)
        · rw [if_pos q]
          obtain ⟨j, hj, e⟩ := q
          rw [if_pos ⟨j, by omega, e⟩]
        · rw [if_neg q, if_neg (fun u => ?_)]
          obtain ⟨j, hj, e⟩ := u
          by_cases ej : j = i
          · subst ej; exact s e.2
          · exact q ⟨j, by omega, e⟩
    · rw [if_neg p, ih]
      by_cases q : ∃ j, j < i ∧ pK T N (colo r n j) = true ∧ sg T (idx (fg T) N (colo r n j)) ≠ 116 ∧ x ∈ h0 (colo r n j)
      · rw [if_pos q]
        obtain ⟨j, hj, e⟩ := q
        rw [if_pos ⟨j, by omega, e⟩]
      · rw [if_neg q, if_neg (fun u => ?_)]
        obtain ⟨j, hj, e⟩ := u
        by_cases ej : j = i
        · subst ej; exact p e.1
        · exact q ⟨j, by omega, e⟩
/-- a loop that the row makes -/
theorem wm_new {j : Nat} (hp : pK T N (colo r n j) = true) (hh : ∀ c y, c < n → y ∈ h0 c → y < lp) : ∀ {i : Nat}, i ≤ n → j < i → wm T N r n lp h0 b i (lp + mkc T N r n j) = nI (colo r n j)
  | 0, _, h => absurd h (by omega)
  | i + 1, hi, h => by
    show (if pK T N (colo r n i) = true then (if sg T (idx (fg T) N (colo r n i)) ≠ 116 ∧ (lp + mkc T N r n j) ∈ h0 (colo r n i) then neg1 else if lp + mkc T N r n j = lp + mkc T N r n i then nI (colo r n i) else wm T N r n lp h0 b i (lp + mkc T N r n j)) else wm T N r n lp h0 b i (lp + mkc T N r n j)) = _
    by_cases e : j = i
    · subst e
      rw [if_pos hp, if_neg (fun u => by have := hh _ _ (colo_lt hi) u.2; omega), if_pos rfl]
    · have ih := wm_new hp hh (i := i) (by omega) (by omega)
      by_cases p : pK T N (colo r n i) = true
      · rw [if_pos p, if_neg (fun u => by have := hh _ _ (colo_lt hi) u.2; omega), if_neg (fun u => e (mkc_inj hp p (by omega)))]
        exact ih
      · rw [if_neg p]; exact ih
end
