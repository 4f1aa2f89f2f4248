theorem xz15 : XZ 15 := ⟨by decide +kernel, m613, by decide +kernel, by decide +kernel, rfl⟩
theorem xz16 : XZ 16 := ⟨by decide +kernel, m641, by decide +kernel, by decide +kernel, rfl⟩
theorem xz17 : XZ 17 := ⟨by decide +kernel, m337, by decide +kernel, by decide +kernel, rfl⟩
theorem xz18 : XZ 18 := ⟨by decide +kernel, m297, by decide +kernel, by decide +kernel, rfl⟩
theorem xz19 : XZ 19 := ⟨by decide +kernel, m522, by decide +kernel, by decide +kernel, rfl⟩
theorem xz20 : XZ 20 := ⟨by decide +kernel, m454, by decide +kernel, by decide +kernel, rfl⟩
theorem xz21 : XZ 21 := ⟨by decide +kernel, m519, by decide +kernel, by decide +kernel, rfl⟩
theorem xz22 : XZ 22 := ⟨by decide +kernel, m526, by decide +kernel, by decide +kernel, rfl⟩
theorem xz23 : XZ 23 := ⟨by decide +kernel, m570, by decide +kernel, by decide +kernel, rfl⟩
theorem xz24 : XZ 24 := ⟨by decide +kernel, m574, by decide +kernel, by decide +kernel, rfl⟩
theorem xz25 : XZ 25 := ⟨by decide +kernel, m578, by decide +kernel, by decide +kernel, rfl⟩
theorem xz26 : XZ 26 := ⟨by decide +kernel, m594, by decide +kernel, by decide +kernel, rfl⟩
theorem xz27 : XZ 27 := ⟨by decide +kernel, m601, by decide +kernel, by decide +kernel, rfl⟩
theorem xz28 : XZ 28 := ⟨by decide +kernel, m29, by decide +kernel, by decide +kernel, rfl⟩
theorem xz29 : XZ 29 := ⟨by decide +kernel, m458, by decide +kernel, by decide +kernel, rfl⟩
theorem xz30 : XZ 30 := ⟨by decide +kernel, m468, by decide +kernel, by decide +kernel, rfl⟩
theorem xz31 : XZ 31 := ⟨by decide +kernel, m472, by decide +kernel, by decide +kernel, rfl⟩
theorem xz32 : XZ 32 := ⟨by decide +kernel, m507, by decide +kernel, by decide +kernel, rfl⟩
theorem xz33 : XZ 33 := ⟨by decide +kernel, m188, by decide +kernel, by decide +kernel, rfl⟩
theorem xz34 : XZ 34 := ⟨by decide +kernel, m583, by decide +kernel, by decide +kernel, rfl⟩
theorem xz35 : XZ 35 := ⟨by decide +kernel, m587, by decide +kernel, by decide +kernel, rfl⟩
theorem xz36 : XZ 36 := ⟨by decide +kernel, m660, by decide +kernel, by decide +kernel, rfl⟩
theorem xz37 : XZ 37 := ⟨by decide +kernel, m590, by decide +kernel, by decide +kernel, rfl⟩
theorem xz38 : XZ 38 := ⟨by decide +kernel, m666, by decide +kernel, by decide +kernel, rfl⟩
theorem xz39 : XZ 39 := ⟨by decide +kernel, m157, by decide +kernel, by decide +kernel, rfl⟩
theorem xz40 : XZ 40 := ⟨by decide +kernel, m421, by decide +kernel, by decide +kernel, rfl⟩
theorem xz41 : XZ 41 := ⟨by decide +kernel, m139, by decide +kernel, by decide +kernel, rfl⟩
theorem xz42 : XZ 42 := ⟨by decide +kernel, m530, by decide +kernel, by decide +kernel, rfl⟩
theorem xz43 : XZ 43 := ⟨by decide +kernel, m538, by decide +kernel, by decide +kernel, rfl⟩
theorem xz44 : XZ 44 := ⟨by decide +kernel, m550, by decide +kernel, by decide +kernel, rfl⟩
theorem xz45 : XZ 45 := ⟨by decide +kernel, m554, by decide +kernel, by decide +kernel, rfl⟩
theorem xz46 : XZ 46 := ⟨by decide +kernel, m566, by decide +kernel, by decide +kernel, rfl⟩
theorem xz47 : XZ 47 := ⟨by decide +kernel, m542, by decide +kernel, by decide +kernel, rfl⟩
theorem xz48 : XZ 48 := ⟨by decide +kernel, m546, by decide +kernel, by decide +kernel, rfl⟩
theorem xz49 : XZ 49 := ⟨by decide +kernel, m106, by decide +kernel, by decide +kernel, rfl⟩
theorem xz50 : XZ 50 := ⟨by decide +kernel, m488, by decide +kernel, by decide +kernel, rfl⟩
theorem xz51 : XZ 51 := ⟨by decide +kernel, m512, by decide +kernel, by decide +kernel, rfl⟩
theorem xz52 : XZ 52 := ⟨by decide +kernel, m534, by decide +kernel, by decide +kernel, rfl⟩
theorem xz53 : XZ 53 := ⟨by decide +kernel, m208, by decide +kernel, by decide +kernel, rfl⟩
theorem xz54 : XZ 54 := ⟨by decide +kernel, m417, by decide +kernel, by decide +kernel, rfl⟩
theorem xz55 : XZ 55 := ⟨by decide +kernel, m326, by decide +kernel, by decide +kernel, rfl⟩
theorem xz56 : XZ 56 := ⟨by decide +kernel, m314, by decide +kernel, by decide +kernel, rfl⟩
theorem xz57 : XZ 57 := ⟨by decide +kernel, m425, by decide +kernel, by decide +kernel, rfl⟩
theorem xz58 : XZ 58 := ⟨by decide +kernel, m36, by decide +kernel, by decide +kernel, rfl⟩
theorem xz59 : XZ 59 := ⟨by decide +kernel, m461, by decide +kernel, by decide +kernel, rfl⟩
theorem xz60 : XZ 60 := ⟨by decide +kernel, m464, by decide +kernel, by decide +kernel, rfl⟩
theorem xz61 : XZ 61 := ⟨by decide +kernel, m497, by decide +kernel, by decide +kernel, rfl⟩
theorem xz62 : XZ 62 := ⟨by decide +kernel, m476, by decide +kernel, by decide +kernel, rfl⟩
theorem xz63 : XZ 63 := ⟨by decide +kernel, m480, by decide +kernel, by decide +kernel, rfl⟩
theorem xz64 : XZ 64 := ⟨by decide +kernel, m484, by decide +kernel, by decide +kernel, rfl⟩
theorem xz65 : XZ 65 := ⟨by decide +kernel, m562, by decide +kernel, by decide +kernel, rfl⟩
theorem xz66 : XZ 66 := ⟨by decide +kernel, m493, by decide +kernel, by decide +kernel, rfl⟩
theorem xz67 : XZ 67 := ⟨by decide +kernel, m502, by decide +kernel, by decide +kernel, rfl⟩
theorem xz68 : XZ 68 := ⟨by decide +kernel, m558, by decide +kernel, by decide +kernel, rfl⟩
theorem xz73 : XZ 73 := ⟨by decide +kernel, m803, by decide +kernel, by decide +kernel, rfl⟩
theorem xz74 : XZ 74 := ⟨by decide +kernel, m806, by decide +kernel, by decide +kernel, rfl⟩
theorem xz75 : XZ 75 := ⟨by decide +kernel, m800, by decide +kernel, by decide +kernel, rfl⟩
theorem xz76 : XZ 76 := ⟨by decide +kernel, m814, by decide +kernel, by decide +kernel, rfl⟩
theorem xz77 : XZ 77 := ⟨by decide +kernel, m818, by decide +kernel, by decide +kernel, rfl⟩
theorem xz78 : XZ 78 := ⟨by decide +kernel, m810, by decide +kernel, by decide +kernel, rfl⟩
theorem xz79 : XZ 79 := ⟨by decide +kernel, m826, by decide +kernel, by decide +kernel, rfl⟩
theorem xz80 : XZ 80 := ⟨by decide +kernel, m822, by decide +kernel, by decide +kernel, rfl⟩
theorem xz81 : XZ 81 := ⟨by decide +kernel, m838, by decide +kernel, by decide +kernel, rfl⟩
theorem xz82 : XZ 82 := ⟨by decide +kernel, m842, by decide +kernel, by decide +kernel, rfl⟩
theorem xz83 : XZ 83 := ⟨by decide +kernel, m846, by decide +kernel, by decide +kernel, rfl⟩
theorem xz84 : XZ 84 := ⟨by decide +kernel, m834, by decide +kernel, by decide +kernel, rfl⟩
theorem xz85 : XZ 85 := ⟨by decide +kernel, m830, by decide +kernel, by decide +kernel, rfl⟩
theorem xz86 : XZ 86 := ⟨by decide +kernel, m850, by decide +kernel, by decide +kernel, rfl⟩
theorem xz87 : XZ 87 := ⟨by decide +kernel, m854, by decide +kernel, by decide +kernel, rfl⟩
theorem xz88 : XZ 88 := ⟨by decide +kernel, m858, by decide +kernel, by decide +kernel, rfl⟩
theorem xz89 : XZ 89 := ⟨by decide +kernel, m866, by decide +kernel, by decide +kernel, rfl⟩
theorem xz90 : XZ 90 := ⟨by decide +kernel, m870, by decide +kernel, by decide +kernel, rfl⟩
theorem xz91 : XZ 91 := ⟨by decide +kernel, m874, by decide +kernel, by decide +kernel, rfl⟩
theorem xz92 : XZ 92 := ⟨by decide +kernel, m878, by decide +kernel, by decide +kernel, rfl⟩
theorem xz93 : XZ 93 := ⟨by decide +kernel, m882, by decide +kernel, by decide +kernel, rfl⟩
theorem xz94 : XZ 94 := ⟨by decide +kernel, m862, by decide +kernel, by decide +kernel, rfl⟩
theorem xz100 : XZ 100 := ⟨by decide +kernel, m906, by decide +kernel, by decide +kernel, rfl⟩
theorem xz101 : XZ 101 := ⟨by decide +kernel, m918, by decide +kernel, by decide +kernel, rfl⟩
theorem xz102 : XZ 102 := ⟨by decide +kernel, m910, by decide +kernel, by decide +kernel, rfl⟩
theorem xz105 : XZ 105 := ⟨by decide +kernel, m926, by decide +kernel, by decide +kernel, rfl⟩
theorem xoc1 : xoc 73 (xex 1) = true := by decide +kernel
theorem xoc2 : xoc 108 (xex 2) = true := by decide +kernel
theorem xoc3 : xoc 143 (xex 3) = true := by decide +kernel
def swr (pc : Nat) : List (Int × Int) → List (Int32 × Nat) → Bool
  | [], [] => true
  | (a, o) :: r, (k, t) :: s => decide (k.toInt = a) && decide ((pc : Int) + o = (t : Int)) && swr pc r s
  | _, _ => false
theorem xsw_aux {pc d : Nat} {dflt : Int} (hd : (pc : Int) + dflt = (d : Int)) (x : Int32) : ∀ (ps : List (Int × Int)) (qs : List (Int32 × Nat)), swr pc ps qs = true → (pc : Int) + Op.lookupswitch.offset ps dflt x.toInt = ((xsw x d qs : Nat) : Int)
  | [], [], _ => by simpa [xsw, Op.lookupswitch.offset] using hd
  | (a, o) :: r, (k, t) :: s, h => by
    simp only [swr, Bool.and_eq_true, decide_eq_true_eq] at h
    by_cases hx : x = k
    · subst hx
      rw [Op.lookupswitch.offset_cons, if_pos (by rw [h.1.1])]
      simp [xsw, h.1.2]
    · rw [lv_osw hx h.1.1, xsw_aux hd x r s h.2]
      simp [xsw, hx]
  | [], _ :: _, h => by cases h
  | _ :: _, [], h => by cases h
theorem xsw_ok {pc d : Nat} {dflt : Int} {ps : Array (Int × Int)} {qs : List (Int32 × Nat)} (h : (decide ((pc : Int) + dflt = (d : Int)) && swr pc ps.toList qs) = true) : ∀ x : Int32, (pc : Int) + Op.lookupswitch.offset ps.toList dflt x.toInt = ((xsw x d qs : Nat) : Int) := by
  simp only [Bool.and_eq_true, decide_eq_true_eq] at h
  exact fun x => xsw_aux h.1 x _ _ h.2
theorem sw_7_11 : ∀ x : Int32, (x.toInt < 0 ∨ 3 < x.toInt → ((11 : Nat) : Int) + 49 = ((xsw x 60 [(0, 40), (1, 45), (2, 50), (3, 55)] : Nat) : Int)) ∧ (¬ (x.toInt < 0 ∨ 3 < x.toInt) → ∃ off, (#[29, 34, 39, 44] : Array Int)[(x.toInt - 0).toNat]? = some off ∧ ((11 : Nat) : Int) + off = ((xsw x 60 [(0, 40), (1, 45), (2, 50), (3, 55)] : Nat) : Int)) := by
  intro x
  refine ⟨fun h => ?_, fun h => ?_⟩
  · have h0 : ¬ x = 0 := fun q => by subst q; revert h; decide
    have h1 : ¬ x = 1 := fun q => by subst q; revert h; decide
    have h2 : ¬ x = 2 := fun q => by subst q; revert h; decide
    have h3 : ¬ x = 3 := fun q => by subst q; revert h; decide
    simp [xsw, h0, h1, h2, h3]
  · rcases (show x.toInt = 0 ∨ x.toInt = 1 ∨ x.toInt = 2 ∨ x.toInt = 3 by omega) with h | h | h | h
    · have e : x = 0 := Int32.toInt_inj.mp (by rw [h]; decide)
      subst e
      exact ⟨_, rfl, by decide⟩
    · have e : x = 1 := Int32.toInt_inj.mp (by rw [h]; decide)
      subst e
      exact ⟨_, rfl, by decide⟩
    · have e : x = 2 := Int32.toInt_inj.mp (by rw [h]; decide)
      subst e
      exact ⟨_, rfl, by decide⟩
    · have e : x = 3 := Int32.toInt_inj.mp (by rw [h]; decide)
      subst e
      exact ⟨_, rfl, by decide⟩
theorem sw_8_26 : ∀ x : Int32, (x.toInt < 0 ∨ 4 < x.toInt → ((26 : Nat) : Int) + 59 = ((xsw x 85 [(0, 60), (1, 65), (2, 70), (3, 75), (4, 80)] : Nat) : Int)) ∧ (¬ (x.toInt < 0 ∨ 4 < x.toInt) → ∃ off, (#[34, 39, 44, 49, 54] : Array Int)[(x.toInt - 0).toNat]? = some off ∧ ((26 : Nat) : Int) + off = ((xsw x 85 [(0, 60), (1, 65), (2, 70), (3, 75), (4, 80)] : Nat) : Int)) := by
  intro x
  refine ⟨fun h => ?_, fun h => ?_⟩
  · have h0 : ¬ x = 0 := fun q => by subst q; revert h; decide
    have h1 : ¬ x = 1 := fun q => by subst q; revert h; decide
    have h2 : ¬ x = 2 := fun q => by subst q; revert h; decide
    have h3 : ¬ x = 3 := fun q => by subst q; revert h; decide
    have h4 : ¬ x = 4 := fun q => by subst q; revert h; decide
    simp [xsw, h0, h1, h2, h3, h4]
  · rcases (show x.toInt = 0 ∨ x.toInt = 1 ∨ x.toInt = 2 ∨ x.toInt = 3 ∨ x.toInt = 4 by omega) with h | h | h | h | h
    · have e : x = 0 := Int32.toInt_inj.mp (by rw [h]; decide)
      subst e
      exact ⟨_, rfl, by decide⟩
    · have e : x = 1 := Int32.toInt_inj.mp (by rw [h]; decide)
      subst e
      exact ⟨_, rfl, by decide⟩
    · have e : x = 2 := Int32.toInt_inj.mp (by rw [h]; decide)
      subst e
      exact ⟨_, rfl, by decide⟩
    · have e : x = 3 := Int32.toInt_inj.mp (by rw [h]; decide)
      subst e
      exact ⟨_, rfl, by decide⟩
    · have e : x = 4 := Int32.toInt_inj.mp (by rw [h]; decide)
      subst e
      exact ⟨_, rfl, by decide⟩
theorem sw_10_19 : ∀ x : Int32, (x.toInt < 0 ∨ 4 < x.toInt → ((19 : Nat) : Int) + 83 = ((xsw x 102 [(0, 52), (1, 62), (2, 72), (3, 82), (4, 92)] : Nat) : Int)) ∧ (¬ (x.toInt < 0 ∨ 4 < x.toInt) → ∃ off, (#[33, 43, 53, 63, 73] : Array Int)[(x.toInt - 0).toNat]? = some off ∧ ((19 : Nat) : Int) + off = ((xsw x 102 [(0, 52), (1, 62), (2, 72), (3, 82), (4, 92)] : Nat) : Int)) := by
  intro x
  refine ⟨fun h => ?_, fun h => ?_⟩
  · have h0 : ¬ x = 0 := fun q => by subst q; revert h; decide
    have h1 : ¬ x = 1 := fun q => by subst q; revert h; decide
    have h2 : ¬ x = 2 := fun q => by subst q; revert h; decide
    have h3 : ¬ x = 3 := fun q => by subst q; revert h; decide
    have h4 : ¬ x = 4 := fun q => by subst q; revert h; decide
    simp [xsw, h0, h1, h2, h3, h4]
  · rcases (show x.toInt = 0 ∨ x.toInt = 1 ∨ x.toInt = 2 ∨ x.toInt = 3 ∨ x.toInt = 4 by omega) with h | h | h | h | h
    · have e : x = 0 := Int32.toInt_inj.mp (by rw [h]; decide)
      subst e
      exact ⟨_, rfl, by decide⟩
    · have e : x = 1 := Int32.toInt_inj.mp (by rw [h]; decide)
      subst e
      exact ⟨_, rfl, by decide⟩
    · have e : x = 2 := Int32.toInt_inj.mp (by rw [h]; decide)
      subst e
      exact ⟨_, rfl, by decide⟩
    · have e : x = 3 := Int32.toInt_inj.mp (by rw [h]; decide)
      subst e
      exact ⟨_, rfl, by decide⟩
    · have e : x = 4 := Int32.toInt_inj.mp (by rw [h]; decide)
      subst e
      exact ⟨_, rfl, by decide⟩
