/-- the run -/
def xrun : Nat → Nat → Nat → XL → List XV → XM → Option (XO × XM)
  | 0, _, _, _, _, _ => none
  | f + 1, y, pc, lv, st, M => xk (xrun f) y pc lv M (cd y pc lv st M)
theorem xk_mono {g g' : Nat → Nat → XL → List XV → XM → Option (XO × XM)} (hg : ∀ y pc lv st M r, g y pc lv st M = some r → g' y pc lv st M = some r) {y pc : Nat} {lv : XL} {M : XM} {x : Option XN} {r : XO × XM} (h : xk g y pc lv M x = some r) : xk g' y pc lv M x = some r := by
  rcases x with _ | (⟨pc', lv', st', M'⟩ | ⟨z, as, rest⟩ | ⟨o, M'⟩)
  · cases h
  · exact hg _ _ _ _ _ _ h
  · unfold xk at h ⊢
    dsimp only at h ⊢
    cases hz : g z 0 (xent (xml z) as) [] M with
    | none => rw [hz] at h; cases h
    | some q =>
      rw [hz] at h
      rw [hg _ _ _ _ _ _ hz]
      obtain ⟨o1, M1⟩ := q
      cases o1 with
      | inl rv => exact hg _ _ _ _ _ _ h
      | inr e =>
        dsimp only at h ⊢
        cases hh : xhl y pc e lv with
        | none => rw [hh] at h; cases h
        | some w =>
          obtain ⟨h1, k1⟩ := w
          rw [hh] at h
          exact hg _ _ _ _ _ _ h
  · exact h
theorem xrun_succ : ∀ (f y pc : Nat) (lv : XL) (st : List XV) (M : XM) (r : XO × XM), xrun f y pc lv st M = some r → xrun (f + 1) y pc lv st M = some r
  | 0, _, _, _, _, _, _, h => by cases h
  | f + 1, _, _, _, _, _, _, h => xk_mono (fun y pc lv st M r h => xrun_succ f y pc lv st M r h) h
theorem xrun_le {f g y pc : Nat} {lv : XL} {st : List XV} {M : XM} {r : XO × XM} (hfg : f ≤ g) (h : xrun f y pc lv st M = some r) : xrun g y pc lv st M = some r := by
  induction hfg with
  | refl => exact h
  | step _ ih => exact xrun_succ _ _ _ _ _ _ _ ih
def WP (y pc : Nat) (lv : XL) (st : List XV) (M : XM) (Q : XO → XM → Prop) : Prop := ∃ f o M', xrun f y pc lv st M = some (o, M') ∧ Q o M'
def WC (z : Nat) (as : List XV) (M : XM) (Q : XO → XM → Prop) : Prop := WP z 0 (xent (xml z) as) [] M Q
def WK (y pc : Nat) (lv : XL) (rest : List XV) (Q : XO → XM → Prop) : XO → XM → Prop := fun o M1 => match o with
  | .inl rv => WP y (pc + 3) lv (rv.toList ++ rest) M1 Q
  | .inr e => match xhl y pc e lv with
    | none => False
    | some (h, k) => WP y h k [] M1 Q
def WX (y pc : Nat) (lv : XL) (M : XM) (Q : XO → XM → Prop) (r : Option XN) : Prop := match r with
  | none => False
  | some (.inl (pc', lv', st', M')) => WP y pc' lv' st' M' Q
  | some (.inr (.inl (z, as, rest))) => WC z as M (WK y pc lv rest Q)
  | some (.inr (.inr (o, M'))) => Q o M'
theorem WP_force {y pc : Nat} {lv : XL} {st : List XV} {M : XM} {Q : XO → XM → Prop} : WP y pc lv st M Q = WX y pc lv M Q (cd y pc lv st M) := by
  apply propext
  constructor
  · rintro ⟨f, o, M', h, hQ⟩
    cases f with
    | zero => cases h
    | succ f =>
      have h : xk (xrun f) y pc lv M (cd y pc lv st M) = some (o, M') := h
      generalize cd y pc lv st M = x at h
      rcases x with _ | (⟨pc', lv', st', M1⟩ | ⟨z, as, rest⟩ | ⟨o1, M1⟩)
      · cases h
      · exact ⟨f, o, M', h, hQ⟩
      · unfold xk at h
        dsimp only at h
        cases hz : xrun f z 0 (xent (xml z) as) [] M with
        | none => rw [hz] at h; cases h
        | some q =>
          rw [hz] at h
          obtain ⟨o1, M1⟩ := q
          refine ⟨f, o1, M1, hz, ?_⟩
          cases o1 with
          | inl rv => exact ⟨f, o, M', h, hQ⟩
          | inr e =>
            dsimp only at h
            show (match xhl y pc e lv with | none => False | some (h, k) => WP y h k [] M1 Q)
            cases hh : xhl y pc e lv with
            | none => rw [hh] at h; cases h
            | some w =>
              obtain ⟨h1, k1⟩ := w
              rw [hh] at h
              exact ⟨f, o, M', h, hQ⟩
      · cases h
        exact hQ
  · intro h
    have key : ∀ x, WX y pc lv M Q x → ∃ f o M', xk (xrun f) y pc lv M x = some (o, M') ∧ Q o M' := by
      intro x hx
      rcases x with _ | (⟨pc', lv', st', M1⟩ | ⟨z, as, rest⟩ | ⟨o1, M1⟩)
      · cases hx
      · exact hx
      · obtain ⟨f1, o1, M1, hz, hk⟩ := hx
        cases o1 with
        | inl rv =>
          obtain ⟨f2, o, M', h2, hQ⟩ := hk
          refine ⟨max f1 f2, o, M', ?_, hQ⟩
          unfold xk
          dsimp only
          rw [xrun_le (Nat.le_max_left f1 f2) hz]
          exact xrun_le (Nat.le_max_right f1 f2) h2
        | inr e =>
          have hk : (match xhl y pc e lv with | none => False | some (h, k) => WP y h k [] M1 Q) := hk
          cases hh : xhl y pc e lv with
          | none => rw [hh] at hk; exact absurd hk id
          | some w =>
            obtain ⟨h1, k1⟩ := w
            rw [hh] at hk
            obtain ⟨f2, o, M', h2, hQ⟩ := hk
            refine ⟨max f1 f2, o, M', ?_, hQ⟩
            unfold xk
            dsimp only
            rw [xrun_le (Nat.le_max_left f1 f2) hz]
            dsimp only
            rw [hh]
            exact xrun_le (Nat.le_max_right f1 f2) h2
      · exact ⟨0, o1, M1, rfl, hx⟩
    obtain ⟨f, o, M', h1, hQ⟩ := key _ h
    exact ⟨f + 1, o, M', h1, hQ⟩
theorem WP_go {y pc : Nat} {lv : XL} {st : List XV} {M : XM} {Q : XO → XM → Prop} (_ : xhead y pc = false) : WP y pc lv st M Q = WX y pc lv M Q (cd y pc lv st M) := WP_force
theorem WX_next {y pc pc' : Nat} {lv lv' : XL} {st' : List XV} {M M' : XM} {Q : XO → XM → Prop} : WX y pc lv M Q (xnx pc' lv' st' M') = WP y pc' lv' st' M' Q := rfl
theorem WX_call {y pc z : Nat} {lv : XL} {as rest : List XV} {M : XM} {Q : XO → XM → Prop} : WX y pc lv M Q (some (.inr (.inl (z, as, rest)))) = WC z as M (WK y pc lv rest Q) := rfl
theorem WX_end {y pc : Nat} {lv : XL} {M M' : XM} {o : XO} {Q : XO → XM → Prop} : WX y pc lv M Q (some (.inr (.inr (o, M')))) = Q o M' := rfl
theorem WX_none {y pc : Nat} {lv : XL} {M : XM} {Q : XO → XM → Prop} : WX y pc lv M Q none = False := rfl
theorem WX_if {c : Prop} {d : Decidable c} {y pc : Nat} {lv : XL} {M : XM} {Q : XO → XM → Prop} {a b : Option XN} : WX y pc lv M Q (@ite _ c d a b) = ((c → WX y pc lv M Q a) ∧ (¬ c → WX y pc lv M Q b)) := by
  by_cases h : c <;> simp [h]
theorem WP_mono {y pc : Nat} {lv : XL} {st : List XV} {M : XM} {Q Q' : XO → XM → Prop} (h : WP y pc lv st M Q) (hq : ∀ o M', Q o M' → Q' o M') : WP y pc lv st M Q' := by
  obtain ⟨f, o, M', h1, h2⟩ := h
  exact ⟨f, o, M', h1, hq _ _ h2⟩
theorem WC_mono {z : Nat} {as : List XV} {M : XM} {Q Q' : XO → XM → Prop} (h : WC z as M Q) (hq : ∀ o M', Q o M' → Q' o M') : WC z as M Q' := WP_mono h hq
theorem WK_ret {y pc : Nat} {lv : XL} {rest : List XV} {rv : Option XV} {M1 : XM} {Q : XO → XM → Prop} : WK y pc lv rest Q (.inl rv) M1 = WP y (pc + 3) lv (rv.toList ++ rest) M1 Q := rfl
