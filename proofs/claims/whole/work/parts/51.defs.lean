/-! the cloth, apart from any memory -/
def tk (c l r : Nat) : Nat := if c = 60 ∨ c = 62 then l + r else if c = 111 then 0 else if c = 108 ∨ c = 114 then 2 else if c = 99 then 3 else 1
def gv (c l r : Nat) : Nat := if c = 60 ∨ c = 62 then l + r else if c = 120 then 0 else 1
/-- where the i-th stitch of a text stands -/
def pos (T : Nat → Nat) : Nat → Nat
  | 0 => 0
  | i + 1 => pos T i + (if T (pos T i) = 60 ∨ T (pos T i) = 62 then 3 else 1)
def sg (T : Nat → Nat) (i : Nat) : Nat := T (pos T i)
def sl (T : Nat → Nat) (i : Nat) : Nat := T (pos T i + 1) - 48
def sr (T : Nat → Nat) (i : Nat) : Nat := T (pos T i + 2) - 48
def tkn (T : Nat → Nat) (i : Nat) : Nat := tk (sg T i) (sl T i) (sr T i)
def gvn (T : Nat → Nat) (i : Nat) : Nat := gv (sg T i) (sl T i) (sr T i)
def ft (T : Nat → Nat) : Nat → Nat
  | 0 => 0
  | i + 1 => ft T i + tkn T i
def fg (T : Nat → Nat) : Nat → Nat
  | 0 => 0
  | i + 1 => fg T i + gvn T i
/-- loops made by the first i stitches -/
def md (T : Nat → Nat) : Nat → Nat
  | 0 => 0
  | i + 1 => md T i + (if sg T i = 109 ∨ sg T i = 120 then 0 else gvn T i)
/-- crossings among the first i stitches -/
def cbn (T : Nat → Nat) : Nat → Nat
  | 0 => 0
  | i + 1 => cbn T i + (if sg T i = 60 ∨ sg T i = 62 then 1 else 0)
abbrev pl (c : Nat) : Prop := c = 107 ∨ c = 112 ∨ c = 111 ∨ c = 108 ∨ c = 114 ∨ c = 99 ∨ c = 116 ∨ c = 109 ∨ c = 120
/-- a place where no figure stands -/
abbrev nf (T : Nat → Nat) (n p : Nat) : Prop := n ≤ p ∨ T p < 49 ∨ 52 < T p
/-- reading: the number of stitches, and the place of the first wrong character -/
def rdr (T : Nat → Nat) (n : Nat) : Nat → Nat → Nat → Nat × Option Nat
  | 0, _, i => (i, none)
  | f + 1, p, i => if n ≤ p then (i, none) else (if pl (T p) then rdr T n f (p + 1) (i + 1) else if T p = 60 ∨ T p = 62 then (if nf T n (p + 1) then (i, some (p + 1)) else if nf T n (p + 2) then (i, some (p + 2)) else rdr T n f (p + 3) (i + 1)) else (i, some p))
def ST : Type := Nat × (Nat → Nat) × Nat × Int32 × (Nat → Nat) × (Nat → Nat → List Nat) × (Nat → Nat → Nat) × (Nat → Nat → Int32) × (Nat → Nat) × (Nat → Nat) × (Nat → Nat → Nat) × (Nat → Nat → Nat) × (Nat → Nat) × (Nat → Nat → Nat) × (Nat → List Nat) × (Nat → Nat)
def ST.r (S : ST) : Nat := S.1
def ST.T (S : ST) : Nat → Nat := S.2.1
def ST.n (S : ST) : Nat := S.2.2.1
def ST.told (S : ST) : Int32 := S.2.2.2.1
def ST.cN (S : ST) : Nat → Nat := S.2.2.2.2.1
def ST.st (S : ST) : Nat → Nat → List Nat := S.2.2.2.2.2.1
def ST.bd (S : ST) : Nat → Nat → Nat := S.2.2.2.2.2.2.1
def ST.sd (S : ST) : Nat → Nat → Int32 := S.2.2.2.2.2.2.2.1
def ST.lp (S : ST) : Nat → Nat := S.2.2.2.2.2.2.2.2.1
def ST.dr (S : ST) : Nat → Nat := S.2.2.2.2.2.2.2.2.2.1
def ST.pg (S : ST) : Nat → Nat → Nat := S.2.2.2.2.2.2.2.2.2.2.1
def ST.tx (S : ST) : Nat → Nat → Nat := S.2.2.2.2.2.2.2.2.2.2.2.1
def ST.ln (S : ST) : Nat → Nat := S.2.2.2.2.2.2.2.2.2.2.2.2.1
def ST.lo (S : ST) : Nat → Nat → Nat := S.2.2.2.2.2.2.2.2.2.2.2.2.2.1
def ST.pa (S : ST) : Nat → List Nat := S.2.2.2.2.2.2.2.2.2.2.2.2.2.2.1
def ST.di (S : ST) : Nat → Nat := S.2.2.2.2.2.2.2.2.2.2.2.2.2.2.2
/-- the stitches of row i's text -/
def ST.N (S : ST) (i : Nat) : Nat := (rdr (S.tx i) (S.ln i) (S.ln i) 0 0).1
/-- crossings of all rows up to i -/
def ST.xr (S : ST) : Nat → Nat
  | 0 => 0
  | i + 1 => S.xr i + cbn (S.tx (i + 1)) (S.N (i + 1))
/-- the loops of columns from .. from + n - 1 of a row -/
def cat (f : Nat → List Nat) (a : Nat) : Nat → List Nat
  | 0 => []
  | n + 1 => cat f a n ++ f (a + n)
/-- a crossing's pairs -/
def prs (A B : List Nat) (front : Nat) : List Nat := A.flatMap (fun x => B.map (fun y => 1024 * x + 2 * y + front))
/-- the pairs of the first i stitches of a text over a row -/
def xps (T : Nat → Nat) (f : Nat → List Nat) : Nat → List Nat
  | 0 => []
  | i + 1 => xps T f i ++ (if sg T i = 60 ∨ sg T i = 62 then prs (cat f (ft T i) (sl T i)) (cat f (ft T i + sl T i) (sr T i)) (if sg T i = 60 then 1 else 0) else [])
/-- where a loop is -/
def whr (f : Nat → List Nat) (x : Nat) : Nat → Option Nat
  | 0 => none
  | j + 1 => match whr f x j with
    | some q => some q
    | none => if x ∈ f j then some j else none
def ST.wh (S : ST) (x : Nat) : Int32 := match whr (S.st S.r) x (S.cN S.r) with
  | some q => nI q
  | none => if S.di x = 0 then neg1 else neg2
/-- the class's crossings -/
def CX (S : ST) (σ : Nat → Nat → Nat → Int32) : Prop := ∀ i s, i < S.r → s < S.N (i + 1) → (sg (S.tx (i + 1)) s = 60 ∨ sg (S.tx (i + 1)) s = 62) → σ 29 0 (S.xr i + cbn (S.tx (i + 1)) s) = nI (ft (S.tx (i + 1)) s) ∧ σ 30 0 (S.xr i + cbn (S.tx (i + 1)) s) = nI (sl (S.tx (i + 1)) s) ∧ σ 31 0 (S.xr i + cbn (S.tx (i + 1)) s) = nI (sr (S.tx (i + 1)) s) ∧ σ 32 0 (S.xr i + cbn (S.tx (i + 1)) s) = nI (if sg (S.tx (i + 1)) s = 60 then 1 else 0)
abbrev CI (S : ST) (σ : Nat → Nat → Nat → Int32) : Prop := σ 1 0 6 = nI S.r ∧ σ 1 0 7 = S.told ∧ (∀ k, k < 40 → σ 11 0 k = nI (S.T k)) ∧ σ 4 0 1 = nI S.n
  ∧ (∀ i, i ≤ S.r → σ 10 i 0 = nI (S.cN i)) ∧ (∀ i j, i ≤ S.r → j < S.cN i → σ 20 i j = nI (S.st i j).length) ∧ (∀ i j d, i ≤ S.r → j < S.cN i → d < (S.st i j).length → σ 19 i (j * 4 + d) = nI ((S.st i j).getD d 0)) ∧ (∀ i j, i ≤ S.r → j < S.cN i → σ 21 i j = nI (S.bd i j)) ∧ (∀ i j, i ≤ S.r → j < 3 → σ 22 i j = S.sd i j)
  ∧ (∀ i, i ≤ S.r → σ 10 i 5 = nI (S.lp i)) ∧ (∀ i, i ≤ S.r → σ 10 i 6 = nI (S.dr i)) ∧ (∀ i, i ≤ S.r → σ 10 i 7 = nI (S.xr i))
  ∧ (∀ i, 1 ≤ i → i ≤ S.r → σ 10 i 8 = nI (S.pg i 0)) ∧ (∀ i, 1 ≤ i → i ≤ S.r → σ 10 i 9 = nI (S.pg i 1)) ∧ (∀ i, 1 ≤ i → i ≤ S.r → σ 10 i 10 = nI (S.pg i 2)) ∧ (∀ i, 1 ≤ i → i ≤ S.r → σ 10 i 11 = nI (S.pg i 3)) ∧ (∀ i, 1 ≤ i → i ≤ S.r → σ 10 i 12 = nI (xps (S.tx i) (S.st (i - 1)) (S.N i)).length)
  ∧ (∀ x, x < S.lp S.r → σ 23 0 x = nI (S.lo x 0)) ∧ (∀ x, x < S.lp S.r → σ 24 0 x = nI (S.lo x 1)) ∧ (∀ x, x < S.lp S.r → σ 25 0 x = nI (S.lo x 2)) ∧ (∀ x, x < S.lp S.r → σ 26 0 x = nI (S.lo x 3)) ∧ (∀ x, x < S.lp S.r → σ 27 0 x = S.wh x) ∧ (∀ x j, x < S.lp S.r → j < 4 → σ 28 0 (x * 4 + j) = if j < (S.pa x).length then nI ((S.pa x).getD j 0) else neg1) ∧ CX S σ
abbrev RI (S : ST) (σ : Nat → Nat → Nat → Int32) : Prop := σ 2 0 5 = nI S.r ∧ σ 2 0 3 = S.told ∧ (∀ k, k < 40 → σ 33 0 k = nI (S.T k)) ∧ σ 2 0 2 = nI S.n ∧ σ 2 0 4 = nI (if S.cN 0 = 0 then 0 else 1)
  ∧ (∀ i, i ≤ S.r → σ 37 0 i = nI (S.cN i)) ∧ (∀ i j, i ≤ S.r → j < S.cN i → σ 35 0 (16 * i + j) = nI (S.st i j).length) ∧ (∀ i j d, i ≤ S.r → j < S.cN i → d < (S.st i j).length → σ 34 0 (64 * i + 4 * j + d) = nI ((S.st i j).getD d 0)) ∧ (∀ i j, i ≤ S.r → j < S.cN i → σ 36 0 (16 * i + j) = nI (S.bd i j)) ∧ (∀ i j, S.cN 0 ≠ 0 → i ≤ S.r → j < 3 → σ 40 0 (3 * i + j) = S.sd i j)
  ∧ (∀ i, i ≤ S.r → σ 38 0 i = nI (S.lp i)) ∧ (∀ i, i ≤ S.r → σ 39 0 i = nI (S.dr i))
  ∧ (∀ i q, 1 ≤ i → i ≤ S.r → q < 4 → σ 43 0 (4 * i + q) = nI (S.pg i q)) ∧ (∀ i, 1 ≤ i → i ≤ S.r → σ 42 0 i = nI (S.ln i)) ∧ (∀ i q, 1 ≤ i → i ≤ S.r → q < S.ln i → σ 41 0 (40 * i + q) = nI (S.tx i q))
  ∧ (∀ x, x < S.lp S.r → σ 46 0 x = nI (S.lo x 0)) ∧ (∀ x, x < S.lp S.r → σ 47 0 x = nI (S.lo x 1)) ∧ (∀ x, x < S.lp S.r → σ 48 0 x = nI (S.lo x 2)) ∧ (∀ x, x < S.lp S.r → σ 49 0 x = nI (S.lo x 3)) ∧ (∀ x, x < S.lp S.r → σ 45 0 x = nI (S.pa x).length) ∧ (∀ x j, x < S.lp S.r → j < (S.pa x).length → σ 44 0 (4 * x + j) = nI ((S.pa x).getD j 0)) ∧ (∀ x, x < S.lp S.r → σ 50 0 x = nI (S.di x))
/-- what holds of the cloth itself -/
abbrev PJ (S : ST) : Prop := S.r ≤ 20 ∧ S.n ≤ 40 ∧ (∀ k, S.T k < 256) ∧ (∀ i, i ≤ S.r → S.cN i ≤ 16) ∧ (∀ i j, i ≤ S.r → j < S.cN i → (S.st i j).length ≤ 4) ∧ (∀ i, i ≤ S.r → S.lp i ≤ 300) ∧ (∀ i j x, i ≤ S.r → j < S.cN i → x ∈ S.st i j → x < S.lp i) ∧ (∀ i, i < S.r → S.lp i ≤ S.lp (i + 1)) ∧ (∀ i, 1 ≤ i → i ≤ S.r → S.ln i ≤ 40 ∧ (∀ q, S.tx i q < 256) ∧ S.ln i ≠ 0 ∧ (rdr (S.tx i) (S.ln i) (S.ln i) 0 0).2 = none ∧ ft (S.tx i) (S.N i) = S.cN (i - 1) ∧ fg (S.tx i) (S.N i) = S.cN i) ∧ (S.cN 0 = 0 → S.r = 0 ∧ S.lp 0 = 0 ∧ S.dr 0 = 0 ∧ ∀ j, S.sd 0 j = neg1) ∧ (∀ x, x < S.lp S.r → (S.pa x).length ≤ 4)
  ∧ (∀ i j j' x, i ≤ S.r → j < S.cN i → j' < S.cN i → x ∈ S.st i j → x ∈ S.st i j' → j = j') ∧ (∀ i j, i ≤ S.r → j < S.cN i → (S.st i j).Nodup) ∧ (∀ i j x, i < S.r → j < S.cN (i + 1) → x ∈ S.st (i + 1) j → x < S.lp i → ∃ j', j' < S.cN i ∧ x ∈ S.st i j') ∧ (∀ x, x < S.lp S.r → S.di x ≤ S.r) ∧ (∀ i j x, i ≤ S.r → j < S.cN i → x ∈ S.st i j → S.di x = 0 ∨ i < S.di x) ∧ (∀ i x, i < S.r → x < S.lp i → S.di x = i + 1 → ∃ j, j < S.cN i ∧ x ∈ S.st i j) ∧ (∀ x, x < S.lp S.r → S.di x ≠ 0 → x < S.lp (S.di x - 1)) ∧ (∀ i j, i ≤ S.r → j < S.cN i → S.bd i j ≤ 1)
abbrev RC (ρ : Nat → Nat → Nat → Option XR) : Prop := ρ 1 0 0 = some (4, 0) ∧ ρ 1 0 1 = some (5, 0) ∧ ρ 1 0 2 = some (6, 0) ∧ ρ 1 0 3 = some (7, 0) ∧ ρ 1 0 4 = some (8, 0) ∧ ρ 1 0 5 = some (9, 0) ∧ ρ 4 0 0 = some (11, 0) ∧ ρ 4 0 2 = some (12, 0) ∧ (∀ i, i < 40 → ρ 12 0 i = some (13, i)) ∧ ρ 5 0 1 = some (14, 0) ∧ ρ 5 0 2 = some (15, 0) ∧ ρ 5 0 3 = some (16, 0) ∧ ρ 5 0 4 = some (17, 0) ∧ (∀ i, i ≤ 20 → ρ 9 0 i = some (10, i)) ∧ (∀ i, i ≤ 20 → ρ 10 i 1 = some (19, i)) ∧ (∀ i, i ≤ 20 → ρ 10 i 2 = some (20, i)) ∧ (∀ i, i ≤ 20 → ρ 10 i 3 = some (21, i)) ∧ (∀ i, i ≤ 20 → ρ 10 i 4 = some (22, i)) ∧ ρ 7 0 0 = some (23, 0) ∧ ρ 7 0 1 = some (24, 0) ∧ ρ 7 0 2 = some (25, 0) ∧ ρ 7 0 3 = some (26, 0) ∧ ρ 7 0 4 = some (27, 0) ∧ ρ 7 0 5 = some (28, 0) ∧ ρ 8 0 0 = some (29, 0) ∧ ρ 8 0 1 = some (30, 0) ∧ ρ 8 0 2 = some (31, 0) ∧ ρ 8 0 3 = some (32, 0) ∧ ρ 2 0 1 = some (33, 0) ∧ ρ 2 0 6 = some (34, 0) ∧ ρ 2 0 7 = some (35, 0) ∧ ρ 2 0 8 = some (36, 0) ∧ ρ 2 0 9 = some (37, 0) ∧ ρ 2 0 10 = some (38, 0) ∧ ρ 2 0 11 = some (39, 0) ∧ ρ 2 0 12 = some (40, 0) ∧ ρ 2 0 13 = some (41, 0) ∧ ρ 2 0 14 = some (42, 0) ∧ ρ 2 0 15 = some (43, 0) ∧ ρ 2 0 16 = some (44, 0) ∧ ρ 2 0 17 = some (45, 0) ∧ ρ 2 0 18 = some (46, 0) ∧ ρ 2 0 19 = some (47, 0) ∧ ρ 2 0 20 = some (48, 0) ∧ ρ 2 0 21 = some (49, 0) ∧ ρ 2 0 22 = some (50, 0) ∧ ρ 2 0 24 = some (51, 0) ∧ ρ 2 0 25 = some (52, 0) ∧ ρ 2 0 26 = some (53, 0) ∧ ρ 2 0 27 = some (54, 0) ∧ ρ 2 0 28 = some (55, 0) ∧ ρ 2 0 29 = some (56, 0) ∧ ρ 2 0 30 = some (57, 0) ∧ ρ 2 0 31 = some (58, 0) ∧ ρ 2 0 32 = some (59, 0) ∧ ρ 2 0 33 = some (60, 0) ∧ ρ 2 0 34 = some (61, 0)
