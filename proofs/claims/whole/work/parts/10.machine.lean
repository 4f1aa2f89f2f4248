/-! A small machine over a picture of the memory: objects are named by (kind, number), a kind being a place in the code where they are made. It runs the very instructions; part 30 shows that what it answers the machine of the Statement answers too. -/
abbrev XR : Type := Nat × Nat
abbrev XV : Type := Int32 ⊕ (Int64 ⊕ Option XR)
abbrev XL : Type := List (Option XV)
/-- ints, longs, references (by kind, number, place); how many there are of a kind; the script's length; cells and slots made so far -/
abbrev XM : Type := (Nat → Nat → Nat → Int32) × (Nat → Nat → Nat → Int64) × (Nat → Nat → Nat → Option XR) × (Nat → Nat) × Nat × Nat × Nat
/-- how a method ended: returned, or threw an exception of a number -/
abbrev XO : Type := Option XV ⊕ Nat
/-- one step: next (pc, locals, stack, memory), call (method, arguments, the rest of the stack), end -/
abbrev XN : Type := (Nat × XL × List XV × XM) ⊕ ((Nat × List XV × List XV) ⊕ (XO × XM))
abbrev xi (x : Int32) : XV := .inl x
abbrev xl (x : Int64) : XV := .inr (.inl x)
abbrev xq (t n : Nat) : XV := .inr (.inr (some (t, n)))
def up3 {α : Type} (f : Nat → Nat → Nat → α) (t n k : Nat) (v : α) : Nat → Nat → Nat → α := fun t' n' k' => if t' = t then (if n' = n then (if k' = k then v else f t' n' k') else f t' n' k') else f t' n' k'
def up2 {α : Type} (f : Nat → Nat → Nat → α) (t n : Nat) (v : α) : Nat → Nat → Nat → α := fun t' n' k' => if t' = t then (if n' = n then v else f t' n' k') else f t' n' k'
def up1 (f : Nat → Nat) (t : Nat) : Nat → Nat := fun t' => if t' = t then f t + 1 else f t'
def xin (i : Int32) (n : Nat) : Bool := !(decide (i < 0)) && Nat.blt i.toNatClampNeg n
def xcat : XV → Nat
  | .inr (.inl _) => 2
  | _ => 1
def xsum : List XV → Nat
  | [] => 0
  | v :: r => xcat v + xsum r
/-- the locals with which a method begins -/
def xent : Nat → List XV → XL
  | n, [] => List.replicate n none
  | n, v :: r => match v with
    | .inr (.inl x) => some (.inr (.inl x)) :: none :: xent (n - 2) r
    | v => some v :: xent (n - 1) r
/-- no long lies over the place i -/
def xok (lv : XL) (i : Nat) : Bool := match i with
  | 0 => true
  | j + 1 => match lv[j]? with
    | some (some (.inr (.inl _))) => false
    | _ => true
def xtg (pc : Nat) (off : Int) : Nat := ((pc : Int) + off).toNat
def xcmp (c : ClassFile.Cond) (x y : Int32) : Bool := match c with
  | .eq => decide (x = y)
  | .ne => !(decide (x = y))
  | .lt => decide (x < y)
  | .ge => decide (y ≤ x)
  | .gt => decide (y < x)
  | .le => decide (x ≤ y)
def xnx (pc : Nat) (lv : XL) (st : List XV) (M : XM) : Option XN := some (.inl (pc, lv, st, M))
