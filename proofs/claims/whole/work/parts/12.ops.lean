/-- an int of an object or array, a reference, ... where the static checks (xkt: what a kind is; xkn: its length; xkc: its class; xst: what a field is) hold -/
def xo_iconst (v : Int32) (pc len : Nat) (lv : XL) (st : List XV) (M : XM) : Option XN := xnx (pc + len) lv (.inl v :: st) M
def xo_lconst (v : Int64) (pc len : Nat) (lv : XL) (st : List XV) (M : XM) : Option XN := xnx (pc + len) lv (.inr (.inl v) :: st) M
def xo_iload (i pc len : Nat) (lv : XL) (st : List XV) (M : XM) : Option XN := match lv[i]? with
  | some (some (.inl x)) => xnx (pc + len) lv (.inl x :: st) M
  | _ => none
def xo_lload (i pc len : Nat) (lv : XL) (st : List XV) (M : XM) : Option XN := match lv[i]? with
  | some (some (.inr (.inl x))) => xnx (pc + len) lv (.inr (.inl x) :: st) M
  | _ => none
def xo_aload (i pc len : Nat) (lv : XL) (st : List XV) (M : XM) : Option XN := match lv[i]? with
  | some (some (.inr (.inr (some q)))) => xnx (pc + len) lv (.inr (.inr (some q)) :: st) M
  | _ => none
def xo_istore (i pc len : Nat) (lv : XL) (st : List XV) (M : XM) : Option XN := match st with
  | .inl x :: r => bif Nat.blt i lv.length && xok lv i then xnx (pc + len) (lv.set i (some (.inl x))) r M else none
  | _ => none
def xo_astore (i pc len : Nat) (lv : XL) (st : List XV) (M : XM) : Option XN := match st with
  | .inr (.inr (some q)) :: r => bif Nat.blt i lv.length && xok lv i then xnx (pc + len) (lv.set i (some (.inr (.inr (some q))))) r M else none
  | _ => none
def xo_iinc (i : Nat) (n : Int) (pc len : Nat) (lv : XL) (st : List XV) (M : XM) : Option XN := match lv[i]? with
  | some (some (.inl x)) => bif Nat.blt i lv.length && xok lv i then xnx (pc + len) (lv.set i (some (.inl (x + Int32.ofInt n)))) st M else none
  | _ => none
def xo_iadd (pc len : Nat) (lv : XL) (st : List XV) (M : XM) : Option XN := match st with
  | .inl y :: .inl x :: r => xnx (pc + len) lv (.inl (x + y) :: r) M
  | _ => none
def xo_isub (pc len : Nat) (lv : XL) (st : List XV) (M : XM) : Option XN := match st with
  | .inl y :: .inl x :: r => xnx (pc + len) lv (.inl (x - y) :: r) M
  | _ => none
def xo_imul (pc len : Nat) (lv : XL) (st : List XV) (M : XM) : Option XN := match st with
  | .inl y :: .inl x :: r => xnx (pc + len) lv (.inl (x * y) :: r) M
  | _ => none
def xo_iand (pc len : Nat) (lv : XL) (st : List XV) (M : XM) : Option XN := match st with
  | .inl y :: .inl x :: r => xnx (pc + len) lv (.inl (x &&& y) :: r) M
  | _ => none
def xo_idiv (pc len : Nat) (lv : XL) (st : List XV) (M : XM) : Option XN := match st with
  | .inl y :: .inl x :: r => if y = 0 then none else xnx (pc + len) lv (.inl (x / y) :: r) M
  | _ => none
def xo_irem (pc len : Nat) (lv : XL) (st : List XV) (M : XM) : Option XN := match st with
  | .inl y :: .inl x :: r => if y = 0 then none else xnx (pc + len) lv (.inl (x - x / y * y) :: r) M
  | _ => none
def xo_land (pc len : Nat) (lv : XL) (st : List XV) (M : XM) : Option XN := match st with
  | .inr (.inl y) :: .inr (.inl x) :: r => xnx (pc + len) lv (.inr (.inl (x &&& y)) :: r) M
  | _ => none
def xo_lor (pc len : Nat) (lv : XL) (st : List XV) (M : XM) : Option XN := match st with
  | .inr (.inl y) :: .inr (.inl x) :: r => xnx (pc + len) lv (.inr (.inl (x ||| y)) :: r) M
  | _ => none
def xo_lshl (pc len : Nat) (lv : XL) (st : List XV) (M : XM) : Option XN := match st with
  | .inl y :: .inr (.inl x) :: r => xnx (pc + len) lv (.inr (.inl (x <<< (y.toInt64 &&& 63))) :: r) M
  | _ => none
def xo_lshr (pc len : Nat) (lv : XL) (st : List XV) (M : XM) : Option XN := match st with
  | .inl y :: .inr (.inl x) :: r => xnx (pc + len) lv (.inr (.inl (x >>> (y.toInt64 &&& 63))) :: r) M
  | _ => none
def xo_lushr (pc len : Nat) (lv : XL) (st : List XV) (M : XM) : Option XN := match st with
  | .inl y :: .inr (.inl x) :: r => xnx (pc + len) lv (.inr (.inl ((x.toUInt64 >>> (y.toInt64.toUInt64 &&& Int64.toUInt64 63)).toInt64)) :: r) M
  | _ => none
def xo_i2l (pc len : Nat) (lv : XL) (st : List XV) (M : XM) : Option XN := match st with
  | .inl x :: r => xnx (pc + len) lv (.inr (.inl x.toInt64) :: r) M
  | _ => none
def xo_l2i (pc len : Nat) (lv : XL) (st : List XV) (M : XM) : Option XN := match st with
  | .inr (.inl x) :: r => xnx (pc + len) lv (.inl x.toInt32 :: r) M
  | _ => none
def xo_lcmp (pc len : Nat) (lv : XL) (st : List XV) (M : XM) : Option XN := match st with
  | .inr (.inl y) :: .inr (.inl x) :: r => xnx (pc + len) lv (.inl (lg_cmp x y) :: r) M
  | _ => none
def xo_dup (pc len : Nat) (lv : XL) (st : List XV) (M : XM) : Option XN := match st with
  | v :: r => bif Nat.beq (xcat v) 1 then xnx (pc + len) lv (v :: v :: r) M else none
  | _ => none
def xo_dup2 (pc len : Nat) (lv : XL) (st : List XV) (M : XM) : Option XN := match st with
  | v :: u :: r => bif Nat.beq (xcat v) 1 && Nat.beq (xcat u) 1 then xnx (pc + len) lv (v :: u :: v :: u :: r) M else none
  | _ => none
def xo_pop (pc len : Nat) (lv : XL) (st : List XV) (M : XM) : Option XN := match st with
  | v :: r => bif Nat.beq (xcat v) 1 then xnx (pc + len) lv r M else none
  | _ => none
def xo_goto (off : Int) (pc : Nat) (lv : XL) (st : List XV) (M : XM) : Option XN := bif decide (0 ≤ (pc : Int) + off) then xnx (xtg pc off) lv st M else none
def xo_icmp (c : ClassFile.Cond) (off : Int) (pc len : Nat) (lv : XL) (st : List XV) (M : XM) : Option XN := match st with
  | .inl y :: .inl x :: r => bif decide (0 ≤ (pc : Int) + off) then (if xcmp c x y = true then xnx (xtg pc off) lv r M else xnx (pc + len) lv r M) else none
  | _ => none
def xo_if (c : ClassFile.Cond) (off : Int) (pc len : Nat) (lv : XL) (st : List XV) (M : XM) : Option XN := match st with
  | .inl x :: r => bif decide (0 ≤ (pc : Int) + off) then (if xcmp c x 0 = true then xnx (xtg pc off) lv r M else xnx (pc + len) lv r M) else none
  | _ => none
/-- where a switch goes: pairs (number, place), else the default's place -/
def xsw (x : Int32) (d : Nat) : List (Int32 × Nat) → Nat
  | [] => d
  | (k, t) :: r => if x = k then t else xsw x d r
def xo_switch (d : Nat) (ps : List (Int32 × Nat)) (lv : XL) (st : List XV) (M : XM) : Option XN := match st with
  | .inl x :: r => xnx (xsw x d ps) lv r M
  | _ => none
def xo_getf (ci k pc len : Nat) (lv : XL) (st : List XV) (M : XM) : Option XN := match st with
  | .inr (.inr (some (t, n))) :: r => bif Nat.beq (xkt t) 0 && Nat.beq (xkc t) ci then (bif Nat.beq (xst ci k) 1 then xnx (pc + len) lv (.inr (.inr (M.2.2.1 t n k)) :: r) M else xnx (pc + len) lv (.inl (M.1 t n k) :: r) M) else none
  | _ => none
def xo_puti (ci k pc len : Nat) (lv : XL) (st : List XV) (M : XM) : Option XN := match st with
  | .inl x :: .inr (.inr (some (t, n))) :: r => bif Nat.beq (xkt t) 0 && Nat.beq (xkc t) ci && Nat.beq (xst ci k) 0 then xnx (pc + len) lv r (up3 M.1 t n k x, M.2) else none
  | _ => none
def xo_putz (ci k pc len : Nat) (lv : XL) (st : List XV) (M : XM) : Option XN := match st with
  | .inl x :: .inr (.inr (some (t, n))) :: r => bif Nat.beq (xkt t) 0 && Nat.beq (xkc t) ci && Nat.beq (xst ci k) 2 then (if x = 0 ∨ x = 1 then xnx (pc + len) lv r (up3 M.1 t n k x, M.2) else none) else none
  | _ => none
def xo_putr (ci k pc len : Nat) (lv : XL) (st : List XV) (M : XM) : Option XN := match st with
  | .inr (.inr (some q)) :: .inr (.inr (some (t, n))) :: r => bif Nat.beq (xkt t) 0 && Nat.beq (xkc t) ci && Nat.beq (xst ci k) 1 then xnx (pc + len) lv r (M.1, M.2.1, up3 M.2.2.1 t n k (some q), M.2.2.2) else none
  | _ => none
def xo_iald (pc len : Nat) (lv : XL) (st : List XV) (M : XM) : Option XN := match st with
  | .inl i :: .inr (.inr (some (t, n))) :: r => bif Nat.beq (xkt t) 1 then (if xin i (xkn t) = true then xnx (pc + len) lv (.inl (M.1 t n i.toNatClampNeg) :: r) M else none) else (bif Nat.beq (xkt t) 5 then (if xin i M.2.2.2.2.1 = true then xnx (pc + len) lv (.inl (M.1 t n i.toNatClampNeg) :: r) M else none) else none)
  | _ => none
def xo_bald (pc len : Nat) (lv : XL) (st : List XV) (M : XM) : Option XN := match st with
  | .inl i :: .inr (.inr (some (t, n))) :: r => bif Nat.beq (xkt t) 2 then (if xin i (xkn t) = true then xnx (pc + len) lv (.inl (M.1 t n i.toNatClampNeg) :: r) M else none) else none
  | _ => none
def xo_lald (pc len : Nat) (lv : XL) (st : List XV) (M : XM) : Option XN := match st with
  | .inl i :: .inr (.inr (some (t, n))) :: r => bif Nat.beq (xkt t) 3 then (if xin i (xkn t) = true then xnx (pc + len) lv (.inr (.inl (M.2.1 t n i.toNatClampNeg)) :: r) M else none) else none
  | _ => none
def xo_aald (pc len : Nat) (lv : XL) (st : List XV) (M : XM) : Option XN := match st with
  | .inl i :: .inr (.inr (some (t, n))) :: r => bif Nat.beq (xkt t) 4 then (if xin i (xkn t) = true then xnx (pc + len) lv (.inr (.inr (M.2.2.1 t n i.toNatClampNeg)) :: r) M else none) else none
  | _ => none
def xo_iast (pc len : Nat) (lv : XL) (st : List XV) (M : XM) : Option XN := match st with
  | .inl x :: .inl i :: .inr (.inr (some (t, n))) :: r => bif Nat.beq (xkt t) 1 then (if xin i (xkn t) = true then xnx (pc + len) lv r (up3 M.1 t n i.toNatClampNeg x, M.2) else none) else none
  | _ => none
def xo_bast (pc len : Nat) (lv : XL) (st : List XV) (M : XM) : Option XN := match st with
  | .inl x :: .inl i :: .inr (.inr (some (t, n))) :: r => bif Nat.beq (xkt t) 2 then (if xin i (xkn t) = true then xnx (pc + len) lv r (up3 M.1 t n i.toNatClampNeg (vp_nar .boolean x), M.2) else none) else none
  | _ => none
def xo_last (pc len : Nat) (lv : XL) (st : List XV) (M : XM) : Option XN := match st with
  | .inr (.inl x) :: .inl i :: .inr (.inr (some (t, n))) :: r => bif Nat.beq (xkt t) 3 then (if xin i (xkn t) = true then xnx (pc + len) lv r (M.1, up3 M.2.1 t n i.toNatClampNeg x, M.2.2) else none) else none
  | _ => none
def xo_aast (pc len : Nat) (lv : XL) (st : List XV) (M : XM) : Option XN := match st with
  | .inr (.inr (some (t', n'))) :: .inl i :: .inr (.inr (some (t, n))) :: r => bif Nat.beq (xkt t) 4 && Nat.beq (xkt t') 0 && Nat.beq (xkc t') (xkc t) then (if xin i (xkn t) = true then xnx (pc + len) lv r (M.1, M.2.1, up3 M.2.2.1 t n i.toNatClampNeg (some (t', n')), M.2.2.2) else none) else none
  | _ => none
def xo_alen (pc len : Nat) (lv : XL) (st : List XV) (M : XM) : Option XN := match st with
  | .inr (.inr (some (t, _))) :: r => bif Nat.beq (xkt t) 5 then xnx (pc + len) lv (.inl (Int32.ofNat M.2.2.2.2.1) :: r) M else (bif Nat.beq (xkt t) 4 then xnx (pc + len) lv (.inl (Int32.ofNat (xkn t)) :: r) M else none)
  | _ => none
/-- a new object or array of the kind t -/
def xmake (t : Nat) (M : XM) : XM := (up2 M.1 t (M.2.2.2.1 t) 0, up2 M.2.1 t (M.2.2.2.1 t) 0, up2 M.2.2.1 t (M.2.2.2.1 t) none, up1 M.2.2.2.1 t, M.2.2.2.2.1, M.2.2.2.2.2.1 + 1, M.2.2.2.2.2.2 + xkn t)
def xo_new (t pc len : Nat) (lv : XL) (st : List XV) (M : XM) : Option XN := bif Nat.beq (xkt t) 0 then xnx (pc + len) lv (.inr (.inr (some (t, M.2.2.2.1 t))) :: st) (xmake t M) else none
def xo_newa (g t pc len : Nat) (lv : XL) (st : List XV) (M : XM) : Option XN := match st with
  | .inl x :: r => bif Nat.beq (xkt t) g && decide (x = Int32.ofNat (xkn t)) then xnx (pc + len) lv (.inr (.inr (some (t, M.2.2.2.1 t))) :: r) (xmake t M) else none
  | _ => none
/-- an exception of the number e is made and thrown -/
def xo_throw (e : Nat) (M : XM) : Option XN := some (.inr (.inr (.inr e, (M.1, M.2.1, M.2.2.1, M.2.2.2.1, M.2.2.2.2.1, M.2.2.2.2.2.1 + xec e, M.2.2.2.2.2.2 + xes e))))
/-- the arguments of a call: the n uppermost, the lowest first -/
def xargs : Nat → List XV → List XV → Option (List XV × List XV)
  | 0, acc, r => some (acc, r)
  | _ + 1, _, [] => none
  | n + 1, acc, v :: r => xargs n (v :: acc) r
def xrecv (y : Nat) (as : List XV) : Bool := match as with
  | .inr (.inr (some (t, _))) :: _ => Nat.beq (xkt t) 0 && Nat.beq (xkc t) (xmc y)
  | _ => false
/-- a call: v: the receiver's class is looked at -/
def xo_call (v : Bool) (m y : Nat) (st : List XV) : Option XN := match xargs (xmn y) [] st with
  | some (as, r) => bif Nat.blt (xdp y) (xdp m) && Nat.ble (19 + xml y + xlo y) (xlo m) && Nat.ble (xsum r) 8 && Nat.ble (xsum as) (xml y) && (v.not || xrecv y as) then some (.inr (.inl (y, as, r))) else none
  | none => none
def xo_objinit (pc len : Nat) (lv : XL) (st : List XV) (M : XM) : Option XN := match st with
  | .inr (.inr (some _)) :: r => bif Nat.ble (xsum r) 8 then xnx (pc + len) lv r M else none
  | _ => none
def xo_abs (pc len : Nat) (lv : XL) (st : List XV) (M : XM) : Option XN := match st with
  | .inl x :: r => bif Nat.ble (xsum r) 8 then xnx (pc + len) lv (.inl (if 0 ≤ x then x else 0 - x) :: r) M else none
  | _ => none
def xo_max (pc len : Nat) (lv : XL) (st : List XV) (M : XM) : Option XN := match st with
  | .inl y :: .inl x :: r => bif Nat.ble (xsum r) 8 then xnx (pc + len) lv (.inl (if x < y then y else x) :: r) M else none
  | _ => none
def xo_ret (m : Nat) (st : List XV) (M : XM) : Option XN := match st with
  | [] => bif Nat.beq (xrt m) 0 then some (.inr (.inr (.inl none, M))) else none
  | [.inl x] => bif Nat.beq (xrt m) 1 then some (.inr (.inr (.inl (some (.inl x)), M))) else (bif Nat.beq (xrt m) 2 then (if x = 0 ∨ x = 1 then some (.inr (.inr (.inl (some (.inl x)), M))) else none) else none)
  | _ => none
/-- where a thrown exception is caught, and the locals there -/
def xhl (y pc e : Nat) (lv : XL) : Option (Nat × XL) := match xhd y pc e with
  | none => none
  | some (h, k) => bif Nat.blt k lv.length && xok lv k then some (h, lv.set k none) else none
/-- what comes of a step; rec: the run with less fuel -/
def xk (rec : Nat → Nat → XL → List XV → XM → Option (XO × XM)) (y pc : Nat) (lv : XL) (M : XM) (r : Option XN) : Option (XO × XM) := match r with
  | none => none
  | some (.inl (pc', lv', st', M')) => rec y pc' lv' st' M'
  | some (.inr (.inl (z, as, rest))) => (match rec z 0 (xent (xml z) as) [] M with
    | none => none
    | some (.inl rv, M1) => rec y (pc + 3) lv (rv.toList ++ rest) M1
    | some (.inr e, M1) => (match xhl y pc e lv with
      | none => none
      | some (h, lv') => rec y h lv' [] M1))
  | some (.inr (.inr (o, M'))) => some (o, M')
