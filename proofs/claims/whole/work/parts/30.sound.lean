def tv (ad : Nat → Nat → Nat) : XV → Value
  | .inl x => .int x
  | .inr (.inl x) => .long x
  | .inr (.inr none) => .null
  | .inr (.inr (some q)) => .ref (ad q.1 q.2)
def vok (k : Nat → Nat) : XV → Prop
  | .inr (.inr (some q)) => q.2 < k q.1
  | _ => True
def xrf (ad : Nat → Nat → Nat) (r : Option XR) : Option Nat := r.map (fun q => ad q.1 q.2)
def xfv (ad : Nat → Nat → Nat) (M : XM) (t n k : Nat) : Value := if xst (xkc t) k = 1 then va_rf (xrf ad (M.2.2.1 t n k)) else .int (M.1 t n k)
/-- the cell of an object or array -/
def xce (K : Nat → ClassId) (ad : Nat → Nat → Nat) (M : XM) (q : XR) : Nat × va_E := (ad q.1 q.2,
  if xkt q.1 = 0 then .inr (xkc q.1, (List.range (xkn q.1)).map (xfv ad M q.1 q.2))
  else if xkt q.1 = 1 then .inl (K 0, xkn q.1, .inl (M.1 q.1 q.2))
  else if xkt q.1 = 2 then .inl (K 1, xkn q.1, .inl (M.1 q.1 q.2))
  else if xkt q.1 = 3 then .inl (K 2, xkn q.1, .inr (.inl (M.2.1 q.1 q.2)))
  else .inl (K (xka (xkc q.1)), xkn q.1, .inr (.inr (.inr (.inr (fun k => xrf ad (M.2.2.1 q.1 q.2 k)))))))
/-- the heap H holds the memory M, at the addresses ad -/
def XRel (D : va_G) (K : Nat → ClassId) (U : State) (A : Nat → Prop) (ad : Nat → Nat → Nat) (M : XM) (H : Heap) : Prop :=
  (∃ ob : List XR, (∀ q : XR, q ∈ ob ↔ (xkt q.1 ≠ 5 ∧ q.2 < M.2.2.2.1 q.1)) ∧ va_P D xcl (ob.map (xce K ad M)) H ∧ va_D A (ob.map (xce K ad M))) ∧
  (∀ (t n k : Nat) (q : XR), M.2.2.1 t n k = some q → q.2 < M.2.2.2.1 q.1) ∧
  (∀ (t n : Nat), xkt t = 5 → n < M.2.2.2.1 t → va_X (ad t n) M.2.2.2.2.1 (M.1 t n) U H ∧ ¬ A (ad t n))
def XLs (ad : Nat → Nat → Nat) (k : Nat → Nat) (lv : XL) (ls : Array Slot) : Prop := ls.size = lv.length ∧ lv_wf ls ∧ ∀ (i : Nat) (v : XV), lv[i]? = some (some v) → ls[i]? = some (.val (tv ad v)) ∧ vok k v
def XSt (k : Nat → Nat) (st : List XV) : Prop := ∀ v ∈ st, vok k v
def xtab (y : Nat) : List (Nat × Nat × Nat × Nat) := if y = 111 then [(0, 5, 8, 13)] else if y = 112 then [(0, 9, 12, 19), (0, 9, 15, 13)] else if y = 113 then [(0, 10, 13, 25), (0, 10, 17, 13)] else if y = 114 then [(0, 10, 13, 25)] else if y = 115 then [(0, 10, 13, 25), (0, 10, 17, 13)] else if y = 116 then [(0, 10, 13, 25)] else []
/-- the texts of the exceptions are there -/
def xnc : List (String × String) := [("java/lang/IllegalArgumentException", "java/lang/IllegalStateException"), ("java/lang/IllegalArgumentException", "java/lang/IndexOutOfBoundsException")]
def XSx (U : State) : Prop := (∀ q ∈ xstr, ∃ a, vk_R "ChartKnitter" q.1 q.2 a U) ∧ ∀ q ∈ xnc, ∀ c d, U.vm.findClass q.1 = some c → U.vm.findClass q.2 = some d → U.vm.assignable c d = false
/-- a static of Throwable holds a reference, in a cell that is none of A -/
def XZs (n d : String) (A : Nat → Prop) (U : State) (H : Heap) : Prop := ∃ (c i a : Nat) (k : Class) (f : Field) (cell : Cell) (v : Value), U.vm.findClass Bundle.tN = some c ∧ U.fieldFound? Bundle.tN n d = some (c, k, i, f) ∧ f.isStatic = true ∧ k.statics = some a ∧ H[a]? = some cell ∧ cell.vm.isStatics = true ∧ cell.cls = c ∧ f.slot < cell.slots.size ∧ k.staticTypes[f.slot]? = some f.type ∧ cell.slots[f.slot]? = some v ∧ v.isRef = true ∧ ¬ A a
def XZt (A : Nat → Prop) (U : State) (H : Heap) : Prop := XZs "UNASSIGNED_STACK" Bundle.steD A U H ∧ XZs "SUPPRESSED_SENTINEL" Bundle.listD A U H
theorem XZs.moved {n d : String} {A : Nat → Prop} {u U : State} {H : Heap} (hvm : u.vm.Alike U.vm) (h : XZs n d A u H) : XZs n d A U H := by
  obtain ⟨c, i, a, k, f, cell, v, h1, h2, h3, h4, h5, h6, h7, h8, h9, h10⟩ := h
  obtain ⟨k', hi', he⟩ := State.fieldFound?_setVm hvm h2
  exact ⟨c, i, a, k', f, cell, v, by rw [hvm.findClass]; exact h1, hi', h3, by rw [he]; exact h4, h5, h6, h7, h8, by rw [he]; exact h9, h10⟩
theorem XZs.kept {n d : String} {A B : Nat → Prop} {U : State} {H H1 : Heap} (h : XZs n d A U H) (hq : ∀ a : Nat, a < H.size → ¬ A a → H1[a]? = H[a]?) (hAB : ∀ q, B q → A q) : XZs n d B U H1 := by
  obtain ⟨c, i, a, k, f, cell, v, h1, h2, h3, h4, h5, h6, h7, h8, h9, h10, h11, h12⟩ := h
  exact ⟨c, i, a, k, f, cell, v, h1, h2, h3, h4, by rw [hq a (Array.getElem?_eq_some_iff.mp h5).1 h12]; exact h5, h6, h7, h8, h9, h10, h11, fun z => h12 (hAB a z)⟩
theorem XZt.moved {A : Nat → Prop} {u U : State} {H : Heap} (hvm : u.vm.Alike U.vm) (h : XZt A u H) : XZt A U H := ⟨h.1.moved hvm, h.2.moved hvm⟩
theorem XZt.kept {A B : Nat → Prop} {U : State} {H H1 : Heap} (h : XZt A U H) (hq : ∀ a : Nat, a < H.size → ¬ A a → H1[a]? = H[a]?) (hAB : ∀ q, B q → A q) : XZt B U H1 := ⟨h.1.kept hq hAB, h.2.kept hq hAB⟩
theorem XSx.warm {s U : State} (hW : s.WarmedH U.vm) (h : XSx s) : XSx U := ⟨fun q hq => by
  obtain ⟨a, ha⟩ := h.1 q hq
  exact ⟨a, vk_R.warm hW ha⟩, fun q hq c d h1 h2 => by
  rw [hW.alike.findClass] at h1 h2
  rw [hW.alike.assignable]
  exact h.2 q hq c d h1 h2⟩
theorem XSx.same {u U : State} (hv : U.vm = u.vm) (h : XSx u) : XSx U := ⟨fun q hq => by
  obtain ⟨a, ha⟩ := h.1 q hq
  exact ⟨a, vk_R.same hv ha⟩, by rw [hv]; exact h.2⟩
/-- what is known of a method's invocation -/
def XC (y : Nat) (p : Program) (l : Launch) (R : Room) (s : State) (m : MethodId) (args : Array Value) (meth : Method) (c : Code) (D : va_G) (K : Nat → ClassId) (A : Nat → Prop) : Prop :=
  p.tables.exec = Jvm.exec ∧ c.code = xby y ∧ c.maxLocals = xml y ∧ meth.sig.returnType = xrty y ∧ (∀ w ∈ xall, w.before args s = true) ∧ s.vm.findClass (xown y) = some m.cls ∧ meth.locks = false ∧ (xini y = true → meth.name = "<init>") ∧
  va_K D xcl (xtys K) s ∧ (∀ w ∈ xnw, va_Nw w s) ∧ xdp y ≤ R.frames ∧ xlo y ≤ R.locals ∧ (∀ q : Nat, s.heap.size ≤ q → A q) ∧ (∀ (q : Nat) (cell : Cell), A q → s.heap[q]? = some cell → cell.vm.isStatics = false) ∧ XSx s ∧ XZt A s s.heap ∧ l.flags = flags0 ∧ (y ≠ 117 → c.exceptionTable.toList = tableOf (xtab y))
/-- how a method ends -/
def XQ (D : va_G) (K : Nat → ClassId) (A : Nat → Prop) (ad0 : Nat → Nat → Nat) (k0 : Nat → Nat) (rv : Option XV) (M' : XM) : Array Value → State → Outcome → State → Prop := fun _ st oc t =>
  (∃ ad' : Nat → Nat → Nat, (∀ q : XR, q.2 < k0 q.1 → ad' q.1 q.2 = ad0 q.1 q.2) ∧ (∀ i, k0 i ≤ M'.2.2.2.1 i) ∧ (∀ i, xkt i = 5 → M'.2.2.2.1 i = k0 i) ∧ XRel D K t A ad' M' t.heap ∧ (∀ v, rv = some v → vok M'.2.2.2.1 v) ∧ oc = .returned (rv.map (tv ad'))) ∧ va_F A st t
def XEnd (below : List Frame) (D : va_G) (K : Nat → ClassId) (A : Nat → Prop) (ad0 : Nat → Nat → Nat) (k0 : Nat → Nat) (o : XO) (M' : XM) (args : Array Value) (s : State) (mc ms : Nat) : State → Prop := match o with
  | .inl rv => MQ below (XQ D K A ad0 k0 rv M') args s mc ms A
  | .inr e => fun t => ∃ (x : Addr) (ce : Cell) (k : Class) (ad' : Nat → Nat → Nat), t.status = .running ∧ Ended t below (.threw x) ∧ t.heap[x]? = some ce ∧ (∀ z, ce.vm ≠ .statics z) ∧ t.vm.findClass (xex e) = some ce.cls ∧ t.vm.classes[ce.cls]? = some k ∧ ((∀ q : XR, q.2 < k0 q.1 → ad' q.1 q.2 = ad0 q.1 q.2) ∧ (∀ i, k0 i ≤ M'.2.2.2.1 i) ∧ (∀ i, xkt i = 5 → M'.2.2.2.1 i = k0 i)) ∧ XRel D K t A ad' M' t.heap ∧ va_F A s t ∧ s.WarmedH t.vm ∧ ∃ L, s.sameButNew ({ t with vm := s.vm } : State) L mc ms ∧ ∀ q ∈ L, A q.base
/-- the invariant of a walk -/
def XB (y : Nat) (p : Program) (l : Launch) (R : Room) (s : State) (m : MethodId) (args : Array Value) (meth : Method) (c : Code) (D : va_G) (K : Nat → ClassId) (A : Nat → Prop) (ad0 : Nat → Nat → Nat) (k0 : Nat → Nat) (c0 w0 : Nat) (M' : XM) (ad : Nat → Nat → Nat) (H : Heap) (locs : List Loc) (ls : Array Slot) (lv : XL) (st : List XV) (M : XM) : Prop :=
  XC y p l R s m args meth c D K A ∧ XRel D K s A ad M H ∧ va_S A s.heap H locs ∧ XLs ad M.2.2.2.1 lv ls ∧ XSt M.2.2.2.1 st ∧ lv.length = xml y ∧ ((∀ q : XR, q.2 < k0 q.1 → ad q.1 q.2 = ad0 q.1 q.2) ∧ (∀ i, k0 i ≤ M.2.2.2.1 i) ∧ (∀ i, xkt i = 5 → M.2.2.2.1 i = k0 i)) ∧ (c0 ≤ M.2.2.2.2.2.1 ∧ w0 ≤ M.2.2.2.2.2.2 ∧ M'.2.2.2.2.2.1 - c0 ≤ R.cells ∧ M'.2.2.2.2.2.2 - w0 ≤ R.slots)
def XW (y pc : Nat) (lv : XL) (st : List XV) (M : XM) (o : XO) (M' : XM) : Prop :=
  ∀ (p : Program) (l : Launch) (e : Env) (R : Room) (s : State) (m : MethodId) (args : Array Value) (below : List Frame) (meth : Method) (c : Code) (D : va_G) (K : Nat → ClassId) (A : Nat → Prop) (ad0 : Nat → Nat → Nat) (k0 : Nat → Nat) (c0 w0 : Nat) (ad : Nat → Nat → Nat) (H : Heap) (locs : List Loc) (ls : Array Slot),
    XB y p l R s m args meth c D K A ad0 k0 c0 w0 M' ad H locs ls lv st M →
    W p l e R s m args below meth c H locs (M.2.2.2.2.2.1 - c0) (M.2.2.2.2.2.2 - w0) (XEnd below D K A ad0 k0 o M' args s (M'.2.2.2.2.2.1 - c0) (M'.2.2.2.2.2.2 - w0)) (F0 m pc ls (st.map (tv ad)))
def XG (y pc : Nat) (lv : XL) (st : List XV) (M : XM) (o : XO) (M' : XM) : Prop := (M.2.2.2.2.2.1 ≤ M'.2.2.2.2.2.1 ∧ M.2.2.2.2.2.2 ≤ M'.2.2.2.2.2.2) ∧ XW y pc lv st M o M'
def XIH (f : Nat) : Prop := ∀ (y pc : Nat) (lv : XL) (st : List XV) (M : XM) (o : XO) (M' : XM), xrun f y pc lv st M = some (o, M') → XG y pc lv st M o M'
def Snd (y pc : Nat) (op : XL → List XV → XM → Option XN) : Prop := ∀ (f : Nat) (lv : XL) (st : List XV) (M : XM) (o : XO) (M' : XM), xk (xrun f) y pc lv M (op lv st M) = some (o, M') → XIH f → XG y pc lv st M o M'
theorem snd_none (y pc : Nat) : Snd y pc (fun _ _ _ => none) := fun f lv st M o M' h _ => by cases h
theorem ok_lt {y a : Nat} {f g : Nat → XL → List XV → XM → Option XN} (h1 : ∀ pc, Snd y pc (f pc)) (h2 : ∀ pc, Snd y pc (g pc)) : ∀ pc, Snd y pc (fun lv st M => if pc < a then f pc lv st M else g pc lv st M) := by
  intro pc
  by_cases h : pc < a
  · simp only [h, if_true]; exact h1 pc
  · simp only [h, if_false]; exact h2 pc
theorem ok_eq {y k : Nat} {op : XL → List XV → XM → Option XN} (h1 : Snd y k op) : ∀ pc, Snd y pc (fun lv st M => if pc = k then op lv st M else none) := by
  intro pc
  by_cases h : pc = k
  · subst h; simp only [if_true]; exact h1
  · simp only [h, if_false]; exact snd_none y pc
theorem xc_cond {α : Type} {b : Bool} {x : Option α} {r : α} (h : (bif b then x else none) = some r) : b = true ∧ x = some r := by
  cases b with
  | false => cases h
  | true => exact ⟨rfl, h⟩
/-- an instruction that changes the stack alone -/
theorem XG.pure {y pc pc' : Nat} {lv : XL} {st st' : List XV} {M : XM} {o : XO} {M' : XM} (hn : XG y pc' lv st' M o M') (hs : XSt M.2.2.2.1 st → XSt M.2.2.2.1 st')
    (hW : ∀ (p : Program) (l : Launch) (e : Env) (R : Room) (s : State) (m : MethodId) (args : Array Value) (below : List Frame) (meth : Method) (c : Code) (D : va_G) (K : Nat → ClassId) (A : Nat → Prop) (ad : Nat → Nat → Nat) (H : Heap) (locs : List Loc) (ls : Array Slot) (cells slots : Nat) (Q : State → Prop), XC y p l R s m args meth c D K A → XRel D K s A ad M H → va_S A s.heap H locs → XLs ad M.2.2.2.1 lv ls → XSt M.2.2.2.1 st → lv.length = xml y → cells ≤ R.cells → slots ≤ R.slots →
      W p l e R s m args below meth c H locs cells slots Q (F0 m pc' ls (st'.map (tv ad))) → W p l e R s m args below meth c H locs cells slots Q (F0 m pc ls (st.map (tv ad)))) : XG y pc lv st M o M' := by
  refine ⟨hn.1, ?_⟩
  intro p l e R s m args below meth c D K A ad0 k0 c0 w0 ad H locs ls B
  obtain ⟨C, X, hS, hL, hst, hlen, hag, hcw⟩ := B
  have h1 := hn.1
  exact hW p l e R s m args below meth c D K A ad H locs ls _ _ _ C X hS hL hst hlen (by omega) (by omega) (hn.2 p l e R s m args below meth c D K A ad0 k0 c0 w0 ad H locs ls ⟨C, X, hS, hL, hs hst, hlen, hag, hcw⟩)
theorem XSt.tail {k : Nat → Nat} {v : XV} {st : List XV} (h : XSt k (v :: st)) : XSt k st := fun u hu => h u (List.mem_cons_of_mem _ hu)
theorem XSt.head {k : Nat → Nat} {v : XV} {st : List XV} (h : XSt k (v :: st)) : vok k v := h v List.mem_cons_self
theorem XSt.cons {k : Nat → Nat} {v : XV} {st : List XV} (hv : vok k v) (h : XSt k st) : XSt k (v :: st) := fun u hu => by
  rcases List.mem_cons.mp hu with rfl | hu
  · exact hv
  · exact h u hu
