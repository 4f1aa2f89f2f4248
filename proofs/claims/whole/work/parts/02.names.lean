/-! names and tables, by program out of the Statement (wip/whole/gen_parts.py) -/
def CR0 : String := "ChartKnitter"
def CF0 : u_T := fun k => match k with
  | 0 => ("ChartKnitter", "chart", "LChartKnitter$Chart;", true)
  | 1 => ("ChartKnitter", "plan", "LChartKnitter$Plan;", true)
  | 2 => ("ChartKnitter", "machine", "LChartKnitter$Machine;", true)
  | 3 => ("ChartKnitter", "loops", "LChartKnitter$Loops;", true)
  | 4 => ("ChartKnitter", "crossings", "LChartKnitter$Crossings;", true)
  | 5 => ("ChartKnitter", "rows", "[LChartKnitter$Row;", true)
  | 6 => ("ChartKnitter", "lastRow", "I", false)
  | _ => ("ChartKnitter", "faultPlace", "I", false)
def cty0 : Nat → FieldType := fun k => match k with
  | 0 => .object "ChartKnitter$Chart"
  | 1 => .object "ChartKnitter$Plan"
  | 2 => .object "ChartKnitter$Machine"
  | 3 => .object "ChartKnitter$Loops"
  | 4 => .object "ChartKnitter$Crossings"
  | 5 => .array (.object "ChartKnitter$Row")
  | 6 => .int
  | _ => .int
theorem cnm0 : ∀ a, a < 8 → ∀ b, b < 8 → a ≠ b → (CF0 a).2.1 ≠ (CF0 b).2.1 := by decide +kernel
theorem ctyok0 : ∀ k, k < 8 → parseFieldDescriptor (CF0 k).2.2.1 = some (cty0 k) := by decide +kernel
def CR1 : String := "ChartKnitter$Chart"
def CF1 : u_T := fun k => match k with
  | 0 => ("ChartKnitter$Chart", "text", "[I", true)
  | 1 => ("ChartKnitter$Chart", "length", "I", false)
  | 2 => ("ChartKnitter$Chart", "stitches", "[LChartKnitter$Stitch;", true)
  | 3 => ("ChartKnitter$Chart", "stitchCount", "I", false)
  | 4 => ("ChartKnitter$Chart", "taken", "I", false)
  | 5 => ("ChartKnitter$Chart", "given", "I", false)
  | _ => ("ChartKnitter$Chart", "made", "I", false)
def cty1 : Nat → FieldType := fun k => match k with
  | 0 => .array .int
  | 1 => .int
  | 2 => .array (.object "ChartKnitter$Stitch")
  | 3 => .int
  | 4 => .int
  | 5 => .int
  | _ => .int
theorem cnm1 : ∀ a, a < 7 → ∀ b, b < 7 → a ≠ b → (CF1 a).2.1 ≠ (CF1 b).2.1 := by decide +kernel
theorem ctyok1 : ∀ k, k < 7 → parseFieldDescriptor (CF1 k).2.2.1 = some (cty1 k) := by decide +kernel
def CR2 : String := "ChartKnitter$Crossings"
def CF2 : u_T := fun k => match k with
  | 0 => ("ChartKnitter$Crossings", "first", "[I", true)
  | 1 => ("ChartKnitter$Crossings", "left", "[I", true)
  | 2 => ("ChartKnitter$Crossings", "right", "[I", true)
  | _ => ("ChartKnitter$Crossings", "leftInFront", "[I", true)
def cty2 : Nat → FieldType := fun k => match k with
  | 0 => .array .int
  | 1 => .array .int
  | 2 => .array .int
  | _ => .array .int
theorem cnm2 : ∀ a, a < 4 → ∀ b, b < 4 → a ≠ b → (CF2 a).2.1 ≠ (CF2 b).2.1 := by decide +kernel
theorem ctyok2 : ∀ k, k < 4 → parseFieldDescriptor (CF2 k).2.2.1 = some (cty2 k) := by decide +kernel
def CR3 : String := "ChartKnitter$Loops"
def CF3 : u_T := fun k => match k with
  | 0 => ("ChartKnitter$Loops", "row", "[I", true)
  | 1 => ("ChartKnitter$Loops", "column", "[I", true)
  | 2 => ("ChartKnitter$Loops", "bed", "[I", true)
  | 3 => ("ChartKnitter$Loops", "carrier", "[I", true)
  | 4 => ("ChartKnitter$Loops", "where", "[I", true)
  | _ => ("ChartKnitter$Loops", "parents", "[I", true)
def cty3 : Nat → FieldType := fun k => match k with
  | 0 => .array .int
  | 1 => .array .int
  | 2 => .array .int
  | 3 => .array .int
  | 4 => .array .int
  | _ => .array .int
theorem cnm3 : ∀ a, a < 6 → ∀ b, b < 6 → a ≠ b → (CF3 a).2.1 ≠ (CF3 b).2.1 := by decide +kernel
theorem ctyok3 : ∀ k, k < 6 → parseFieldDescriptor (CF3 k).2.2.1 = some (cty3 k) := by decide +kernel
def CR4 : String := "ChartKnitter$Machine"
def CF4 : u_T := fun k => match k with
  | 0 => ("ChartKnitter$Machine", "rack", "I", false)
  | 1 => ("ChartKnitter$Machine", "transfers", "I", false)
  | _ => ("ChartKnitter$Machine", "rackings", "I", false)
def cty4 : Nat → FieldType := fun k => match k with
  | 0 => .int
  | 1 => .int
  | _ => .int
theorem cnm4 : ∀ a, a < 3 → ∀ b, b < 3 → a ≠ b → (CF4 a).2.1 ≠ (CF4 b).2.1 := by decide +kernel
theorem ctyok4 : ∀ k, k < 3 → parseFieldDescriptor (CF4 k).2.2.1 = some (cty4 k) := by decide +kernel
def CR5 : String := "ChartKnitter$Plan"
def CF5 : u_T := fun k => match k with
  | 0 => ("ChartKnitter$Plan", "columns", "I", false)
  | 1 => ("ChartKnitter$Plan", "takers", "[LChartKnitter$Stitch;", true)
  | 2 => ("ChartKnitter$Plan", "goals", "[I", true)
  | 3 => ("ChartKnitter$Plan", "late", "[Z", true)
  | _ => ("ChartKnitter$Plan", "givers", "[LChartKnitter$Stitch;", true)
def cty5 : Nat → FieldType := fun k => match k with
  | 0 => .int
  | 1 => .array (.object "ChartKnitter$Stitch")
  | 2 => .array .int
  | 3 => .array .boolean
  | _ => .array (.object "ChartKnitter$Stitch")
theorem cnm5 : ∀ a, a < 5 → ∀ b, b < 5 → a ≠ b → (CF5 a).2.1 ≠ (CF5 b).2.1 := by decide +kernel
theorem ctyok5 : ∀ k, k < 5 → parseFieldDescriptor (CF5 k).2.2.1 = some (cty5 k) := by decide +kernel
def CR6 : String := "ChartKnitter$Row"
def CF6 : u_T := fun k => match k with
  | 0 => ("ChartKnitter$Row", "columns", "I", false)
  | 1 => ("ChartKnitter$Row", "stacks", "[I", true)
  | 2 => ("ChartKnitter$Row", "sizes", "[I", true)
  | 3 => ("ChartKnitter$Row", "beds", "[I", true)
  | 4 => ("ChartKnitter$Row", "sides", "[I", true)
  | 5 => ("ChartKnitter$Row", "loops", "I", false)
  | 6 => ("ChartKnitter$Row", "dropped", "I", false)
  | 7 => ("ChartKnitter$Row", "crossings", "I", false)
  | 8 => ("ChartKnitter$Row", "transfers", "I", false)
  | 9 => ("ChartKnitter$Row", "rackings", "I", false)
  | 10 => ("ChartKnitter$Row", "released", "I", false)
  | 11 => ("ChartKnitter$Row", "made", "I", false)
  | _ => ("ChartKnitter$Row", "crossedPairs", "I", false)
def cty6 : Nat → FieldType := fun k => match k with
  | 0 => .int
  | 1 => .array .int
  | 2 => .array .int
  | 3 => .array .int
  | 4 => .array .int
  | 5 => .int
  | 6 => .int
  | 7 => .int
  | 8 => .int
  | 9 => .int
  | 10 => .int
  | 11 => .int
  | _ => .int
theorem cnm6 : ∀ a, a < 13 → ∀ b, b < 13 → a ≠ b → (CF6 a).2.1 ≠ (CF6 b).2.1 := by decide +kernel
theorem ctyok6 : ∀ k, k < 13 → parseFieldDescriptor (CF6 k).2.2.1 = some (cty6 k) := by decide +kernel
def CR7 : String := "ChartKnitter$Stitch"
def CF7 : u_T := fun k => match k with
  | 0 => ("ChartKnitter$Stitch", "sign", "I", false)
  | 1 => ("ChartKnitter$Stitch", "at", "I", false)
  | 2 => ("ChartKnitter$Stitch", "left", "I", false)
  | 3 => ("ChartKnitter$Stitch", "right", "I", false)
  | 4 => ("ChartKnitter$Stitch", "firstTaken", "I", false)
  | _ => ("ChartKnitter$Stitch", "firstGiven", "I", false)
def cty7 : Nat → FieldType := fun k => match k with
  | 0 => .int
  | 1 => .int
  | 2 => .int
  | 3 => .int
  | 4 => .int
  | _ => .int
theorem cnm7 : ∀ a, a < 6 → ∀ b, b < 6 → a ≠ b → (CF7 a).2.1 ≠ (CF7 b).2.1 := by decide +kernel
theorem ctyok7 : ∀ k, k < 6 → parseFieldDescriptor (CF7 k).2.2.1 = some (cty7 k) := by decide +kernel
def CR8 : String := "ChartKnitterModel"
def CF8 : u_T := fun k => match k with
  | 0 => ("ChartKnitterModel", "thrown", "I", false)
  | 1 => ("ChartKnitterModel", "text", "[I", true)
  | 2 => ("ChartKnitterModel", "length", "I", false)
  | 3 => ("ChartKnitterModel", "told", "I", false)
  | 4 => ("ChartKnitterModel", "cast", "Z", false)
  | 5 => ("ChartKnitterModel", "rows", "I", false)
  | 6 => ("ChartKnitterModel", "stacks", "[I", true)
  | 7 => ("ChartKnitterModel", "sizes", "[I", true)
  | 8 => ("ChartKnitterModel", "beds", "[I", true)
  | 9 => ("ChartKnitterModel", "columns", "[I", true)
  | 10 => ("ChartKnitterModel", "loops", "[I", true)
  | 11 => ("ChartKnitterModel", "drops", "[I", true)
  | 12 => ("ChartKnitterModel", "sides", "[I", true)
  | 13 => ("ChartKnitterModel", "texts", "[I", true)
  | 14 => ("ChartKnitterModel", "lengths", "[I", true)
  | 15 => ("ChartKnitterModel", "programs", "[I", true)
  | 16 => ("ChartKnitterModel", "parents", "[I", true)
  | 17 => ("ChartKnitterModel", "many", "[I", true)
  | 18 => ("ChartKnitterModel", "rowOf", "[I", true)
  | 19 => ("ChartKnitterModel", "columnOf", "[I", true)
  | 20 => ("ChartKnitterModel", "bedOf", "[I", true)
  | 21 => ("ChartKnitterModel", "carrierOf", "[I", true)
  | 22 => ("ChartKnitterModel", "droppedIn", "[I", true)
  | 23 => ("ChartKnitterModel", "count", "I", false)
  | 24 => ("ChartKnitterModel", "kind", "[I", true)
  | 25 => ("ChartKnitterModel", "at", "[I", true)
  | 26 => ("ChartKnitterModel", "left", "[I", true)
  | 27 => ("ChartKnitterModel", "right", "[I", true)
  | 28 => ("ChartKnitterModel", "goal", "[I", true)
  | 29 => ("ChartKnitterModel", "late", "[Z", true)
  | 30 => ("ChartKnitterModel", "must", "[I", true)
  | 31 => ("ChartKnitterModel", "charOf", "[I", true)
  | 32 => ("ChartKnitterModel", "by", "[I", true)
  | 33 => ("ChartKnitterModel", "sources", "[I", true)
  | _ => ("ChartKnitterModel", "source", "[I", true)
def cty8 : Nat → FieldType := fun k => match k with
  | 0 => .int
  | 1 => .array .int
  | 2 => .int
  | 3 => .int
  | 4 => .boolean
  | 5 => .int
  | 6 => .array .int
  | 7 => .array .int
  | 8 => .array .int
  | 9 => .array .int
  | 10 => .array .int
  | 11 => .array .int
  | 12 => .array .int
  | 13 => .array .int
  | 14 => .array .int
  | 15 => .array .int
  | 16 => .array .int
  | 17 => .array .int
  | 18 => .array .int
  | 19 => .array .int
  | 20 => .array .int
  | 21 => .array .int
  | 22 => .array .int
  | 23 => .int
  | 24 => .array .int
  | 25 => .array .int
  | 26 => .array .int
  | 27 => .array .int
  | 28 => .array .int
  | 29 => .array .boolean
  | 30 => .array .int
  | 31 => .array .int
  | 32 => .array .int
  | 33 => .array .int
  | _ => .array .int
theorem cnm8 : ∀ a, a < 35 → ∀ b, b < 35 → a ≠ b → (CF8 a).2.1 ≠ (CF8 b).2.1 := by decide +kernel
theorem ctyok8 : ∀ k, k < 35 → parseFieldDescriptor (CF8 k).2.2.1 = some (cty8 k) := by decide +kernel
abbrev xcl : List vw_C := [(CR0, CF0, 8), (CR1, CF1, 7), (CR2, CF2, 4), (CR3, CF3, 6), (CR4, CF4, 3), (CR5, CF5, 5), (CR6, CF6, 13), (CR7, CF7, 6), (CR8, CF8, 35)]
def xkt (t : Nat) : Nat := if t < 31 then (if t < 15 then (if t < 7 then (if t < 3 then (if t < 1 then (5) else (if t < 2 then (0) else (0))) else (if t < 5 then (if t < 4 then (3) else (0)) else (if t < 6 then (0) else (0)))) else (if t < 11 then (if t < 9 then (if t < 8 then (0) else (0)) else (if t < 10 then (4) else (0))) else (if t < 13 then (if t < 12 then (1) else (4)) else (if t < 14 then (0) else (4))))) else (if t < 23 then (if t < 19 then (if t < 17 then (if t < 16 then (1) else (2)) else (if t < 18 then (4) else (0))) else (if t < 21 then (if t < 20 then (1) else (1)) else (if t < 22 then (1) else (1)))) else (if t < 27 then (if t < 25 then (if t < 24 then (1) else (1)) else (if t < 26 then (1) else (1))) else (if t < 29 then (if t < 28 then (1) else (1)) else (if t < 30 then (1) else (1)))))) else (if t < 47 then (if t < 39 then (if t < 35 then (if t < 33 then (if t < 32 then (1) else (1)) else (if t < 34 then (1) else (1))) else (if t < 37 then (if t < 36 then (1) else (1)) else (if t < 38 then (1) else (1)))) else (if t < 43 then (if t < 41 then (if t < 40 then (1) else (1)) else (if t < 42 then (1) else (1))) else (if t < 45 then (if t < 44 then (1) else (1)) else (if t < 46 then (1) else (1))))) else (if t < 55 then (if t < 51 then (if t < 49 then (if t < 48 then (1) else (1)) else (if t < 50 then (1) else (1))) else (if t < 53 then (if t < 52 then (1) else (1)) else (if t < 54 then (1) else (1)))) else (if t < 59 then (if t < 57 then (if t < 56 then (1) else (2)) else (if t < 58 then (1) else (1))) else (if t < 61 then (if t < 60 then (1) else (1)) else (if t < 62 then (1) else (9))))))
def xkn (t : Nat) : Nat := if t < 31 then (if t < 15 then (if t < 7 then (if t < 3 then (if t < 1 then (0) else (if t < 2 then (8) else (35))) else (if t < 5 then (if t < 4 then (1) else (7)) else (if t < 6 then (5) else (3)))) else (if t < 11 then (if t < 9 then (if t < 8 then (6) else (4)) else (if t < 10 then (21) else (13))) else (if t < 13 then (if t < 12 then (40) else (40)) else (if t < 14 then (6) else (16))))) else (if t < 23 then (if t < 19 then (if t < 17 then (if t < 16 then (16) else (16)) else (if t < 18 then (16) else (6))) else (if t < 21 then (if t < 20 then (64) else (16)) else (if t < 22 then (16) else (3)))) else (if t < 27 then (if t < 25 then (if t < 24 then (300) else (300)) else (if t < 26 then (300) else (300))) else (if t < 29 then (if t < 28 then (300) else (1200)) else (if t < 30 then (160) else (160)))))) else (if t < 47 then (if t < 39 then (if t < 35 then (if t < 33 then (if t < 32 then (160) else (160)) else (if t < 34 then (40) else (1344))) else (if t < 37 then (if t < 36 then (336) else (336)) else (if t < 38 then (21) else (21)))) else (if t < 43 then (if t < 41 then (if t < 40 then (21) else (63)) else (if t < 42 then (840) else (21))) else (if t < 45 then (if t < 44 then (84) else (1200)) else (if t < 46 then (300) else (300))))) else (if t < 55 then (if t < 51 then (if t < 49 then (if t < 48 then (300) else (300)) else (if t < 50 then (300) else (300))) else (if t < 53 then (if t < 52 then (40) else (40)) else (if t < 54 then (40) else (40)))) else (if t < 59 then (if t < 57 then (if t < 56 then (16) else (16)) else (if t < 58 then (16) else (16))) else (if t < 61 then (if t < 60 then (16) else (16)) else (if t < 62 then (48) else (0))))))
def xkc (t : Nat) : Nat := if t < 31 then (if t < 15 then (if t < 7 then (if t < 3 then (if t < 1 then (0) else (if t < 2 then (0) else (8))) else (if t < 5 then (if t < 4 then (0) else (1)) else (if t < 6 then (5) else (4)))) else (if t < 11 then (if t < 9 then (if t < 8 then (3) else (2)) else (if t < 10 then (6) else (6))) else (if t < 13 then (if t < 12 then (0) else (7)) else (if t < 14 then (7) else (7))))) else (if t < 23 then (if t < 19 then (if t < 17 then (if t < 16 then (0) else (0)) else (if t < 18 then (7) else (7))) else (if t < 21 then (if t < 20 then (0) else (0)) else (if t < 22 then (0) else (0)))) else (if t < 27 then (if t < 25 then (if t < 24 then (0) else (0)) else (if t < 26 then (0) else (0))) else (if t < 29 then (if t < 28 then (0) else (0)) else (if t < 30 then (0) else (0)))))) else (if t < 47 then (if t < 39 then (if t < 35 then (if t < 33 then (if t < 32 then (0) else (0)) else (if t < 34 then (0) else (0))) else (if t < 37 then (if t < 36 then (0) else (0)) else (if t < 38 then (0) else (0)))) else (if t < 43 then (if t < 41 then (if t < 40 then (0) else (0)) else (if t < 42 then (0) else (0))) else (if t < 45 then (if t < 44 then (0) else (0)) else (if t < 46 then (0) else (0))))) else (if t < 55 then (if t < 51 then (if t < 49 then (if t < 48 then (0) else (0)) else (if t < 50 then (0) else (0))) else (if t < 53 then (if t < 52 then (0) else (0)) else (if t < 54 then (0) else (0)))) else (if t < 59 then (if t < 57 then (if t < 56 then (0) else (0)) else (if t < 58 then (0) else (0))) else (if t < 61 then (if t < 60 then (0) else (0)) else (if t < 62 then (0) else (0))))))
def xst (ci k : Nat) : Nat := if ci < 4 then (if ci < 2 then (if ci < 1 then ((if k < 4 then (if k < 2 then (if k < 1 then (1) else (1)) else (if k < 3 then (1) else (1))) else (if k < 6 then (if k < 5 then (1) else (1)) else (if k < 7 then (0) else (0))))) else ((if k < 3 then (if k < 1 then (1) else (if k < 2 then (0) else (1))) else (if k < 5 then (if k < 4 then (0) else (0)) else (if k < 6 then (0) else (0)))))) else (if ci < 3 then ((if k < 2 then (if k < 1 then (1) else (1)) else (if k < 3 then (1) else (1)))) else ((if k < 3 then (if k < 1 then (1) else (if k < 2 then (1) else (1))) else (if k < 4 then (1) else (if k < 5 then (1) else (1))))))) else (if ci < 6 then (if ci < 5 then ((if k < 1 then (0) else (if k < 2 then (0) else (0)))) else ((if k < 2 then (if k < 1 then (0) else (1)) else (if k < 3 then (1) else (if k < 4 then (1) else (1)))))) else (if ci < 7 then ((if k < 6 then (if k < 3 then (if k < 1 then (0) else (if k < 2 then (1) else (1))) else (if k < 4 then (1) else (if k < 5 then (1) else (0)))) else (if k < 9 then (if k < 7 then (0) else (if k < 8 then (0) else (0))) else (if k < 11 then (if k < 10 then (0) else (0)) else (if k < 12 then (0) else (0)))))) else (if ci < 8 then ((if k < 3 then (if k < 1 then (0) else (if k < 2 then (0) else (0))) else (if k < 4 then (0) else (if k < 5 then (0) else (0))))) else ((if k < 17 then (if k < 8 then (if k < 4 then (if k < 2 then (if k < 1 then (0) else (1)) else (if k < 3 then (0) else (0))) else (if k < 6 then (if k < 5 then (2) else (0)) else (if k < 7 then (1) else (1)))) else (if k < 12 then (if k < 10 then (if k < 9 then (1) else (1)) else (if k < 11 then (1) else (1))) else (if k < 14 then (if k < 13 then (1) else (1)) else (if k < 15 then (1) else (if k < 16 then (1) else (1)))))) else (if k < 26 then (if k < 21 then (if k < 19 then (if k < 18 then (1) else (1)) else (if k < 20 then (1) else (1))) else (if k < 23 then (if k < 22 then (1) else (1)) else (if k < 24 then (0) else (if k < 25 then (1) else (1))))) else (if k < 30 then (if k < 28 then (if k < 27 then (1) else (1)) else (if k < 29 then (1) else (1))) else (if k < 32 then (if k < 31 then (1) else (1)) else (if k < 33 then (1) else (if k < 34 then (1) else (1)))))))))))
def xka (ci : Nat) : Nat := if ci = 7 then 3 else 4
def xtys (K : Nat → ClassId) : List (ClassId × FieldType) := [(K 0, .int), (K 1, .boolean), (K 2, .long), (K 3, .object CR7), (K 4, .object CR6)]
theorem xkn_ok : ∀ t, xkt t = 0 → (xcl[xkc t]?).map (fun r => r.2.2) = some (xkn t) := by
  intro t h
  by_cases ht : t < 62
  · revert h; revert t; decide +kernel
  · exfalso; revert h; unfold xkt; have h1 : 62 ≤ t := by omega
    repeat (rw [if_neg (by omega)])
    decide
theorem xkc_arr : ∀ t, xkt t = 4 → xkc t = 7 ∨ xkc t = 6 := by
  intro t h
  by_cases ht : t < 62
  · revert h; revert t; decide +kernel
  · exfalso; revert h; unfold xkt; have h1 : 62 ≤ t := by omega
    repeat (rw [if_neg (by omega)])
    decide
theorem xka_ok (K : Nat → ClassId) (ci : Nat) (h : ci = 7 ∨ ci = 6) : ∃ C, (xtys K)[xka ci]? = some (K (xka ci), .object C) := by
  rcases h with rfl | rfl
  · exact ⟨CR7, rfl⟩
  · exact ⟨CR6, rfl⟩
theorem xka_cl (K : Nat → ClassId) (ci : Nat) (h : ci = 7 ∨ ci = 6) : ∃ r : vw_C, xcl[ci]? = some r ∧ (xtys K)[xka ci]? = some (K (xka ci), .object r.1) := by
  rcases h with rfl | rfl
  · exact ⟨(CR7, CF7, 6), rfl, rfl⟩
  · exact ⟨(CR6, CF6, 13), rfl, rfl⟩
def CRLaw : String := "ChartKnitterLaw"
def y_CK_init : MethodName := ⟨CR0, "<init>", "()V"⟩
def y_CK_write : MethodName := ⟨CR0, "write", "(J)I"⟩
def y_CK_wipe : MethodName := ⟨CR0, "wipe", "()I"⟩
def y_CK_castOn : MethodName := ⟨CR0, "castOn", "(I)V"⟩
def y_CK_knit : MethodName := ⟨CR0, "knit", "(I)I"⟩
def y_CK_place : MethodName := ⟨CR0, "place", "()I"⟩
def y_CK_ravel : MethodName := ⟨CR0, "ravel", "()I"⟩
def y_CK_number : MethodName := ⟨CR0, "number", "(I)I"⟩
def y_CK_program : MethodName := ⟨CR0, "program", "(II)I"⟩
def y_CK_parent : MethodName := ⟨CR0, "parent", "(II)I"⟩
def y_CK_loop : MethodName := ⟨CR0, "loop", "(II)I"⟩
def y_CK_cross : MethodName := ⟨CR0, "cross", "(II)I"⟩
def y_CK_live : MethodName := ⟨CR0, "live", "(II)I"⟩
def y_CK_bed : MethodName := ⟨CR0, "bed", "(I)I"⟩
def y_CK_side : MethodName := ⟨CR0, "side", "(I)I"⟩
def y_CK_isKnitted : MethodName := ⟨CR0, "isKnitted", "(I)Z"⟩
def y_CK_isLoop : MethodName := ⟨CR0, "isLoop", "(I)Z"⟩
def y_CK_isCarrier : MethodName := ⟨CR0, "isCarrier", "(I)Z"⟩
def y_CK_byteOf : MethodName := ⟨CR0, "byteOf", "(JI)I"⟩
def y_CK_endOf : MethodName := ⟨CR0, "endOf", "(I)I"⟩
def y_CK_faultOfChart : MethodName := ⟨CR0, "faultOfChart", "()I"⟩
def y_CK_faultOfRow : MethodName := ⟨CR0, "faultOfRow", "(I)I"⟩
def y_CK_knitNextRow : MethodName := ⟨CR0, "knitNextRow", "(I)V"⟩
def y_CK_release : MethodName := ⟨CR0, "release", "(LChartKnitter$Row;LChartKnitter$Row;)V"⟩
def y_CK_bringToGoals : MethodName := ⟨CR0, "bringToGoals", "(LChartKnitter$Row;LChartKnitter$Row;Z)V"⟩
def y_CK_noteCrossings : MethodName := ⟨CR0, "noteCrossings", "(LChartKnitter$Row;LChartKnitter$Row;)V"⟩
def y_CK_makeLoops : MethodName := ⟨CR0, "makeLoops", "(LChartKnitter$Row;LChartKnitter$Row;I)V"⟩
def y_CK_drawThrough : MethodName := ⟨CR0, "drawThrough", "(LChartKnitter$Row;II)V"⟩
def y_Chart_init : MethodName := ⟨CR1, "<init>", "()V"⟩
def y_Chart_read : MethodName := ⟨CR1, "read", "()I"⟩
def y_Chart_digitAt : MethodName := ⟨CR1, "digitAt", "(I)I"⟩
def y_Chart_add : MethodName := ⟨CR1, "add", "(IZ)V"⟩
def y_Chart_placeOfOverfull : MethodName := ⟨CR1, "placeOfOverfull", "(LChartKnitter$Row;)I"⟩
def y_Crossings_init : MethodName := ⟨CR2, "<init>", "()V"⟩
def y_Crossings_note : MethodName := ⟨CR2, "note", "(ILChartKnitter$Stitch;)V"⟩
def y_Crossings_pairs : MethodName := ⟨CR2, "pairs", "(ILChartKnitter$Row;)I"⟩
def y_Crossings_pairAt : MethodName := ⟨CR2, "pairAt", "(ILChartKnitter$Row;I)I"⟩
def y_Crossings_loopsIn : MethodName := ⟨CR2, "loopsIn", "(LChartKnitter$Row;II)I"⟩
def y_Crossings_loopIn : MethodName := ⟨CR2, "loopIn", "(LChartKnitter$Row;III)I"⟩
def y_Loops_init : MethodName := ⟨CR3, "<init>", "()V"⟩
def y_Loops_make : MethodName := ⟨CR3, "make", "(IIIII)V"⟩
def y_Machine_init : MethodName := ⟨CR4, "<init>", "()V"⟩
def y_Machine_run : MethodName := ⟨CR4, "run", "(LChartKnitter$Plan;LChartKnitter$Row;)V"⟩
def y_Machine_clearFront : MethodName := ⟨CR4, "clearFront", "(LChartKnitter$Plan;LChartKnitter$Row;)V"⟩
def y_Machine_moveToGoals : MethodName := ⟨CR4, "moveToGoals", "(LChartKnitter$Plan;Z)V"⟩
def y_Machine_fillBack : MethodName := ⟨CR4, "fillBack", "(LChartKnitter$Plan;LChartKnitter$Row;)V"⟩
def y_Machine_changeBeds : MethodName := ⟨CR4, "changeBeds", "(LChartKnitter$Plan;LChartKnitter$Row;)V"⟩
def y_Machine_transfer : MethodName := ⟨CR4, "transfer", "(I)V"⟩
def y_Machine_rackTo : MethodName := ⟨CR4, "rackTo", "(I)V"⟩
def y_Plan_init : MethodName := ⟨CR5, "<init>", "()V"⟩
def y_Plan_make : MethodName := ⟨CR5, "make", "(LChartKnitter$Chart;)V"⟩
def y_Plan_placeOfTooFar : MethodName := ⟨CR5, "placeOfTooFar", "()I"⟩
def y_Plan_movesColumns : MethodName := ⟨CR5, "movesColumns", "()Z"⟩
def y_Row_init : MethodName := ⟨CR6, "<init>", "()V"⟩
def y_Row_begin : MethodName := ⟨CR6, "begin", "(I)V"⟩
def y_Row_hasColumn : MethodName := ⟨CR6, "hasColumn", "(I)Z"⟩
def y_Row_loopAt : MethodName := ⟨CR6, "loopAt", "(II)I"⟩
def y_Row_push : MethodName := ⟨CR6, "push", "(II)V"⟩
def y_Stitch_init : MethodName := ⟨CR7, "<init>", "()V"⟩
def y_Stitch_isSign : MethodName := ⟨CR7, "isSign", "(I)Z"⟩
def y_Stitch_isCrossingSign : MethodName := ⟨CR7, "isCrossingSign", "(I)Z"⟩
def y_Stitch_isCrossing : MethodName := ⟨CR7, "isCrossing", "()Z"⟩
def y_Stitch_takes : MethodName := ⟨CR7, "takes", "()I"⟩
def y_Stitch_gives : MethodName := ⟨CR7, "gives", "()I"⟩
def y_Stitch_makesLoop : MethodName := ⟨CR7, "makesLoop", "()Z"⟩
def y_Stitch_keepsStack : MethodName := ⟨CR7, "keepsStack", "()Z"⟩
def y_Stitch_goalOf : MethodName := ⟨CR7, "goalOf", "(I)I"⟩
def y_Stitch_isLate : MethodName := ⟨CR7, "isLate", "(I)Z"⟩
def y_Stitch_bedNeeded : MethodName := ⟨CR7, "bedNeeded", "(LChartKnitter$Row;)I"⟩
def y_Model_init : MethodName := ⟨CR8, "<init>", "()V"⟩
def y_Model_thrown : MethodName := ⟨CR8, "thrown", "()I"⟩
def y_Model_write : MethodName := ⟨CR8, "write", "(J)I"⟩
def y_Model_wipe : MethodName := ⟨CR8, "wipe", "()I"⟩
def y_Model_isPlain : MethodName := ⟨CR8, "isPlain", "(I)Z"⟩
def y_Model_isFigure : MethodName := ⟨CR8, "isFigure", "(I)Z"⟩
def y_Model_parse : MethodName := ⟨CR8, "parse", "([III)I"⟩
def y_Model_takes : MethodName := ⟨CR8, "takes", "(I)I"⟩
def y_Model_gives : MethodName := ⟨CR8, "gives", "(I)I"⟩
def y_Model_fault : MethodName := ⟨CR8, "fault", "(II)I"⟩
def y_Model_size : MethodName := ⟨CR8, "size", "(I)I"⟩
def y_Model_crowded : MethodName := ⟨CR8, "crowded", "()I"⟩
def y_Model_take : MethodName := ⟨CR8, "take", "(IIIZI)V"⟩
def y_Model_give : MethodName := ⟨CR8, "give", "(III)V"⟩
def y_Model_join : MethodName := ⟨CR8, "join", "(III)V"⟩
def y_Model_cable : MethodName := ⟨CR8, "cable", "(III)V"⟩
def y_Model_plan : MethodName := ⟨CR8, "plan", "()V"⟩
def y_Model_areMoved : MethodName := ⟨CR8, "areMoved", "()Z"⟩
def y_Model_tooFar : MethodName := ⟨CR8, "tooFar", "()I"⟩
def y_Model_makes : MethodName := ⟨CR8, "makes", "(I)I"⟩
def y_Model_transfers : MethodName := ⟨CR8, "transfers", "()I"⟩
def y_Model_rackings : MethodName := ⟨CR8, "rackings", "()I"⟩
def y_Model_released : MethodName := ⟨CR8, "released", "()I"⟩
def y_Model_make : MethodName := ⟨CR8, "make", "(II)V"⟩
def y_Model_drop : MethodName := ⟨CR8, "drop", "()V"⟩
def y_Model_knitRow : MethodName := ⟨CR8, "knitRow", "(II)V"⟩
def y_Model_knit : MethodName := ⟨CR8, "knit", "(I)I"⟩
def y_Model_place : MethodName := ⟨CR8, "place", "()I"⟩
def y_Model_castOn : MethodName := ⟨CR8, "castOn", "(I)V"⟩
def y_Model_ravel : MethodName := ⟨CR8, "ravel", "()I"⟩
def y_Model_number : MethodName := ⟨CR8, "number", "(I)I"⟩
def y_Model_noRow : MethodName := ⟨CR8, "noRow", "(I)Z"⟩
def y_Model_noLoop : MethodName := ⟨CR8, "noLoop", "(I)Z"⟩
def y_Model_pair : MethodName := ⟨CR8, "pair", "(II)I"⟩
def y_Model_program : MethodName := ⟨CR8, "program", "(II)I"⟩
def y_Model_parent : MethodName := ⟨CR8, "parent", "(II)I"⟩
def y_Model_whereIs : MethodName := ⟨CR8, "whereIs", "(I)I"⟩
def y_Model_loop : MethodName := ⟨CR8, "loop", "(II)I"⟩
def y_Model_cross : MethodName := ⟨CR8, "cross", "(II)I"⟩
def y_Model_live : MethodName := ⟨CR8, "live", "(II)I"⟩
def y_Model_bed : MethodName := ⟨CR8, "bed", "(I)I"⟩
def y_Model_side : MethodName := ⟨CR8, "side", "(I)I"⟩
def y_Law_castOn : MethodName := ⟨CRLaw, "castOn", "(LChartKnitter;I)I"⟩
def y_Law_knit : MethodName := ⟨CRLaw, "knit", "(LChartKnitter;I[J)I"⟩
def y_Law_program : MethodName := ⟨CRLaw, "program", "(LChartKnitter;II[J)I"⟩
def y_Law_parent : MethodName := ⟨CRLaw, "parent", "(LChartKnitter;II[J)I"⟩
def y_Law_loop : MethodName := ⟨CRLaw, "loop", "(LChartKnitter;II[J)I"⟩
def y_Law_cross : MethodName := ⟨CRLaw, "cross", "(LChartKnitter;II[J)I"⟩
def y_Law_law : MethodName := ⟨CRLaw, "law", "([I)Z"⟩
def xyn (y : Nat) : MethodName := if y < 59 then (if y < 29 then (if y < 14 then (if y < 7 then (if y < 3 then (if y < 1 then (y_CK_init) else (if y < 2 then (y_CK_write) else (y_CK_wipe))) else (if y < 5 then (if y < 4 then (y_CK_castOn) else (y_CK_knit)) else (if y < 6 then (y_CK_place) else (y_CK_ravel)))) else (if y < 10 then (if y < 8 then (y_CK_number) else (if y < 9 then (y_CK_program) else (y_CK_parent))) else (if y < 12 then (if y < 11 then (y_CK_loop) else (y_CK_cross)) else (if y < 13 then (y_CK_live) else (y_CK_bed))))) else (if y < 21 then (if y < 17 then (if y < 15 then (y_CK_side) else (if y < 16 then (y_CK_isKnitted) else (y_CK_isLoop))) else (if y < 19 then (if y < 18 then (y_CK_isCarrier) else (y_CK_byteOf)) else (if y < 20 then (y_CK_endOf) else (y_CK_faultOfChart)))) else (if y < 25 then (if y < 23 then (if y < 22 then (y_CK_faultOfRow) else (y_CK_knitNextRow)) else (if y < 24 then (y_CK_release) else (y_CK_bringToGoals))) else (if y < 27 then (if y < 26 then (y_CK_noteCrossings) else (y_CK_makeLoops)) else (if y < 28 then (y_CK_drawThrough) else (y_Chart_init)))))) else (if y < 44 then (if y < 36 then (if y < 32 then (if y < 30 then (y_Chart_read) else (if y < 31 then (y_Chart_digitAt) else (y_Chart_add))) else (if y < 34 then (if y < 33 then (y_Chart_placeOfOverfull) else (y_Crossings_init)) else (if y < 35 then (y_Crossings_note) else (y_Crossings_pairs)))) else (if y < 40 then (if y < 38 then (if y < 37 then (y_Crossings_pairAt) else (y_Crossings_loopsIn)) else (if y < 39 then (y_Crossings_loopIn) else (y_Loops_init))) else (if y < 42 then (if y < 41 then (y_Loops_make) else (y_Machine_init)) else (if y < 43 then (y_Machine_run) else (y_Machine_clearFront))))) else (if y < 51 then (if y < 47 then (if y < 45 then (y_Machine_moveToGoals) else (if y < 46 then (y_Machine_fillBack) else (y_Machine_changeBeds))) else (if y < 49 then (if y < 48 then (y_Machine_transfer) else (y_Machine_rackTo)) else (if y < 50 then (y_Plan_init) else (y_Plan_make)))) else (if y < 55 then (if y < 53 then (if y < 52 then (y_Plan_placeOfTooFar) else (y_Plan_movesColumns)) else (if y < 54 then (y_Row_init) else (y_Row_begin))) else (if y < 57 then (if y < 56 then (y_Row_hasColumn) else (y_Row_loopAt)) else (if y < 58 then (y_Row_push) else (y_Stitch_init))))))) else (if y < 89 then (if y < 74 then (if y < 66 then (if y < 62 then (if y < 60 then (y_Stitch_isSign) else (if y < 61 then (y_Stitch_isCrossingSign) else (y_Stitch_isCrossing))) else (if y < 64 then (if y < 63 then (y_Stitch_takes) else (y_Stitch_gives)) else (if y < 65 then (y_Stitch_makesLoop) else (y_Stitch_keepsStack)))) else (if y < 70 then (if y < 68 then (if y < 67 then (y_Stitch_goalOf) else (y_Stitch_isLate)) else (if y < 69 then (y_Stitch_bedNeeded) else (y_Model_init))) else (if y < 72 then (if y < 71 then (y_Model_thrown) else (y_Model_write)) else (if y < 73 then (y_Model_wipe) else (y_Model_isPlain))))) else (if y < 81 then (if y < 77 then (if y < 75 then (y_Model_isFigure) else (if y < 76 then (y_Model_parse) else (y_Model_takes))) else (if y < 79 then (if y < 78 then (y_Model_gives) else (y_Model_fault)) else (if y < 80 then (y_Model_size) else (y_Model_crowded)))) else (if y < 85 then (if y < 83 then (if y < 82 then (y_Model_take) else (y_Model_give)) else (if y < 84 then (y_Model_join) else (y_Model_cable))) else (if y < 87 then (if y < 86 then (y_Model_plan) else (y_Model_areMoved)) else (if y < 88 then (y_Model_tooFar) else (y_Model_makes)))))) else (if y < 104 then (if y < 96 then (if y < 92 then (if y < 90 then (y_Model_transfers) else (if y < 91 then (y_Model_rackings) else (y_Model_released))) else (if y < 94 then (if y < 93 then (y_Model_make) else (y_Model_drop)) else (if y < 95 then (y_Model_knitRow) else (y_Model_knit)))) else (if y < 100 then (if y < 98 then (if y < 97 then (y_Model_place) else (y_Model_castOn)) else (if y < 99 then (y_Model_ravel) else (y_Model_number))) else (if y < 102 then (if y < 101 then (y_Model_noRow) else (y_Model_noLoop)) else (if y < 103 then (y_Model_pair) else (y_Model_program))))) else (if y < 111 then (if y < 107 then (if y < 105 then (y_Model_parent) else (if y < 106 then (y_Model_whereIs) else (y_Model_loop))) else (if y < 109 then (if y < 108 then (y_Model_cross) else (y_Model_live)) else (if y < 110 then (y_Model_bed) else (y_Model_side)))) else (if y < 115 then (if y < 113 then (if y < 112 then (y_Law_castOn) else (y_Law_knit)) else (if y < 114 then (y_Law_program) else (y_Law_parent))) else (if y < 117 then (if y < 116 then (y_Law_loop) else (y_Law_cross)) else (if y < 118 then (y_Law_law) else (y_CK_init)))))))
def xby (y : Nat) : ByteArray := if y < 59 then (if y < 29 then (if y < 14 then (if y < 7 then (if y < 3 then (if y < 1 then (prog_1_method_1_code) else (if y < 2 then (prog_1_method_2_code) else (prog_1_method_3_code))) else (if y < 5 then (if y < 4 then (prog_1_method_4_code) else (prog_1_method_5_code)) else (if y < 6 then (prog_1_method_6_code) else (prog_1_method_7_code)))) else (if y < 10 then (if y < 8 then (prog_1_method_8_code) else (if y < 9 then (prog_1_method_9_code) else (prog_1_method_10_code))) else (if y < 12 then (if y < 11 then (prog_1_method_11_code) else (prog_1_method_12_code)) else (if y < 13 then (prog_1_method_13_code) else (prog_1_method_14_code))))) else (if y < 21 then (if y < 17 then (if y < 15 then (prog_1_method_15_code) else (if y < 16 then (prog_1_method_16_code) else (prog_1_method_17_code))) else (if y < 19 then (if y < 18 then (prog_1_method_18_code) else (prog_1_method_19_code)) else (if y < 20 then (prog_1_method_20_code) else (prog_1_method_21_code)))) else (if y < 25 then (if y < 23 then (if y < 22 then (prog_1_method_22_code) else (prog_1_method_23_code)) else (if y < 24 then (prog_1_method_24_code) else (prog_1_method_25_code))) else (if y < 27 then (if y < 26 then (prog_1_method_26_code) else (prog_1_method_27_code)) else (if y < 28 then (prog_1_method_28_code) else (prog_2_method_1_code)))))) else (if y < 44 then (if y < 36 then (if y < 32 then (if y < 30 then (prog_2_method_2_code) else (if y < 31 then (prog_2_method_3_code) else (prog_2_method_4_code))) else (if y < 34 then (if y < 33 then (prog_2_method_5_code) else (prog_3_method_1_code)) else (if y < 35 then (prog_3_method_2_code) else (prog_3_method_3_code)))) else (if y < 40 then (if y < 38 then (if y < 37 then (prog_3_method_4_code) else (prog_3_method_5_code)) else (if y < 39 then (prog_3_method_6_code) else (prog_4_method_1_code))) else (if y < 42 then (if y < 41 then (prog_4_method_2_code) else (prog_5_method_1_code)) else (if y < 43 then (prog_5_method_2_code) else (prog_5_method_3_code))))) else (if y < 51 then (if y < 47 then (if y < 45 then (prog_5_method_4_code) else (if y < 46 then (prog_5_method_5_code) else (prog_5_method_6_code))) else (if y < 49 then (if y < 48 then (prog_5_method_7_code) else (prog_5_method_8_code)) else (if y < 50 then (prog_6_method_1_code) else (prog_6_method_2_code)))) else (if y < 55 then (if y < 53 then (if y < 52 then (prog_6_method_3_code) else (prog_6_method_4_code)) else (if y < 54 then (prog_7_method_1_code) else (prog_7_method_2_code))) else (if y < 57 then (if y < 56 then (prog_7_method_3_code) else (prog_7_method_4_code)) else (if y < 58 then (prog_7_method_5_code) else (prog_8_method_1_code))))))) else (if y < 89 then (if y < 74 then (if y < 66 then (if y < 62 then (if y < 60 then (prog_8_method_2_code) else (if y < 61 then (prog_8_method_3_code) else (prog_8_method_4_code))) else (if y < 64 then (if y < 63 then (prog_8_method_5_code) else (prog_8_method_6_code)) else (if y < 65 then (prog_8_method_7_code) else (prog_8_method_8_code)))) else (if y < 70 then (if y < 68 then (if y < 67 then (prog_8_method_9_code) else (prog_8_method_10_code)) else (if y < 69 then (prog_8_method_11_code) else (prog_10_method_1_code))) else (if y < 72 then (if y < 71 then (prog_10_method_2_code) else (prog_10_method_3_code)) else (if y < 73 then (prog_10_method_4_code) else (prog_10_method_5_code))))) else (if y < 81 then (if y < 77 then (if y < 75 then (prog_10_method_6_code) else (if y < 76 then (prog_10_method_7_code) else (prog_10_method_8_code))) else (if y < 79 then (if y < 78 then (prog_10_method_9_code) else (prog_10_method_10_code)) else (if y < 80 then (prog_10_method_11_code) else (prog_10_method_12_code)))) else (if y < 85 then (if y < 83 then (if y < 82 then (prog_10_method_13_code) else (prog_10_method_14_code)) else (if y < 84 then (prog_10_method_15_code) else (prog_10_method_16_code))) else (if y < 87 then (if y < 86 then (prog_10_method_17_code) else (prog_10_method_18_code)) else (if y < 88 then (prog_10_method_19_code) else (prog_10_method_20_code)))))) else (if y < 104 then (if y < 96 then (if y < 92 then (if y < 90 then (prog_10_method_21_code) else (if y < 91 then (prog_10_method_22_code) else (prog_10_method_23_code))) else (if y < 94 then (if y < 93 then (prog_10_method_24_code) else (prog_10_method_25_code)) else (if y < 95 then (prog_10_method_26_code) else (prog_10_method_27_code)))) else (if y < 100 then (if y < 98 then (if y < 97 then (prog_10_method_28_code) else (prog_10_method_29_code)) else (if y < 99 then (prog_10_method_30_code) else (prog_10_method_31_code))) else (if y < 102 then (if y < 101 then (prog_10_method_32_code) else (prog_10_method_33_code)) else (if y < 103 then (prog_10_method_34_code) else (prog_10_method_35_code))))) else (if y < 111 then (if y < 107 then (if y < 105 then (prog_10_method_36_code) else (if y < 106 then (prog_10_method_37_code) else (prog_10_method_38_code))) else (if y < 109 then (if y < 108 then (prog_10_method_39_code) else (prog_10_method_40_code)) else (if y < 110 then (prog_10_method_41_code) else (prog_10_method_42_code)))) else (if y < 115 then (if y < 113 then (if y < 112 then (method_3_code) else (method_4_code)) else (if y < 114 then (method_5_code) else (method_6_code))) else (if y < 117 then (if y < 116 then (method_7_code) else (method_8_code)) else (if y < 118 then (code) else (code)))))))
def xml (y : Nat) : Nat := if y < 59 then (if y < 29 then (if y < 14 then (if y < 7 then (if y < 3 then (if y < 1 then (2) else (if y < 2 then (6) else (2))) else (if y < 5 then (if y < 4 then (4) else (3)) else (if y < 6 then (1) else (4)))) else (if y < 10 then (if y < 8 then (3) else (if y < 9 then (4) else (3))) else (if y < 12 then (if y < 11 then (3) else (7)) else (if y < 13 then (4) else (3))))) else (if y < 21 then (if y < 17 then (if y < 15 then (2) else (if y < 16 then (2) else (2))) else (if y < 19 then (if y < 18 then (1) else (3)) else (if y < 20 then (1) else (5)))) else (if y < 25 then (if y < 23 then (if y < 22 then (3) else (5)) else (if y < 24 then (5) else (8))) else (if y < 27 then (if y < 26 then (4) else (8)) else (if y < 28 then (6) else (2)))))) else (if y < 44 then (if y < 36 then (if y < 32 then (if y < 30 then (3) else (if y < 31 then (2) else (4))) else (if y < 34 then (if y < 33 then (6) else (1)) else (if y < 35 then (3) else (3)))) else (if y < 40 then (if y < 38 then (if y < 37 then (8) else (5)) else (if y < 39 then (6) else (1))) else (if y < 42 then (if y < 41 then (7) else (1)) else (if y < 43 then (3) else (4))))) else (if y < 51 then (if y < 47 then (if y < 45 then (4) else (if y < 46 then (4) else (4))) else (if y < 49 then (if y < 48 then (2) else (2)) else (if y < 50 then (3) else (6)))) else (if y < 55 then (if y < 53 then (if y < 52 then (2) else (2)) else (if y < 54 then (1) else (3))) else (if y < 57 then (if y < 56 then (2) else (3)) else (if y < 58 then (3) else (1))))))) else (if y < 89 then (if y < 74 then (if y < 66 then (if y < 62 then (if y < 60 then (1) else (if y < 61 then (1) else (1))) else (if y < 64 then (if y < 63 then (1) else (1)) else (if y < 65 then (1) else (1)))) else (if y < 70 then (if y < 68 then (if y < 67 then (3) else (3)) else (if y < 69 then (2) else (1))) else (if y < 72 then (if y < 71 then (1) else (6)) else (if y < 73 then (2) else (1))))) else (if y < 81 then (if y < 77 then (if y < 75 then (1) else (if y < 76 then (7) else (2))) else (if y < 79 then (if y < 78 then (2) else (3)) else (if y < 80 then (2) else (6)))) else (if y < 85 then (if y < 83 then (if y < 82 then (6) else (4)) else (if y < 84 then (6) else (8))) else (if y < 87 then (if y < 86 then (5) else (3)) else (if y < 88 then (2) else (4)))))) else (if y < 104 then (if y < 96 then (if y < 92 then (if y < 90 then (6) else (if y < 91 then (6) else (3))) else (if y < 94 then (if y < 93 then (13) else (4)) else (if y < 95 then (5) else (6)))) else (if y < 100 then (if y < 98 then (if y < 97 then (1) else (3)) else (if y < 99 then (2) else (2))) else (if y < 102 then (if y < 101 then (2) else (2)) else (if y < 103 then (13) else (3))))) else (if y < 111 then (if y < 107 then (if y < 105 then (3) else (if y < 106 then (4) else (3))) else (if y < 109 then (if y < 108 then (3) else (4)) else (if y < 110 then (2) else (2)))) else (if y < 115 then (if y < 113 then (if y < 112 then (3) else (4)) else (if y < 114 then (5) else (5))) else (if y < 117 then (if y < 116 then (5) else (5)) else (if y < 118 then (7) else (0)))))))
def xrty (y : Nat) : Option FieldType := if y < 59 then (if y < 29 then (if y < 14 then (if y < 7 then (if y < 3 then (if y < 1 then (none) else (if y < 2 then ((some .int)) else ((some .int)))) else (if y < 5 then (if y < 4 then (none) else ((some .int))) else (if y < 6 then ((some .int)) else ((some .int))))) else (if y < 10 then (if y < 8 then ((some .int)) else (if y < 9 then ((some .int)) else ((some .int)))) else (if y < 12 then (if y < 11 then ((some .int)) else ((some .int))) else (if y < 13 then ((some .int)) else ((some .int)))))) else (if y < 21 then (if y < 17 then (if y < 15 then ((some .int)) else (if y < 16 then ((some .boolean)) else ((some .boolean)))) else (if y < 19 then (if y < 18 then ((some .boolean)) else ((some .int))) else (if y < 20 then ((some .int)) else ((some .int))))) else (if y < 25 then (if y < 23 then (if y < 22 then ((some .int)) else (none)) else (if y < 24 then (none) else (none))) else (if y < 27 then (if y < 26 then (none) else (none)) else (if y < 28 then (none) else (none)))))) else (if y < 44 then (if y < 36 then (if y < 32 then (if y < 30 then ((some .int)) else (if y < 31 then ((some .int)) else (none))) else (if y < 34 then (if y < 33 then ((some .int)) else (none)) else (if y < 35 then (none) else ((some .int))))) else (if y < 40 then (if y < 38 then (if y < 37 then ((some .int)) else ((some .int))) else (if y < 39 then ((some .int)) else (none))) else (if y < 42 then (if y < 41 then (none) else (none)) else (if y < 43 then (none) else (none))))) else (if y < 51 then (if y < 47 then (if y < 45 then (none) else (if y < 46 then (none) else (none))) else (if y < 49 then (if y < 48 then (none) else (none)) else (if y < 50 then (none) else (none)))) else (if y < 55 then (if y < 53 then (if y < 52 then ((some .int)) else ((some .boolean))) else (if y < 54 then (none) else (none))) else (if y < 57 then (if y < 56 then ((some .boolean)) else ((some .int))) else (if y < 58 then (none) else (none))))))) else (if y < 89 then (if y < 74 then (if y < 66 then (if y < 62 then (if y < 60 then ((some .boolean)) else (if y < 61 then ((some .boolean)) else ((some .boolean)))) else (if y < 64 then (if y < 63 then ((some .int)) else ((some .int))) else (if y < 65 then ((some .boolean)) else ((some .boolean))))) else (if y < 70 then (if y < 68 then (if y < 67 then ((some .int)) else ((some .boolean))) else (if y < 69 then ((some .int)) else (none))) else (if y < 72 then (if y < 71 then ((some .int)) else ((some .int))) else (if y < 73 then ((some .int)) else ((some .boolean)))))) else (if y < 81 then (if y < 77 then (if y < 75 then ((some .boolean)) else (if y < 76 then ((some .int)) else ((some .int)))) else (if y < 79 then (if y < 78 then ((some .int)) else ((some .int))) else (if y < 80 then ((some .int)) else ((some .int))))) else (if y < 85 then (if y < 83 then (if y < 82 then (none) else (none)) else (if y < 84 then (none) else (none))) else (if y < 87 then (if y < 86 then (none) else ((some .boolean))) else (if y < 88 then ((some .int)) else ((some .int))))))) else (if y < 104 then (if y < 96 then (if y < 92 then (if y < 90 then ((some .int)) else (if y < 91 then ((some .int)) else ((some .int)))) else (if y < 94 then (if y < 93 then (none) else (none)) else (if y < 95 then (none) else ((some .int))))) else (if y < 100 then (if y < 98 then (if y < 97 then ((some .int)) else (none)) else (if y < 99 then ((some .int)) else ((some .int)))) else (if y < 102 then (if y < 101 then ((some .boolean)) else ((some .boolean))) else (if y < 103 then ((some .int)) else ((some .int)))))) else (if y < 111 then (if y < 107 then (if y < 105 then ((some .int)) else (if y < 106 then ((some .int)) else ((some .int)))) else (if y < 109 then (if y < 108 then ((some .int)) else ((some .int))) else (if y < 110 then ((some .int)) else ((some .int))))) else (if y < 115 then (if y < 113 then (if y < 112 then ((some .int)) else ((some .int))) else (if y < 114 then ((some .int)) else ((some .int)))) else (if y < 117 then (if y < 116 then ((some .int)) else ((some .int))) else (if y < 118 then ((some .boolean)) else (none)))))))
def xrt (y : Nat) : Nat := if y < 59 then (if y < 29 then (if y < 14 then (if y < 7 then (if y < 3 then (if y < 1 then (0) else (if y < 2 then (1) else (1))) else (if y < 5 then (if y < 4 then (0) else (1)) else (if y < 6 then (1) else (1)))) else (if y < 10 then (if y < 8 then (1) else (if y < 9 then (1) else (1))) else (if y < 12 then (if y < 11 then (1) else (1)) else (if y < 13 then (1) else (1))))) else (if y < 21 then (if y < 17 then (if y < 15 then (1) else (if y < 16 then (2) else (2))) else (if y < 19 then (if y < 18 then (2) else (1)) else (if y < 20 then (1) else (1)))) else (if y < 25 then (if y < 23 then (if y < 22 then (1) else (0)) else (if y < 24 then (0) else (0))) else (if y < 27 then (if y < 26 then (0) else (0)) else (if y < 28 then (0) else (0)))))) else (if y < 44 then (if y < 36 then (if y < 32 then (if y < 30 then (1) else (if y < 31 then (1) else (0))) else (if y < 34 then (if y < 33 then (1) else (0)) else (if y < 35 then (0) else (1)))) else (if y < 40 then (if y < 38 then (if y < 37 then (1) else (1)) else (if y < 39 then (1) else (0))) else (if y < 42 then (if y < 41 then (0) else (0)) else (if y < 43 then (0) else (0))))) else (if y < 51 then (if y < 47 then (if y < 45 then (0) else (if y < 46 then (0) else (0))) else (if y < 49 then (if y < 48 then (0) else (0)) else (if y < 50 then (0) else (0)))) else (if y < 55 then (if y < 53 then (if y < 52 then (1) else (2)) else (if y < 54 then (0) else (0))) else (if y < 57 then (if y < 56 then (2) else (1)) else (if y < 58 then (0) else (0))))))) else (if y < 89 then (if y < 74 then (if y < 66 then (if y < 62 then (if y < 60 then (2) else (if y < 61 then (2) else (2))) else (if y < 64 then (if y < 63 then (1) else (1)) else (if y < 65 then (2) else (2)))) else (if y < 70 then (if y < 68 then (if y < 67 then (1) else (2)) else (if y < 69 then (1) else (0))) else (if y < 72 then (if y < 71 then (1) else (1)) else (if y < 73 then (1) else (2))))) else (if y < 81 then (if y < 77 then (if y < 75 then (2) else (if y < 76 then (1) else (1))) else (if y < 79 then (if y < 78 then (1) else (1)) else (if y < 80 then (1) else (1)))) else (if y < 85 then (if y < 83 then (if y < 82 then (0) else (0)) else (if y < 84 then (0) else (0))) else (if y < 87 then (if y < 86 then (0) else (2)) else (if y < 88 then (1) else (1)))))) else (if y < 104 then (if y < 96 then (if y < 92 then (if y < 90 then (1) else (if y < 91 then (1) else (1))) else (if y < 94 then (if y < 93 then (0) else (0)) else (if y < 95 then (0) else (1)))) else (if y < 100 then (if y < 98 then (if y < 97 then (1) else (0)) else (if y < 99 then (1) else (1))) else (if y < 102 then (if y < 101 then (2) else (2)) else (if y < 103 then (1) else (1))))) else (if y < 111 then (if y < 107 then (if y < 105 then (1) else (if y < 106 then (1) else (1))) else (if y < 109 then (if y < 108 then (1) else (1)) else (if y < 110 then (1) else (1)))) else (if y < 115 then (if y < 113 then (if y < 112 then (1) else (1)) else (if y < 114 then (1) else (1))) else (if y < 117 then (if y < 116 then (1) else (1)) else (if y < 118 then (2) else (0)))))))
def xmn (y : Nat) : Nat := if y < 59 then (if y < 29 then (if y < 14 then (if y < 7 then (if y < 3 then (if y < 1 then (1) else (if y < 2 then (2) else (1))) else (if y < 5 then (if y < 4 then (2) else (2)) else (if y < 6 then (1) else (1)))) else (if y < 10 then (if y < 8 then (2) else (if y < 9 then (3) else (3))) else (if y < 12 then (if y < 11 then (3) else (3)) else (if y < 13 then (3) else (2))))) else (if y < 21 then (if y < 17 then (if y < 15 then (2) else (if y < 16 then (2) else (2))) else (if y < 19 then (if y < 18 then (1) else (2)) else (if y < 20 then (1) else (1)))) else (if y < 25 then (if y < 23 then (if y < 22 then (2) else (2)) else (if y < 24 then (3) else (4))) else (if y < 27 then (if y < 26 then (3) else (4)) else (if y < 28 then (4) else (1)))))) else (if y < 44 then (if y < 36 then (if y < 32 then (if y < 30 then (1) else (if y < 31 then (2) else (3))) else (if y < 34 then (if y < 33 then (2) else (1)) else (if y < 35 then (3) else (3)))) else (if y < 40 then (if y < 38 then (if y < 37 then (4) else (3)) else (if y < 39 then (4) else (1))) else (if y < 42 then (if y < 41 then (6) else (1)) else (if y < 43 then (3) else (3))))) else (if y < 51 then (if y < 47 then (if y < 45 then (3) else (if y < 46 then (3) else (3))) else (if y < 49 then (if y < 48 then (2) else (2)) else (if y < 50 then (1) else (2)))) else (if y < 55 then (if y < 53 then (if y < 52 then (1) else (1)) else (if y < 54 then (1) else (2))) else (if y < 57 then (if y < 56 then (2) else (3)) else (if y < 58 then (3) else (1))))))) else (if y < 89 then (if y < 74 then (if y < 66 then (if y < 62 then (if y < 60 then (1) else (if y < 61 then (1) else (1))) else (if y < 64 then (if y < 63 then (1) else (1)) else (if y < 65 then (1) else (1)))) else (if y < 70 then (if y < 68 then (if y < 67 then (2) else (2)) else (if y < 69 then (2) else (1))) else (if y < 72 then (if y < 71 then (1) else (2)) else (if y < 73 then (1) else (1))))) else (if y < 81 then (if y < 77 then (if y < 75 then (1) else (if y < 76 then (4) else (2))) else (if y < 79 then (if y < 78 then (2) else (3)) else (if y < 80 then (2) else (1)))) else (if y < 85 then (if y < 83 then (if y < 82 then (6) else (4)) else (if y < 84 then (4) else (4))) else (if y < 87 then (if y < 86 then (1) else (1)) else (if y < 88 then (1) else (2)))))) else (if y < 104 then (if y < 96 then (if y < 92 then (if y < 90 then (1) else (if y < 91 then (1) else (1))) else (if y < 94 then (if y < 93 then (3) else (1)) else (if y < 95 then (3) else (2)))) else (if y < 100 then (if y < 98 then (if y < 97 then (1) else (2)) else (if y < 99 then (1) else (2))) else (if y < 102 then (if y < 101 then (2) else (2)) else (if y < 103 then (3) else (3))))) else (if y < 111 then (if y < 107 then (if y < 105 then (3) else (if y < 106 then (2) else (3))) else (if y < 109 then (if y < 108 then (3) else (3)) else (if y < 110 then (2) else (2)))) else (if y < 115 then (if y < 113 then (if y < 112 then (2) else (3)) else (if y < 114 then (4) else (4))) else (if y < 117 then (if y < 116 then (4) else (4)) else (if y < 118 then (1) else (0)))))))
def xdp (y : Nat) : Nat := if y < 59 then (if y < 29 then (if y < 14 then (if y < 7 then (if y < 3 then (if y < 1 then (3) else (if y < 2 then (2) else (1))) else (if y < 5 then (if y < 4 then (8) else (8)) else (if y < 6 then (1) else (2)))) else (if y < 10 then (if y < 8 then (1) else (if y < 9 then (8) else (8))) else (if y < 12 then (if y < 11 then (8) else (8)) else (if y < 13 then (2) else (2))))) else (if y < 21 then (if y < 17 then (if y < 15 then (2) else (if y < 16 then (1) else (1))) else (if y < 19 then (if y < 18 then (1) else (1)) else (if y < 20 then (1) else (5)))) else (if y < 25 then (if y < 23 then (if y < 22 then (2) else (5)) else (if y < 24 then (2) else (2))) else (if y < 27 then (if y < 26 then (3) else (3)) else (if y < 28 then (2) else (2)))))) else (if y < 44 then (if y < 36 then (if y < 32 then (if y < 30 then (3) else (if y < 31 then (1) else (2))) else (if y < 34 then (if y < 33 then (3) else (1)) else (if y < 35 then (1) else (2)))) else (if y < 40 then (if y < 38 then (if y < 37 then (3) else (1)) else (if y < 39 then (2) else (1))) else (if y < 42 then (if y < 41 then (1) else (1)) else (if y < 43 then (4) else (3))))) else (if y < 51 then (if y < 47 then (if y < 45 then (3) else (if y < 46 then (3) else (3))) else (if y < 49 then (if y < 48 then (2) else (1)) else (if y < 50 then (2) else (4)))) else (if y < 55 then (if y < 53 then (if y < 52 then (1) else (1)) else (if y < 54 then (1) else (1))) else (if y < 57 then (if y < 56 then (1) else (1)) else (if y < 58 then (1) else (1))))))) else (if y < 89 then (if y < 74 then (if y < 66 then (if y < 62 then (if y < 60 then (1) else (if y < 61 then (1) else (2))) else (if y < 64 then (if y < 63 then (1) else (1)) else (if y < 65 then (1) else (1)))) else (if y < 70 then (if y < 68 then (if y < 67 then (3) else (1)) else (if y < 69 then (2) else (1))) else (if y < 72 then (if y < 71 then (1) else (1)) else (if y < 73 then (1) else (1))))) else (if y < 81 then (if y < 77 then (if y < 75 then (1) else (if y < 76 then (2) else (1))) else (if y < 79 then (if y < 78 then (1) else (1)) else (if y < 80 then (1) else (2)))) else (if y < 85 then (if y < 83 then (if y < 82 then (1) else (1)) else (if y < 84 then (2) else (2))) else (if y < 87 then (if y < 86 then (3) else (1)) else (if y < 88 then (1) else (1)))))) else (if y < 104 then (if y < 96 then (if y < 92 then (if y < 90 then (2) else (if y < 91 then (2) else (1))) else (if y < 94 then (if y < 93 then (2) else (2)) else (if y < 95 then (3) else (4)))) else (if y < 100 then (if y < 98 then (if y < 97 then (1) else (1)) else (if y < 99 then (1) else (1))) else (if y < 102 then (if y < 101 then (1) else (1)) else (if y < 103 then (3) else (4))))) else (if y < 111 then (if y < 107 then (if y < 105 then (2) else (if y < 106 then (2) else (3))) else (if y < 109 then (if y < 108 then (4) else (2)) else (if y < 110 then (1) else (1)))) else (if y < 115 then (if y < 113 then (if y < 112 then (9) else (9)) else (if y < 114 then (9) else (9))) else (if y < 117 then (if y < 116 then (9) else (9)) else (if y < 118 then (10) else (0)))))))
def xlo (y : Nat) : Nat := if y < 59 then (if y < 29 then (if y < 14 then (if y < 7 then (if y < 3 then (if y < 1 then (63) else (if y < 2 then (43) else (21))) else (if y < 5 then (if y < 4 then (100) else (132)) else (if y < 6 then (21) else (43)))) else (if y < 10 then (if y < 8 then (21) else (if y < 9 then (100) else (100))) else (if y < 12 then (if y < 11 then (100) else (100)) else (if y < 13 then (43) else (42))))) else (if y < 21 then (if y < 17 then (if y < 15 then (41) else (if y < 16 then (21) else (21))) else (if y < 19 then (if y < 18 then (21) else (21)) else (if y < 20 then (21) else (108)))) else (if y < 25 then (if y < 23 then (if y < 22 then (41) else (108)) else (if y < 24 then (43) else (43))) else (if y < 27 then (if y < 26 then (67) else (68)) else (if y < 28 then (43) else (41)))))) else (if y < 44 then (if y < 36 then (if y < 32 then (if y < 30 then (65) else (if y < 31 then (21) else (42))) else (if y < 34 then (if y < 33 then (61) else (21)) else (if y < 35 then (21) else (45)))) else (if y < 40 then (if y < 38 then (if y < 37 then (68) else (21)) else (if y < 39 then (43) else (21))) else (if y < 42 then (if y < 41 then (21) else (21)) else (if y < 43 then (86) else (63))))) else (if y < 51 then (if y < 47 then (if y < 45 then (63) else (if y < 46 then (63) else (63))) else (if y < 49 then (if y < 48 then (42) else (21)) else (if y < 50 then (41) else (83)))) else (if y < 55 then (if y < 53 then (if y < 52 then (21) else (21)) else (if y < 54 then (21) else (21))) else (if y < 57 then (if y < 56 then (21) else (21)) else (if y < 58 then (21) else (21))))))) else (if y < 89 then (if y < 74 then (if y < 66 then (if y < 62 then (if y < 60 then (21) else (if y < 61 then (21) else (41))) else (if y < 64 then (if y < 63 then (21) else (21)) else (if y < 65 then (21) else (21)))) else (if y < 70 then (if y < 68 then (if y < 67 then (61) else (21)) else (if y < 69 then (41) else (21))) else (if y < 72 then (if y < 71 then (21) else (21)) else (if y < 73 then (21) else (21))))) else (if y < 81 then (if y < 77 then (if y < 75 then (21) else (if y < 76 then (41) else (21))) else (if y < 79 then (if y < 78 then (21) else (21)) else (if y < 80 then (21) else (42)))) else (if y < 85 then (if y < 83 then (if y < 82 then (21) else (21)) else (if y < 84 then (46) else (46))) else (if y < 87 then (if y < 86 then (73) else (21)) else (if y < 88 then (21) else (21)))))) else (if y < 104 then (if y < 96 then (if y < 92 then (if y < 90 then (43) else (if y < 91 then (43) else (21))) else (if y < 94 then (if y < 93 then (42) else (42)) else (if y < 95 then (74) else (98)))) else (if y < 100 then (if y < 98 then (if y < 97 then (21) else (21)) else (if y < 99 then (21) else (21))) else (if y < 102 then (if y < 101 then (21) else (21)) else (if y < 103 then (67) else (99))))) else (if y < 111 then (if y < 107 then (if y < 105 then (42) else (if y < 106 then (42) else (65))) else (if y < 109 then (if y < 108 then (99) else (42)) else (if y < 110 then (21) else (21)))) else (if y < 115 then (if y < 113 then (if y < 112 then (123) else (154)) else (if y < 114 then (123) else (122))) else (if y < 117 then (if y < 116 then (122) else (126)) else (if y < 118 then (177) else (0)))))))
def xmc (y : Nat) : Nat := if y < 59 then (if y < 29 then (if y < 14 then (if y < 7 then (if y < 3 then (if y < 1 then (0) else (if y < 2 then (0) else (0))) else (if y < 5 then (if y < 4 then (0) else (0)) else (if y < 6 then (0) else (0)))) else (if y < 10 then (if y < 8 then (0) else (if y < 9 then (0) else (0))) else (if y < 12 then (if y < 11 then (0) else (0)) else (if y < 13 then (0) else (0))))) else (if y < 21 then (if y < 17 then (if y < 15 then (0) else (if y < 16 then (0) else (0))) else (if y < 19 then (if y < 18 then (0) else (0)) else (if y < 20 then (0) else (0)))) else (if y < 25 then (if y < 23 then (if y < 22 then (0) else (0)) else (if y < 24 then (0) else (0))) else (if y < 27 then (if y < 26 then (0) else (0)) else (if y < 28 then (0) else (1)))))) else (if y < 44 then (if y < 36 then (if y < 32 then (if y < 30 then (1) else (if y < 31 then (1) else (1))) else (if y < 34 then (if y < 33 then (1) else (2)) else (if y < 35 then (2) else (2)))) else (if y < 40 then (if y < 38 then (if y < 37 then (2) else (2)) else (if y < 39 then (2) else (3))) else (if y < 42 then (if y < 41 then (3) else (4)) else (if y < 43 then (4) else (4))))) else (if y < 51 then (if y < 47 then (if y < 45 then (4) else (if y < 46 then (4) else (4))) else (if y < 49 then (if y < 48 then (4) else (4)) else (if y < 50 then (5) else (5)))) else (if y < 55 then (if y < 53 then (if y < 52 then (5) else (5)) else (if y < 54 then (6) else (6))) else (if y < 57 then (if y < 56 then (6) else (6)) else (if y < 58 then (6) else (7))))))) else (if y < 89 then (if y < 74 then (if y < 66 then (if y < 62 then (if y < 60 then (7) else (if y < 61 then (7) else (7))) else (if y < 64 then (if y < 63 then (7) else (7)) else (if y < 65 then (7) else (7)))) else (if y < 70 then (if y < 68 then (if y < 67 then (7) else (7)) else (if y < 69 then (7) else (8))) else (if y < 72 then (if y < 71 then (8) else (8)) else (if y < 73 then (8) else (8))))) else (if y < 81 then (if y < 77 then (if y < 75 then (8) else (if y < 76 then (8) else (8))) else (if y < 79 then (if y < 78 then (8) else (8)) else (if y < 80 then (8) else (8)))) else (if y < 85 then (if y < 83 then (if y < 82 then (8) else (8)) else (if y < 84 then (8) else (8))) else (if y < 87 then (if y < 86 then (8) else (8)) else (if y < 88 then (8) else (8)))))) else (if y < 104 then (if y < 96 then (if y < 92 then (if y < 90 then (8) else (if y < 91 then (8) else (8))) else (if y < 94 then (if y < 93 then (8) else (8)) else (if y < 95 then (8) else (8)))) else (if y < 100 then (if y < 98 then (if y < 97 then (8) else (8)) else (if y < 99 then (8) else (8))) else (if y < 102 then (if y < 101 then (8) else (8)) else (if y < 103 then (8) else (8))))) else (if y < 111 then (if y < 107 then (if y < 105 then (8) else (if y < 106 then (8) else (8))) else (if y < 109 then (if y < 108 then (8) else (8)) else (if y < 110 then (8) else (8)))) else (if y < 115 then (if y < 113 then (if y < 112 then (99) else (99)) else (if y < 114 then (99) else (99))) else (if y < 117 then (if y < 116 then (99) else (99)) else (if y < 118 then (99) else (0)))))))
def xown (y : Nat) : String := (xyn y).cls
def xini (y : Nat) : Bool := decide ((xyn y).name = "<init>")
theorem xrt_ok0 : ∀ y, xrt y = 0 → xrty y = none := by
  intro y h
  by_cases hy : y < 118
  · revert h; revert y; decide +kernel
  · unfold xrty; have h1 : 118 ≤ y := by omega
    repeat (first | rfl | rw [if_neg (by omega)])
theorem xrt_ok1 : ∀ y, xrt y = 1 → xrty y = some .int := by
  intro y h
  by_cases hy : y < 118
  · revert h; revert y; decide +kernel
  · exfalso; revert h; unfold xrt; have h1 : 118 ≤ y := by omega
    repeat (rw [if_neg (by omega)])
    decide
theorem xrt_ok2 : ∀ y, xrt y = 2 → xrty y = some .boolean := by
  intro y h
  by_cases hy : y < 118
  · revert h; revert y; decide +kernel
  · exfalso; revert h; unfold xrt; have h1 : 118 ≤ y := by omega
    repeat (rw [if_neg (by omega)])
    decide
def xhd (y pc e : Nat) : Option (Nat × Nat) := if y = 111 ∧ pc = 2 ∧ e = 1 then some (9, 2) else if y = 112 ∧ pc = 4 ∧ e = 2 then some (13, 3) else if y = 112 ∧ pc = 4 ∧ e = 1 then some (16, 3) else if y = 113 ∧ pc = 5 ∧ e = 3 then some (15, 4) else if y = 113 ∧ pc = 5 ∧ e = 1 then some (19, 4) else if y = 114 ∧ pc = 5 ∧ e = 3 then some (15, 4) else if y = 115 ∧ pc = 5 ∧ e = 3 then some (15, 4) else if y = 115 ∧ pc = 5 ∧ e = 1 then some (19, 4) else if y = 116 ∧ pc = 5 ∧ e = 3 then some (15, 4) else none
def xex (e : Nat) : String := if e = 1 then "java/lang/IllegalArgumentException" else if e = 2 then "java/lang/IllegalStateException" else "java/lang/IndexOutOfBoundsException"
def xstr : List (Nat × String) := [(71, "columns is not 1 .. 16"), (106, "nothing was cast on"), (113, "carrier is not 0 .. 2"), (141, "there is no such row"), (159, "what is not 0 .. 4"), (164, "there is no such loop")]
def xec (_ : Nat) : Nat := 1
def xes (_ : Nat) : Nat := 6
def xall : List Cond := lw_tbl.filter goodWord
theorem xall_good : ∀ w ∈ xall, (w.onTables && w.keeps) = true ∨ ∃ ty, w = .arrayClass ty := fun w hw => good_of_word (List.mem_filter.mp hw).2
theorem mx {w : Cond} (i : Nat) (h : tables_1[i]? = some w) (hg : goodWord w = true) : w ∈ xall := List.mem_filter.mpr ⟨List.mem_append_right _ (List.mem_of_getElem? h), hg⟩
theorem mp {q : MethodName × Nat} (i : Nat) (h : lw_privs[i]? = some q) (hg : goodWord (.selects q.1.cls q.1 q.1) = true) : Cond.selects q.1.cls q.1 q.1 ∈ xall := List.mem_filter.mpr ⟨List.mem_append_left _ (List.mem_map.mpr ⟨q, List.mem_of_getElem? h, rfl⟩), hg⟩
def xws (y : Nat) : List Cond := Cond.code (xyn y) (xby y) (xml y) (xrty y) :: xall
theorem nw_cast {a b : String} {s U : State} (hW : s.vm.Alike U.vm) (h : va_Nw (.castable a b) s) : va_Nw (.castable a b) U := by
  obtain ⟨c, t, h1, h2, h3⟩ := Cond.castable_spec h
  show (Cond.castable a b).before #[] U = true
  simp [Cond.before, Cond.holds, Cond.value, hW.findClass, h1, h2, hW.assignable, h3]
def xnw : List Cond := [(Jvm.Cond.arrayOver (Jvm.ClassFile.FieldType.object "ChartKnitter$Stitch")), (Jvm.Cond.methodLinkNest "ChartKnitter$Chart" (37 : Nat) ({ cls := "ChartKnitter$Stitch", name := "<init>", desc := "()V" } : Jvm.MethodName) "ChartKnitter"), (Jvm.Cond.methodLinkNest "ChartKnitter$Plan" (32 : Nat) ({ cls := "ChartKnitter$Stitch", name := "<init>", desc := "()V" } : Jvm.MethodName) "ChartKnitter"), (Jvm.Cond.methodLinkNest "ChartKnitter" (25 : Nat) ({ cls := "ChartKnitter$Machine", name := "<init>", desc := "()V" } : Jvm.MethodName) "ChartKnitter"), (Jvm.Cond.methodLinkNest "ChartKnitter" (32 : Nat) ({ cls := "ChartKnitter$Loops", name := "<init>", desc := "()V" } : Jvm.MethodName) "ChartKnitter"), (Jvm.Cond.methodLinkNest "ChartKnitter" (39 : Nat) ({ cls := "ChartKnitter$Crossings", name := "<init>", desc := "()V" } : Jvm.MethodName) "ChartKnitter"), (Jvm.Cond.arrayOver (Jvm.ClassFile.FieldType.object "ChartKnitter$Row")), (Jvm.Cond.methodLinkNest "ChartKnitter" (57 : Nat) ({ cls := "ChartKnitter$Row", name := "<init>", desc := "()V" } : Jvm.MethodName) "ChartKnitter"), (Jvm.Cond.castable "java/lang/IllegalArgumentException" "java/lang/IllegalArgumentException"), (Jvm.Cond.declares ({ cls := "java/lang/RuntimeException", name := "<init>", desc := "(Ljava/lang/String;)V" } : Jvm.MethodName)), (Jvm.Cond.declares ({ cls := "java/lang/Exception", name := "<init>", desc := "(Ljava/lang/String;)V" } : Jvm.MethodName)), (Jvm.Cond.declares ({ cls := "java/lang/Throwable", name := "<init>", desc := "(Ljava/lang/String;)V" } : Jvm.MethodName)), (Jvm.Cond.castable "java/lang/IllegalStateException" "java/lang/IllegalStateException"), (Jvm.Cond.castable "java/lang/IndexOutOfBoundsException" "java/lang/IndexOutOfBoundsException")]
theorem xnw_same {u U : State} (h : u.vm = U.vm) (hZ : ∀ w ∈ xnw, va_Nw w u) : ∀ w ∈ xnw, va_Nw w U := by
  intro w hw
  have hz := hZ w hw
  simp only [xnw, List.mem_cons, List.not_mem_nil, or_false] at hw
  rcases hw with rfl | rfl | rfl | rfl | rfl | rfl | rfl | rfl | rfl | rfl | rfl | rfl | rfl | rfl
  · exact va_AO.moved (by rw [h]; exact Vm.Alike.refl _) hz
  · exact va_Nw.same rfl h hz
  · exact va_Nw.same rfl h hz
  · exact va_Nw.same rfl h hz
  · exact va_Nw.same rfl h hz
  · exact va_Nw.same rfl h hz
  · exact va_AO.moved (by rw [h]; exact Vm.Alike.refl _) hz
  · exact va_Nw.same rfl h hz
  · exact va_Nw.same rfl h hz
  · exact va_Nw.same rfl h hz
  · exact va_Nw.same rfl h hz
  · exact va_Nw.same rfl h hz
  · exact va_Nw.same rfl h hz
  · exact va_Nw.same rfl h hz
theorem xnw_warm {s U : State} (hW : s.WarmedH U.vm) : ∀ w ∈ xnw, va_Nw w s → va_Nw w U := by
  intro w hw
  simp only [xnw, List.mem_cons, List.not_mem_nil, or_false] at hw
  rcases hw with rfl | rfl | rfl | rfl | rfl | rfl | rfl | rfl | rfl | rfl | rfl | rfl | rfl | rfl
  · exact fun h => va_AO.moved hW.alike h
  · exact fun h => va_Nw.warmM hW h
  · exact fun h => va_Nw.warmM hW h
  · exact fun h => va_Nw.warmM hW h
  · exact fun h => va_Nw.warmM hW h
  · exact fun h => va_Nw.warmM hW h
  · exact fun h => va_AO.moved hW.alike h
  · exact fun h => va_Nw.warmM hW h
  · exact fun h => nw_cast hW.alike h
  · exact fun h => va_Nw.warmD hW h
  · exact fun h => va_Nw.warmD hW h
  · exact fun h => va_Nw.warmD hW h
  · exact fun h => nw_cast hW.alike h
  · exact fun h => nw_cast hW.alike h
