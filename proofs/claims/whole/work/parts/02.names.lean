def RC0 : String := "HandsHeld"
def TC0 : u_T := fun k => match k with
  | 0 => ("HandsHeld", "tape", "[B", true)
  | 1 => ("HandsHeld", "tapeSize", "I", false)
  | 2 => ("HandsHeld", "reader", "LHandsHeld$Reader;", true)
  | 3 => ("HandsHeld", "house", "LHandsHeld$Hall;", false)
  | 4 => ("HandsHeld", "spare", "LHandsHeld$Hall;", false)
  | 5 => ("HandsHeld", "now", "LHandsHeld$Moment;", true)
  | 6 => ("HandsHeld", "trial", "LHandsHeld$Moment;", true)
  | 7 => ("HandsHeld", "past", "[LHandsHeld$Moment;", true)
  | 8 => ("HandsHeld", "pastSize", "I", false)
  | 9 => ("HandsHeld", "trays", "[LHandsHeld$Tray;", true)
  | 10 => ("HandsHeld", "imageHouses", "[LHandsHeld$Hall;", true)
  | 11 => ("HandsHeld", "imageMoments", "[LHandsHeld$Moment;", true)
  | 12 => ("HandsHeld", "imagesMade", "I", false)
  | 13 => ("HandsHeld", "steps", "LHandsHeld$Steps;", true)
  | 14 => ("HandsHeld", "watch", "LHandsHeld$Watch;", true)
  | 15 => ("HandsHeld", "walk", "LHandsHeld$Walk;", true)
  | 16 => ("HandsHeld", "duel", "LHandsHeld$Duel;", true)
  | _ => ("HandsHeld", "rows", "LHandsHeld$Rows;", true)
def tyC0 : Nat → FieldType := fun k => match k with
  | 0 => .array .byte
  | 1 => .int
  | 2 => .object "HandsHeld$Reader"
  | 3 => .object "HandsHeld$Hall"
  | 4 => .object "HandsHeld$Hall"
  | 5 => .object "HandsHeld$Moment"
  | 6 => .object "HandsHeld$Moment"
  | 7 => .array (.object "HandsHeld$Moment")
  | 8 => .int
  | 9 => .array (.object "HandsHeld$Tray")
  | 10 => .array (.object "HandsHeld$Hall")
  | 11 => .array (.object "HandsHeld$Moment")
  | 12 => .int
  | 13 => .object "HandsHeld$Steps"
  | 14 => .object "HandsHeld$Watch"
  | 15 => .object "HandsHeld$Walk"
  | 16 => .object "HandsHeld$Duel"
  | _ => .object "HandsHeld$Rows"
theorem nmC0 : ∀ a, a < 18 → ∀ b, b < 18 → a ≠ b → (TC0 a).2.1 ≠ (TC0 b).2.1 := by decide +kernel
theorem tyC0_ok : ∀ k, k < 18 → parseFieldDescriptor (TC0 k).2.2.1 = some (tyC0 k) := by decide +kernel
theorem inC0 : ∀ w ∈ u_ws RC0 TC0 18, w ∈ lw_tbl := by decide +kernel
def RC1 : String := "HandsHeld$Reader"
def TC1 : u_T := fun k => match k with
  | 0 => ("HandsHeld$Reader", "fault", "I", false)
  | 1 => ("HandsHeld$Reader", "faultPlace", "I", false)
  | 2 => ("HandsHeld$Reader", "text", "[B", false)
  | 3 => ("HandsHeld$Reader", "length", "I", false)
  | 4 => ("HandsHeld$Reader", "tokens", "[I", true)
  | 5 => ("HandsHeld$Reader", "starts", "[I", true)
  | 6 => ("HandsHeld$Reader", "values", "[I", true)
  | 7 => ("HandsHeld$Reader", "at", "I", false)
  | 8 => ("HandsHeld$Reader", "token", "I", false)
  | 9 => ("HandsHeld$Reader", "law", "LHandsHeld$Law;", false)
  | _ => ("HandsHeld$Reader", "inTires", "Z", false)
def tyC1 : Nat → FieldType := fun k => match k with
  | 0 => .int
  | 1 => .int
  | 2 => .array .byte
  | 3 => .int
  | 4 => .array .int
  | 5 => .array .int
  | 6 => .array .int
  | 7 => .int
  | 8 => .int
  | 9 => .object "HandsHeld$Law"
  | _ => .boolean
theorem nmC1 : ∀ a, a < 11 → ∀ b, b < 11 → a ≠ b → (TC1 a).2.1 ≠ (TC1 b).2.1 := by decide +kernel
theorem tyC1_ok : ∀ k, k < 11 → parseFieldDescriptor (TC1 k).2.2.1 = some (tyC1 k) := by decide +kernel
theorem inC1 : ∀ w ∈ u_ws RC1 TC1 11, w ∈ lw_tbl := by decide +kernel
def RC2 : String := "HandsHeld$Hall"
def TC2 : u_T := fun k => match k with
  | 0 => ("HandsHeld$Hall", "lines", "I", false)
  | 1 => ("HandsHeld$Hall", "must", "I", false)
  | 2 => ("HandsHeld$Hall", "people", "I", false)
  | 3 => ("HandsHeld$Hall", "cold", "I", false)
  | 4 => ("HandsHeld$Hall", "sides", "I", false)
  | 5 => ("HandsHeld$Hall", "rods", "I", false)
  | 6 => ("HandsHeld$Hall", "strengths", "[I", true)
  | 7 => ("HandsHeld$Hall", "weights", "[I", true)
  | 8 => ("HandsHeld$Hall", "tires", "LHandsHeld$Law;", true)
  | 9 => ("HandsHeld$Hall", "counts", "LHandsHeld$Law;", true)
  | 10 => ("HandsHeld$Hall", "values", "[I", true)
  | _ => ("HandsHeld$Hall", "stack", "[I", true)
def tyC2 : Nat → FieldType := fun k => match k with
  | 0 => .int
  | 1 => .int
  | 2 => .int
  | 3 => .int
  | 4 => .int
  | 5 => .int
  | 6 => .array .int
  | 7 => .array .int
  | 8 => .object "HandsHeld$Law"
  | 9 => .object "HandsHeld$Law"
  | 10 => .array .int
  | _ => .array .int
theorem nmC2 : ∀ a, a < 12 → ∀ b, b < 12 → a ≠ b → (TC2 a).2.1 ≠ (TC2 b).2.1 := by decide +kernel
theorem tyC2_ok : ∀ k, k < 12 → parseFieldDescriptor (TC2 k).2.2.1 = some (tyC2 k) := by decide +kernel
theorem inC2 : ∀ w ∈ u_ws RC2 TC2 12, w ∈ lw_tbl := by decide +kernel
def RC3 : String := "HandsHeld$Law"
def TC3 : u_T := fun k => match k with
  | 0 => ("HandsHeld$Law", "code", "[I", true)
  | _ => ("HandsHeld$Law", "size", "I", false)
def tyC3 : Nat → FieldType := fun k => match k with
  | 0 => .array .int
  | _ => .int
theorem nmC3 : ∀ a, a < 2 → ∀ b, b < 2 → a ≠ b → (TC3 a).2.1 ≠ (TC3 b).2.1 := by decide +kernel
theorem tyC3_ok : ∀ k, k < 2 → parseFieldDescriptor (TC3 k).2.2.1 = some (tyC3 k) := by decide +kernel
theorem inC3 : ∀ w ∈ u_ws RC3 TC3 2, w ∈ lw_tbl := by decide +kernel
def RC4 : String := "HandsHeld$Moment"
def TC4 : u_T := fun k => match k with
  | 0 => ("HandsHeld$Moment", "sides", "I", false)
  | 1 => ("HandsHeld$Moment", "cold", "I", false)
  | 2 => ("HandsHeld$Moment", "hours", "I", false)
  | _ => ("HandsHeld$Moment", "strengths", "[I", true)
def tyC4 : Nat → FieldType := fun k => match k with
  | 0 => .int
  | 1 => .int
  | 2 => .int
  | _ => .array .int
theorem nmC4 : ∀ a, a < 4 → ∀ b, b < 4 → a ≠ b → (TC4 a).2.1 ≠ (TC4 b).2.1 := by decide +kernel
theorem tyC4_ok : ∀ k, k < 4 → parseFieldDescriptor (TC4 k).2.2.1 = some (tyC4 k) := by decide +kernel
theorem inC4 : ∀ w ∈ u_ws RC4 TC4 4, w ∈ lw_tbl := by decide +kernel
def RC5 : String := "HandsHeld$Steps"
def TC5 : u_T := fun k => match k with
  | 0 => ("HandsHeld$Steps", "stale", "Z", false)
  | 1 => ("HandsHeld$Steps", "people", "I", false)
  | 2 => ("HandsHeld$Steps", "sets", "I", false)
  | 3 => ("HandsHeld$Steps", "must", "I", false)
  | 4 => ("HandsHeld$Steps", "who", "I", false)
  | 5 => ("HandsHeld$Steps", "own", "[I", true)
  | 6 => ("HandsHeld$Steps", "able", "I", false)
  | 7 => ("HandsHeld$Steps", "counting", "I", false)
  | 8 => ("HandsHeld$Steps", "lowRow", "I", false)
  | 9 => ("HandsHeld$Steps", "highRow", "I", false)
  | 10 => ("HandsHeld$Steps", "sides", "I", false)
  | 11 => ("HandsHeld$Steps", "cold", "I", false)
  | 12 => ("HandsHeld$Steps", "part", "[I", true)
  | 13 => ("HandsHeld$Steps", "counts", "[Z", true)
  | 14 => ("HandsHeld$Steps", "low", "[I", true)
  | 15 => ("HandsHeld$Steps", "high", "[I", true)
  | 16 => ("HandsHeld$Steps", "lowAble", "[I", true)
  | 17 => ("HandsHeld$Steps", "lowCounting", "[I", true)
  | 18 => ("HandsHeld$Steps", "highAble", "[I", true)
  | _ => ("HandsHeld$Steps", "highCounting", "[I", true)
def tyC5 : Nat → FieldType := fun k => match k with
  | 0 => .boolean
  | 1 => .int
  | 2 => .int
  | 3 => .int
  | 4 => .int
  | 5 => .array .int
  | 6 => .int
  | 7 => .int
  | 8 => .int
  | 9 => .int
  | 10 => .int
  | 11 => .int
  | 12 => .array .int
  | 13 => .array .boolean
  | 14 => .array .int
  | 15 => .array .int
  | 16 => .array .int
  | 17 => .array .int
  | 18 => .array .int
  | _ => .array .int
theorem nmC5 : ∀ a, a < 20 → ∀ b, b < 20 → a ≠ b → (TC5 a).2.1 ≠ (TC5 b).2.1 := by decide +kernel
theorem tyC5_ok : ∀ k, k < 20 → parseFieldDescriptor (TC5 k).2.2.1 = some (tyC5 k) := by decide +kernel
theorem inC5 : ∀ w ∈ u_ws RC5 TC5 20, w ∈ lw_tbl := by decide +kernel
def RC6 : String := "HandsHeld$Watch"
def TC6 : u_T := fun k => match k with
  | 0 => ("HandsHeld$Watch", "mark", "[I", true)
  | 1 => ("HandsHeld$Watch", "hours", "[I", true)
  | 2 => ("HandsHeld$Watch", "pick", "[I", true)
  | 3 => ("HandsHeld$Watch", "path", "[I", true)
  | 4 => ("HandsHeld$Watch", "turn", "[I", true)
  | 5 => ("HandsHeld$Watch", "depth", "I", false)
  | _ => ("HandsHeld$Watch", "begin", "I", false)
def tyC6 : Nat → FieldType := fun k => match k with
  | 0 => .array .int
  | 1 => .array .int
  | 2 => .array .int
  | 3 => .array .int
  | 4 => .array .int
  | 5 => .int
  | _ => .int
theorem nmC6 : ∀ a, a < 7 → ∀ b, b < 7 → a ≠ b → (TC6 a).2.1 ≠ (TC6 b).2.1 := by decide +kernel
theorem tyC6_ok : ∀ k, k < 7 → parseFieldDescriptor (TC6 k).2.2.1 = some (tyC6 k) := by decide +kernel
theorem inC6 : ∀ w ∈ u_ws RC6 TC6 7, w ∈ lw_tbl := by decide +kernel
def RC7 : String := "HandsHeld$Walk"
def TC7 : u_T := fun k => match k with
  | 0 => ("HandsHeld$Walk", "order", "[I", true)
  | 1 => ("HandsHeld$Walk", "size", "I", false)
  | 2 => ("HandsHeld$Walk", "far", "[I", true)
  | 3 => ("HandsHeld$Walk", "came", "[I", true)
  | _ => ("HandsHeld$Walk", "goal", "I", false)
def tyC7 : Nat → FieldType := fun k => match k with
  | 0 => .array .int
  | 1 => .int
  | 2 => .array .int
  | 3 => .array .int
  | _ => .int
theorem nmC7 : ∀ a, a < 5 → ∀ b, b < 5 → a ≠ b → (TC7 a).2.1 ≠ (TC7 b).2.1 := by decide +kernel
theorem tyC7_ok : ∀ k, k < 5 → parseFieldDescriptor (TC7 k).2.2.1 = some (tyC7 k) := by decide +kernel
theorem inC7 : ∀ w ∈ u_ws RC7 TC7 5, w ∈ lw_tbl := by decide +kernel
def RC8 : String := "HandsHeld$Duel"
def TC8 : u_T := fun k => match k with
  | 0 => ("HandsHeld$Duel", "result", "[I", true)
  | 1 => ("HandsHeld$Duel", "hours", "[I", true)
  | 2 => ("HandsHeld$Duel", "start", "I", false)
  | _ => ("HandsHeld$Duel", "best", "I", false)
def tyC8 : Nat → FieldType := fun k => match k with
  | 0 => .array .int
  | 1 => .array .int
  | 2 => .int
  | _ => .int
theorem nmC8 : ∀ a, a < 4 → ∀ b, b < 4 → a ≠ b → (TC8 a).2.1 ≠ (TC8 b).2.1 := by decide +kernel
theorem tyC8_ok : ∀ k, k < 4 → parseFieldDescriptor (TC8 k).2.2.1 = some (tyC8 k) := by decide +kernel
theorem inC8 : ∀ w ∈ u_ws RC8 TC8 4, w ∈ lw_tbl := by decide +kernel
def RC9 : String := "HandsHeld$Rows"
def TC9 : u_T := fun k => match k with
  | 0 => ("HandsHeld$Rows", "codes", "[I", true)
  | 1 => ("HandsHeld$Rows", "front", "LHandsHeld$Front;", false)
  | 2 => ("HandsHeld$Rows", "after", "LHandsHeld$Front;", false)
  | 3 => ("HandsHeld$Rows", "came", "[I", true)
  | _ => ("HandsHeld$Rows", "hours", "I", false)
def tyC9 : Nat → FieldType := fun k => match k with
  | 0 => .array .int
  | 1 => .object "HandsHeld$Front"
  | 2 => .object "HandsHeld$Front"
  | 3 => .array .int
  | _ => .int
theorem nmC9 : ∀ a, a < 5 → ∀ b, b < 5 → a ≠ b → (TC9 a).2.1 ≠ (TC9 b).2.1 := by decide +kernel
theorem tyC9_ok : ∀ k, k < 5 → parseFieldDescriptor (TC9 k).2.2.1 = some (tyC9 k) := by decide +kernel
theorem inC9 : ∀ w ∈ u_ws RC9 TC9 5, w ∈ lw_tbl := by decide +kernel
def RC10 : String := "HandsHeld$Front"
def TC10 : u_T := fun k => match k with
  | 0 => ("HandsHeld$Front", "states", "[I", true)
  | 1 => ("HandsHeld$Front", "size", "I", false)
  | 2 => ("HandsHeld$Front", "ways", "[J", true)
  | _ => ("HandsHeld$Front", "held", "[I", true)
def tyC10 : Nat → FieldType := fun k => match k with
  | 0 => .array .int
  | 1 => .int
  | 2 => .array .long
  | _ => .array .int
theorem nmC10 : ∀ a, a < 4 → ∀ b, b < 4 → a ≠ b → (TC10 a).2.1 ≠ (TC10 b).2.1 := by decide +kernel
theorem tyC10_ok : ∀ k, k < 4 → parseFieldDescriptor (TC10 k).2.2.1 = some (tyC10 k) := by decide +kernel
theorem inC10 : ∀ w ∈ u_ws RC10 TC10 4, w ∈ lw_tbl := by decide +kernel
def RC11 : String := "HandsHeld$Tray"
def TC11 : u_T := fun k => match k with
  | 0 => ("HandsHeld$Tray", "size", "I", false)
  | 1 => ("HandsHeld$Tray", "sort", "I", false)
  | _ => ("HandsHeld$Tray", "told", "[J", true)
def tyC11 : Nat → FieldType := fun k => match k with
  | 0 => .int
  | 1 => .int
  | _ => .array .long
theorem nmC11 : ∀ a, a < 3 → ∀ b, b < 3 → a ≠ b → (TC11 a).2.1 ≠ (TC11 b).2.1 := by decide +kernel
theorem tyC11_ok : ∀ k, k < 3 → parseFieldDescriptor (TC11 k).2.2.1 = some (tyC11 k) := by decide +kernel
theorem inC11 : ∀ w ∈ u_ws RC11 TC11 3, w ∈ lw_tbl := by decide +kernel
def RC12 : String := "HandsHeldModel"
def TC12 : u_T := fun k => match k with
  | 0 => ("HandsHeldModel", "thrown", "I", false)
  | 1 => ("HandsHeldModel", "all", "[I", true)
  | 2 => ("HandsHeldModel", "hasImage", "[Z", true)
  | 3 => ("HandsHeldModel", "tape", "[I", true)
  | 4 => ("HandsHeldModel", "fresh", "[I", true)
  | 5 => ("HandsHeldModel", "taped", "I", false)
  | 6 => ("HandsHeldModel", "at", "I", false)
  | 7 => ("HandsHeldModel", "behind", "I", false)
  | 8 => ("HandsHeldModel", "size", "I", false)
  | 9 => ("HandsHeldModel", "kind", "I", false)
  | 10 => ("HandsHeldModel", "number", "I", false)
  | 11 => ("HandsHeldModel", "wrong", "I", false)
  | 12 => ("HandsHeldModel", "wrongAt", "I", false)
  | 13 => ("HandsHeldModel", "faultKind", "I", false)
  | 14 => ("HandsHeldModel", "faultPlace", "I", false)
  | 15 => ("HandsHeldModel", "reading", "I", false)
  | 16 => ("HandsHeldModel", "reckoned", "[I", true)
  | 17 => ("HandsHeldModel", "words", "[I", true)
  | 18 => ("HandsHeldModel", "was", "[I", true)
  | 19 => ("HandsHeldModel", "toldWhy", "I", false)
  | 20 => ("HandsHeldModel", "x", "I", false)
  | 21 => ("HandsHeldModel", "stand", "[I", true)
  | 22 => ("HandsHeldModel", "then", "[I", true)
  | 23 => ("HandsHeldModel", "far", "[I", true)
  | 24 => ("HandsHeldModel", "farThen", "[I", true)
  | 25 => ("HandsHeldModel", "sides", "[B", true)
  | 26 => ("HandsHeldModel", "known", "[Z", true)
  | 27 => ("HandsHeldModel", "standMany", "I", false)
  | 28 => ("HandsHeldModel", "many", "[J", true)
  | 29 => ("HandsHeldModel", "manyThen", "[J", true)
  | 30 => ("HandsHeldModel", "on", "[J", true)
  | 31 => ("HandsHeldModel", "standBy", "[I", true)
  | 32 => ("HandsHeldModel", "rowSort", "[I", true)
  | 33 => ("HandsHeldModel", "rowMany", "[I", true)
  | _ => ("HandsHeldModel", "numbers", "[J", true)
def tyC12 : Nat → FieldType := fun k => match k with
  | 0 => .int
  | 1 => .array .int
  | 2 => .array .boolean
  | 3 => .array .int
  | 4 => .array .int
  | 5 => .int
  | 6 => .int
  | 7 => .int
  | 8 => .int
  | 9 => .int
  | 10 => .int
  | 11 => .int
  | 12 => .int
  | 13 => .int
  | 14 => .int
  | 15 => .int
  | 16 => .array .int
  | 17 => .array .int
  | 18 => .array .int
  | 19 => .int
  | 20 => .int
  | 21 => .array .int
  | 22 => .array .int
  | 23 => .array .int
  | 24 => .array .int
  | 25 => .array .byte
  | 26 => .array .boolean
  | 27 => .int
  | 28 => .array .long
  | 29 => .array .long
  | 30 => .array .long
  | 31 => .array .int
  | 32 => .array .int
  | 33 => .array .int
  | _ => .array .long
theorem nmC12 : ∀ a, a < 35 → ∀ b, b < 35 → a ≠ b → (TC12 a).2.1 ≠ (TC12 b).2.1 := by decide +kernel
theorem tyC12_ok : ∀ k, k < 35 → parseFieldDescriptor (TC12 k).2.2.1 = some (tyC12 k) := by decide +kernel
theorem inC12 : ∀ w ∈ u_ws RC12 TC12 35, w ∈ lw_tbl := by decide +kernel
/-- the classes of the worlds: 0 HandsHeld, 1 HandsHeld$Reader, 2 HandsHeld$Hall, 3 HandsHeld$Law, 4 HandsHeld$Moment, 5 HandsHeld$Steps, 6 HandsHeld$Watch, 7 HandsHeld$Walk, 8 HandsHeld$Duel, 9 HandsHeld$Rows, 10 HandsHeld$Front, 11 HandsHeld$Tray, 12 HandsHeldModel -/
abbrev vcl : List vw_C := [(RC0, TC0, 18), (RC1, TC1, 11), (RC2, TC2, 12), (RC3, TC3, 2), (RC4, TC4, 4), (RC5, TC5, 20), (RC6, TC6, 7), (RC7, TC7, 5), (RC8, TC8, 4), (RC9, TC9, 5), (RC10, TC10, 4), (RC11, TC11, 3), (RC12, TC12, 35)]
def tyOf (ci k : Nat) : FieldType := match ci with
  | 0 => tyC0 k
  | 1 => tyC1 k
  | 2 => tyC2 k
  | 3 => tyC3 k
  | 4 => tyC4 k
  | 5 => tyC5 k
  | 6 => tyC6 k
  | 7 => tyC7 k
  | 8 => tyC8 k
  | 9 => tyC9 k
  | 10 => tyC10 k
  | 11 => tyC11 k
  | _ => tyC12 k
theorem vcl_nm : ∀ (ci : Nat) (q : vw_C), vcl[ci]? = some q → ∀ a, a < q.2.2 → ∀ b, b < q.2.2 → a ≠ b → (q.2.1 a).2.1 ≠ (q.2.1 b).2.1 := by
  intro ci q hq
  match ci, hq with
  | 0, hq => cases hq; exact nmC0
  | 1, hq => cases hq; exact nmC1
  | 2, hq => cases hq; exact nmC2
  | 3, hq => cases hq; exact nmC3
  | 4, hq => cases hq; exact nmC4
  | 5, hq => cases hq; exact nmC5
  | 6, hq => cases hq; exact nmC6
  | 7, hq => cases hq; exact nmC7
  | 8, hq => cases hq; exact nmC8
  | 9, hq => cases hq; exact nmC9
  | 10, hq => cases hq; exact nmC10
  | 11, hq => cases hq; exact nmC11
  | 12, hq => cases hq; exact nmC12
  | k + 13, hq => simp [vcl] at hq
theorem vcl_ty : ∀ (ci : Nat) (q : vw_C), vcl[ci]? = some q → ∀ k, k < q.2.2 → parseFieldDescriptor (q.2.1 k).2.2.1 = some (tyOf ci k) := by
  intro ci q hq
  match ci, hq with
  | 0, hq => cases hq; exact tyC0_ok
  | 1, hq => cases hq; exact tyC1_ok
  | 2, hq => cases hq; exact tyC2_ok
  | 3, hq => cases hq; exact tyC3_ok
  | 4, hq => cases hq; exact tyC4_ok
  | 5, hq => cases hq; exact tyC5_ok
  | 6, hq => cases hq; exact tyC6_ok
  | 7, hq => cases hq; exact tyC7_ok
  | 8, hq => cases hq; exact tyC8_ok
  | 9, hq => cases hq; exact tyC9_ok
  | 10, hq => cases hq; exact tyC10_ok
  | 11, hq => cases hq; exact tyC11_ok
  | 12, hq => cases hq; exact tyC12_ok
  | k + 13, hq => simp [vcl] at hq
theorem vcl_in : ∀ (ci : Nat) (q : vw_C), vcl[ci]? = some q → ∀ w ∈ u_ws q.1 q.2.1 q.2.2, w ∈ lw_tbl := by
  intro ci q hq
  match ci, hq with
  | 0, hq => cases hq; exact inC0
  | 1, hq => cases hq; exact inC1
  | 2, hq => cases hq; exact inC2
  | 3, hq => cases hq; exact inC3
  | 4, hq => cases hq; exact inC4
  | 5, hq => cases hq; exact inC5
  | 6, hq => cases hq; exact inC6
  | 7, hq => cases hq; exact inC7
  | 8, hq => cases hq; exact inC8
  | 9, hq => cases hq; exact inC9
  | 10, hq => cases hq; exact inC10
  | 11, hq => cases hq; exact inC11
  | 12, hq => cases hq; exact inC12
  | k + 13, hq => simp [vcl] at hq
