def RX0 : String := "TwoWells$Homes"
def TX0 : u_T := fun k => match k with
  | 0 => ("TwoWells$Homes", "leastClash", "I", false)
  | 1 => ("TwoWells$Homes", "fewestMoved", "I", false)
  | 2 => ("TwoWells$Homes", "bestOrder", "[I", true)
  | 3 => ("TwoWells$Homes", "order", "[I", true)
  | 4 => ("TwoWells$Homes", "common", "[[I", true)
  | _ => ("TwoWells$Homes", "houses", "I", false)
def tyX0 : Nat → FieldType := fun k => match k with
  | 0 => .int
  | 1 => .int
  | 2 => .array .int
  | 3 => .array .int
  | 4 => .array (.array .int)
  | _ => .int
theorem nmX0 : ∀ a, a < 6 → ∀ b, b < 6 → a ≠ b → (TX0 a).2.1 ≠ (TX0 b).2.1 := by decide +kernel
theorem tyX0_ok : ∀ k, k < 6 → parseFieldDescriptor (TX0 k).2.2.1 = some (tyX0 k) := by decide +kernel
def RX1 : String := "TwoWells$Land"
def TX1 : u_T := fun k => match k with
  | 0 => ("TwoWells$Land", "houses", "I", false)
  | 1 => ("TwoWells$Land", "ropes", "I", false)
  | 2 => ("TwoWells$Land", "hour", "I", false)
  | 3 => ("TwoWells$Land", "heavier", "I", false)
  | 4 => ("TwoWells$Land", "fly", "I", false)
  | 5 => ("TwoWells$Land", "lines", "I", false)
  | 6 => ("TwoWells$Land", "strength", "[I", true)
  | 7 => ("TwoWells$Land", "level", "[I", true)
  | 8 => ("TwoWells$Land", "stock", "[I", true)
  | 9 => ("TwoWells$Land", "thirst", "[I", true)
  | 10 => ("TwoWells$Land", "quenched", "[I", true)
  | 11 => ("TwoWells$Land", "wasted", "[I", true)
  | 12 => ("TwoWells$Land", "length", "[I", true)
  | 13 => ("TwoWells$Land", "depth", "[I", true)
  | 14 => ("TwoWells$Land", "severed", "[Z", true)
  | 15 => ("TwoWells$Land", "end", "[I", true)
  | 16 => ("TwoWells$Land", "ballast", "[I", true)
  | _ => ("TwoWells$Land", "filled", "[Z", true)
def tyX1 : Nat → FieldType := fun k => match k with
  | 0 => .int
  | 1 => .int
  | 2 => .int
  | 3 => .int
  | 4 => .int
  | 5 => .int
  | 6 => .array .int
  | 7 => .array .int
  | 8 => .array .int
  | 9 => .array .int
  | 10 => .array .int
  | 11 => .array .int
  | 12 => .array .int
  | 13 => .array .int
  | 14 => .array .boolean
  | 15 => .array .int
  | 16 => .array .int
  | _ => .array .boolean
theorem nmX1 : ∀ a, a < 18 → ∀ b, b < 18 → a ≠ b → (TX1 a).2.1 ≠ (TX1 b).2.1 := by decide +kernel
theorem tyX1_ok : ∀ k, k < 18 → parseFieldDescriptor (TX1 k).2.2.1 = some (tyX1 k) := by decide +kernel
def RX2 : String := "TwoWells$Lonely"
def TX2 : u_T := fun k => match k with
  | 0 => ("TwoWells$Lonely", "most", "I", false)
  | 1 => ("TwoWells$Lonely", "bestRow", "[I", true)
  | 2 => ("TwoWells$Lonely", "row", "[I", true)
  | 3 => ("TwoWells$Lonely", "behind", "[LTwoWells$Land;", true)
  | 4 => ("TwoWells$Lonely", "pulls", "[I", true)
  | 5 => ("TwoWells$Lonely", "seeker", "I", false)
  | _ => ("TwoWells$Lonely", "hours", "I", false)
def tyX2 : Nat → FieldType := fun k => match k with
  | 0 => .int
  | 1 => .array .int
  | 2 => .array .int
  | 3 => .array (.object "TwoWells$Land")
  | 4 => .array .int
  | 5 => .int
  | _ => .int
theorem nmX2 : ∀ a, a < 7 → ∀ b, b < 7 → a ≠ b → (TX2 a).2.1 ≠ (TX2 b).2.1 := by decide +kernel
theorem tyX2_ok : ∀ k, k < 7 → parseFieldDescriptor (TX2 k).2.2.1 = some (tyX2 k) := by decide +kernel
def RX3 : String := "TwoWells$NumberRow"
def TX3 : u_T := fun k => match k with
  | 0 => ("TwoWells$NumberRow", "size", "I", false)
  | 1 => ("TwoWells$NumberRow", "sort", "I", false)
  | _ => ("TwoWells$NumberRow", "number", "[J", true)
def tyX3 : Nat → FieldType := fun k => match k with
  | 0 => .int
  | 1 => .int
  | _ => .array .long
theorem nmX3 : ∀ a, a < 3 → ∀ b, b < 3 → a ≠ b → (TX3 a).2.1 ≠ (TX3 b).2.1 := by decide +kernel
theorem tyX3_ok : ∀ k, k < 3 → parseFieldDescriptor (TX3 k).2.2.1 = some (tyX3 k) := by decide +kernel
def RX4 : String := "TwoWells$Search"
def TX4 : u_T := fun k => match k with
  | 0 => ("TwoWells$Search", "met", "LTwoWells$StateSet;", false)
  | 1 => ("TwoWells$Search", "next", "LTwoWells$StateSet;", false)
  | 2 => ("TwoWells$Search", "ropeAt", "[I", true)
  | 3 => ("TwoWells$Search", "open", "I", false)
  | 4 => ("TwoWells$Search", "choice", "[I", true)
  | 5 => ("TwoWells$Search", "choicePulls", "[I", true)
  | 6 => ("TwoWells$Search", "choices", "I", false)
  | 7 => ("TwoWells$Search", "depthThen", "[I", true)
  | 8 => ("TwoWells$Search", "likeWho", "[I", true)
  | 9 => ("TwoWells$Search", "stock", "[I", true)
  | 10 => ("TwoWells$Search", "land", "LTwoWells$Land;", true)
  | 11 => ("TwoWells$Search", "seeker", "I", false)
  | 12 => ("TwoWells$Search", "goal", "I", false)
  | _ => ("TwoWells$Search", "fewest", "I", false)
def tyX4 : Nat → FieldType := fun k => match k with
  | 0 => .object "TwoWells$StateSet"
  | 1 => .object "TwoWells$StateSet"
  | 2 => .array .int
  | 3 => .int
  | 4 => .array .int
  | 5 => .array .int
  | 6 => .int
  | 7 => .array .int
  | 8 => .array .int
  | 9 => .array .int
  | 10 => .object "TwoWells$Land"
  | 11 => .int
  | 12 => .int
  | _ => .int
theorem nmX4 : ∀ a, a < 14 → ∀ b, b < 14 → a ≠ b → (TX4 a).2.1 ≠ (TX4 b).2.1 := by decide +kernel
theorem tyX4_ok : ∀ k, k < 14 → parseFieldDescriptor (TX4 k).2.2.1 = some (tyX4 k) := by decide +kernel
def RX5 : String := "TwoWells$Sight"
def TX5 : u_T := fun k => match k with
  | 0 => ("TwoWells$Sight", "ways", "I", false)
  | 1 => ("TwoWells$Sight", "musts", "I", false)
  | 2 => ("TwoWells$Sight", "fits", "[Z", true)
  | _ => ("TwoWells$Sight", "pulls", "[I", true)
def tyX5 : Nat → FieldType := fun k => match k with
  | 0 => .int
  | 1 => .int
  | 2 => .array .boolean
  | _ => .array .int
theorem nmX5 : ∀ a, a < 4 → ∀ b, b < 4 → a ≠ b → (TX5 a).2.1 ≠ (TX5 b).2.1 := by decide +kernel
theorem tyX5_ok : ∀ k, k < 4 → parseFieldDescriptor (TX5 k).2.2.1 = some (tyX5 k) := by decide +kernel
def RX6 : String := "TwoWells$StateSet"
def TX6 : u_T := fun k => match k with
  | 0 => ("TwoWells$StateSet", "size", "I", false)
  | 1 => ("TwoWells$StateSet", "state", "[J", true)
  | 2 => ("TwoWells$StateSet", "price", "[I", true)
  | _ => ("TwoWells$StateSet", "slot", "[I", true)
def tyX6 : Nat → FieldType := fun k => match k with
  | 0 => .int
  | 1 => .array .long
  | 2 => .array .int
  | _ => .array .int
theorem nmX6 : ∀ a, a < 4 → ∀ b, b < 4 → a ≠ b → (TX6 a).2.1 ≠ (TX6 b).2.1 := by decide +kernel
theorem tyX6_ok : ∀ k, k < 4 → parseFieldDescriptor (TX6 k).2.2.1 = some (tyX6 k) := by decide +kernel
def RX7 : String := "TwoWells$Tally"
def TX7 : u_T := fun k => match k with
  | 0 => ("TwoWells$Tally", "place", "I", false)
  | 1 => ("TwoWells$Tally", "why", "I", false)
  | 2 => ("TwoWells$Tally", "hours", "I", false)
  | 3 => ("TwoWells$Tally", "drunk", "I", false)
  | 4 => ("TwoWells$Tally", "pullCount", "I", false)
  | 5 => ("TwoWells$Tally", "bothCount", "I", false)
  | 6 => ("TwoWells$Tally", "pulls", "[I", true)
  | _ => ("TwoWells$Tally", "pending", "I", false)
def tyX7 : Nat → FieldType := fun k => match k with
  | 0 => .int
  | 1 => .int
  | 2 => .int
  | 3 => .int
  | 4 => .int
  | 5 => .int
  | 6 => .array .int
  | _ => .int
theorem nmX7 : ∀ a, a < 8 → ∀ b, b < 8 → a ≠ b → (TX7 a).2.1 ≠ (TX7 b).2.1 := by decide +kernel
theorem tyX7_ok : ∀ k, k < 8 → parseFieldDescriptor (TX7 k).2.2.1 = some (tyX7 k) := by decide +kernel
def RX8 : String := "TwoWells$Tape"
def TX8 : u_T := fun k => match k with
  | 0 => ("TwoWells$Tape", "taped", "I", false)
  | 1 => ("TwoWells$Tape", "faultKind", "I", false)
  | 2 => ("TwoWells$Tape", "faultPlace", "I", false)
  | 3 => ("TwoWells$Tape", "bytes", "[B", true)
  | 4 => ("TwoWells$Tape", "size", "I", false)
  | 5 => ("TwoWells$Tape", "kind", "I", false)
  | 6 => ("TwoWells$Tape", "start", "I", false)
  | 7 => ("TwoWells$Tape", "behind", "I", false)
  | _ => ("TwoWells$Tape", "value", "I", false)
def tyX8 : Nat → FieldType := fun k => match k with
  | 0 => .int
  | 1 => .int
  | 2 => .int
  | 3 => .array .byte
  | 4 => .int
  | 5 => .int
  | 6 => .int
  | 7 => .int
  | _ => .int
theorem nmX8 : ∀ a, a < 9 → ∀ b, b < 9 → a ≠ b → (TX8 a).2.1 ≠ (TX8 b).2.1 := by decide +kernel
theorem tyX8_ok : ∀ k, k < 9 → parseFieldDescriptor (TX8 k).2.2.1 = some (tyX8 k) := by decide +kernel
def RX9 : String := "TwoWells$Ties"
def TX9 : u_T := fun k => match k with
  | 0 => ("TwoWells$Ties", "near", "[I", true)
  | _ => ("TwoWells$Ties", "houses", "I", false)
def tyX9 : Nat → FieldType := fun k => match k with
  | 0 => .array .int
  | _ => .int
theorem nmX9 : ∀ a, a < 2 → ∀ b, b < 2 → a ≠ b → (TX9 a).2.1 ≠ (TX9 b).2.1 := by decide +kernel
theorem tyX9_ok : ∀ k, k < 2 → parseFieldDescriptor (TX9 k).2.2.1 = some (tyX9 k) := by decide +kernel
def RX10 : String := "TwoWells"
def TX10 : u_T := fun k => match k with
  | 0 => ("TwoWells", "tape", "LTwoWells$Tape;", true)
  | 1 => ("TwoWells", "here", "LTwoWells$Land;", true)
  | 2 => ("TwoWells", "trial", "LTwoWells$Land;", true)
  | 3 => ("TwoWells", "images", "[LTwoWells$Land;", true)
  | 4 => ("TwoWells", "imaged", "[Z", true)
  | 5 => ("TwoWells", "rows", "[LTwoWells$NumberRow;", true)
  | 6 => ("TwoWells", "tally", "LTwoWells$Tally;", true)
  | 7 => ("TwoWells", "ties", "LTwoWells$Ties;", true)
  | 8 => ("TwoWells", "lonely", "LTwoWells$Lonely;", true)
  | 9 => ("TwoWells", "homes", "LTwoWells$Homes;", true)
  | 10 => ("TwoWells", "sight", "LTwoWells$Sight;", true)
  | _ => ("TwoWells", "search", "LTwoWells$Search;", false)
def tyX10 : Nat → FieldType := fun k => match k with
  | 0 => .object "TwoWells$Tape"
  | 1 => .object "TwoWells$Land"
  | 2 => .object "TwoWells$Land"
  | 3 => .array (.object "TwoWells$Land")
  | 4 => .array .boolean
  | 5 => .array (.object "TwoWells$NumberRow")
  | 6 => .object "TwoWells$Tally"
  | 7 => .object "TwoWells$Ties"
  | 8 => .object "TwoWells$Lonely"
  | 9 => .object "TwoWells$Homes"
  | 10 => .object "TwoWells$Sight"
  | _ => .object "TwoWells$Search"
theorem nmX10 : ∀ a, a < 12 → ∀ b, b < 12 → a ≠ b → (TX10 a).2.1 ≠ (TX10 b).2.1 := by decide +kernel
theorem tyX10_ok : ∀ k, k < 12 → parseFieldDescriptor (TX10 k).2.2.1 = some (tyX10 k) := by decide +kernel
def RX11 : String := "TwoWellsModel"
def TX11 : u_T := fun k => match k with
  | 0 => ("TwoWellsModel", "thrown", "I", false)
  | 1 => ("TwoWellsModel", "all", "[I", true)
  | 2 => ("TwoWellsModel", "hasImage", "[Z", true)
  | 3 => ("TwoWellsModel", "tape", "[I", true)
  | 4 => ("TwoWellsModel", "fresh", "[I", true)
  | 5 => ("TwoWellsModel", "taped", "I", false)
  | 6 => ("TwoWellsModel", "at", "I", false)
  | 7 => ("TwoWellsModel", "behind", "I", false)
  | 8 => ("TwoWellsModel", "size", "I", false)
  | 9 => ("TwoWellsModel", "kind", "I", false)
  | 10 => ("TwoWellsModel", "number", "I", false)
  | 11 => ("TwoWellsModel", "wrong", "I", false)
  | 12 => ("TwoWellsModel", "wrongAt", "I", false)
  | 13 => ("TwoWellsModel", "faultKind", "I", false)
  | 14 => ("TwoWellsModel", "faultPlace", "I", false)
  | 15 => ("TwoWellsModel", "pulls", "[I", true)
  | 16 => ("TwoWellsModel", "kept", "[I", true)
  | 17 => ("TwoWellsModel", "why", "I", false)
  | 18 => ("TwoWellsModel", "went", "I", false)
  | 19 => ("TwoWellsModel", "drunk", "I", false)
  | 20 => ("TwoWellsModel", "pulledMany", "I", false)
  | 21 => ("TwoWellsModel", "bothMany", "I", false)
  | 22 => ("TwoWellsModel", "far", "[I", true)
  | 23 => ("TwoWellsModel", "states", "[J", true)
  | 24 => ("TwoWellsModel", "table", "[I", true)
  | 25 => ("TwoWellsModel", "hung", "[I", true)
  | 26 => ("TwoWellsModel", "stateMany", "I", false)
  | 27 => ("TwoWellsModel", "hungMany", "I", false)
  | 28 => ("TwoWellsModel", "nowStates", "[J", true)
  | 29 => ("TwoWellsModel", "nowCost", "[I", true)
  | 30 => ("TwoWellsModel", "thenCost", "[I", true)
  | 31 => ("TwoWellsModel", "cheapestYet", "I", false)
  | 32 => ("TwoWellsModel", "rowNow", "[I", true)
  | 33 => ("TwoWellsModel", "rowBest", "[I", true)
  | 34 => ("TwoWellsModel", "buckets", "[I", true)
  | 35 => ("TwoWellsModel", "rowMost", "I", false)
  | 36 => ("TwoWellsModel", "order", "[I", true)
  | 37 => ("TwoWellsModel", "bestOrder", "[I", true)
  | 38 => ("TwoWellsModel", "bestClash", "I", false)
  | 39 => ("TwoWellsModel", "bestMoved", "I", false)
  | 40 => ("TwoWellsModel", "alwaysPull", "I", false)
  | 41 => ("TwoWellsModel", "rowSort", "[I", true)
  | 42 => ("TwoWellsModel", "rowMany", "[I", true)
  | _ => ("TwoWellsModel", "numbers", "[J", true)
def tyX11 : Nat → FieldType := fun k => match k with
  | 0 => .int
  | 1 => .array .int
  | 2 => .array .boolean
  | 3 => .array .int
  | 4 => .array .int
  | 5 => .int
  | 6 => .int
  | 7 => .int
  | 8 => .int
  | 9 => .int
  | 10 => .int
  | 11 => .int
  | 12 => .int
  | 13 => .int
  | 14 => .int
  | 15 => .array .int
  | 16 => .array .int
  | 17 => .int
  | 18 => .int
  | 19 => .int
  | 20 => .int
  | 21 => .int
  | 22 => .array .int
  | 23 => .array .long
  | 24 => .array .int
  | 25 => .array .int
  | 26 => .int
  | 27 => .int
  | 28 => .array .long
  | 29 => .array .int
  | 30 => .array .int
  | 31 => .int
  | 32 => .array .int
  | 33 => .array .int
  | 34 => .array .int
  | 35 => .int
  | 36 => .array .int
  | 37 => .array .int
  | 38 => .int
  | 39 => .int
  | 40 => .int
  | 41 => .array .int
  | 42 => .array .int
  | _ => .array .long
theorem nmX11 : ∀ a, a < 44 → ∀ b, b < 44 → a ≠ b → (TX11 a).2.1 ≠ (TX11 b).2.1 := by decide +kernel
theorem tyX11_ok : ∀ k, k < 44 → parseFieldDescriptor (TX11 k).2.2.1 = some (tyX11 k) := by decide +kernel
def RL : String := "TwoWellsLaw"
abbrev vwCl : List vw_C := [(RX0, TX0, 6), (RX1, TX1, 18), (RX2, TX2, 7), (RX3, TX3, 3), (RX4, TX4, 14), (RX5, TX5, 4), (RX6, TX6, 4), (RX7, TX7, 8), (RX8, TX8, 9), (RX9, TX9, 2), (RX10, TX10, 12), (RX11, TX11, 44)]
set_option maxRecDepth 100000 in
theorem inX0 : ∀ w ∈ u_ws RX0 TX0 6, w ∈ lw_tbl := by decide +kernel
set_option maxRecDepth 100000 in
theorem inX1 : ∀ w ∈ u_ws RX1 TX1 18, w ∈ lw_tbl := by decide +kernel
set_option maxRecDepth 100000 in
theorem inX2 : ∀ w ∈ u_ws RX2 TX2 7, w ∈ lw_tbl := by decide +kernel
set_option maxRecDepth 100000 in
theorem inX3 : ∀ w ∈ u_ws RX3 TX3 3, w ∈ lw_tbl := by decide +kernel
set_option maxRecDepth 100000 in
theorem inX4 : ∀ w ∈ u_ws RX4 TX4 14, w ∈ lw_tbl := by decide +kernel
set_option maxRecDepth 100000 in
theorem inX5 : ∀ w ∈ u_ws RX5 TX5 4, w ∈ lw_tbl := by decide +kernel
set_option maxRecDepth 100000 in
theorem inX6 : ∀ w ∈ u_ws RX6 TX6 4, w ∈ lw_tbl := by decide +kernel
set_option maxRecDepth 100000 in
theorem inX7 : ∀ w ∈ u_ws RX7 TX7 8, w ∈ lw_tbl := by decide +kernel
set_option maxRecDepth 100000 in
theorem inX8 : ∀ w ∈ u_ws RX8 TX8 9, w ∈ lw_tbl := by decide +kernel
set_option maxRecDepth 100000 in
theorem inX9 : ∀ w ∈ u_ws RX9 TX9 2, w ∈ lw_tbl := by decide +kernel
set_option maxRecDepth 100000 in
theorem inX10 : ∀ w ∈ u_ws RX10 TX10 12, w ∈ lw_tbl := by decide +kernel
set_option maxRecDepth 100000 in
theorem inX11 : ∀ w ∈ u_ws RX11 TX11 44, w ∈ lw_tbl := by decide +kernel
def fT (ci : Nat) : Nat → FieldType := match ci with
  | 0 => tyX0
  | 1 => tyX1
  | 2 => tyX2
  | 3 => tyX3
  | 4 => tyX4
  | 5 => tyX5
  | 6 => tyX6
  | 7 => tyX7
  | 8 => tyX8
  | 9 => tyX9
  | 10 => tyX10
  | _ => tyX11
/-- what the tables say of each class of the system: its fields, their types, their names -/
theorem kc_all : ∀ (ci : Nat) (q : vw_C), vwCl[ci]? = some q → (∀ w ∈ u_ws q.1 q.2.1 q.2.2, w ∈ lw_tbl) ∧ (∀ k, k < q.2.2 → parseFieldDescriptor (q.2.1 k).2.2.1 = some (fT ci k)) ∧ (∀ a, a < q.2.2 → ∀ b, b < q.2.2 → a ≠ b → (q.2.1 a).2.1 ≠ (q.2.1 b).2.1) ∧ ∀ k, k < q.2.2 → (q.2.1 k).1 = q.1 := by
  intro ci q h
  match ci, h with
  | 0, h => cases h; exact ⟨inX0, tyX0_ok, nmX0, by decide +kernel⟩
  | 1, h => cases h; exact ⟨inX1, tyX1_ok, nmX1, by decide +kernel⟩
  | 2, h => cases h; exact ⟨inX2, tyX2_ok, nmX2, by decide +kernel⟩
  | 3, h => cases h; exact ⟨inX3, tyX3_ok, nmX3, by decide +kernel⟩
  | 4, h => cases h; exact ⟨inX4, tyX4_ok, nmX4, by decide +kernel⟩
  | 5, h => cases h; exact ⟨inX5, tyX5_ok, nmX5, by decide +kernel⟩
  | 6, h => cases h; exact ⟨inX6, tyX6_ok, nmX6, by decide +kernel⟩
  | 7, h => cases h; exact ⟨inX7, tyX7_ok, nmX7, by decide +kernel⟩
  | 8, h => cases h; exact ⟨inX8, tyX8_ok, nmX8, by decide +kernel⟩
  | 9, h => cases h; exact ⟨inX9, tyX9_ok, nmX9, by decide +kernel⟩
  | 10, h => cases h; exact ⟨inX10, tyX10_ok, nmX10, by decide +kernel⟩
  | 11, h => cases h; exact ⟨inX11, tyX11_ok, nmX11, by decide +kernel⟩
  | ci + 12, h => simp [vwCl] at h
