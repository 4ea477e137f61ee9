abbrev R_SpeciesSolver : String := "SpeciesSolver"
def T_SpeciesSolver : u_T := fun k => match k with
  | 0 => ("SpeciesSolver", "setup", "LSpeciesSolver$Setup;", true)
  | 1 => ("SpeciesSolver", "rules", "LSpeciesSolver$Rules;", true)
  | 2 => ("SpeciesSolver", "finder", "LSpeciesSolver$FaultFinder;", true)
  | 3 => ("SpeciesSolver", "prices", "LSpeciesSolver$Prices;", true)
  | 4 => ("SpeciesSolver", "search", "LSpeciesSolver$Search;", true)
  | 5 => ("SpeciesSolver", "draft", "LSpeciesSolver$Line;", true)
  | 6 => ("SpeciesSolver", "attempted", "LSpeciesSolver$Line;", true)
  | 7 => ("SpeciesSolver", "best", "LSpeciesSolver$Line;", true)
  | 8 => ("SpeciesSolver", "bestCost", "I", false)
  | 9 => ("SpeciesSolver", "bestPerNote", "I", false)
  | 10 => ("SpeciesSolver", "bestLength", "I", false)
  | _ => ("SpeciesSolver", "searched", "Z", false)
def ty_SpeciesSolver : Nat → FieldType := fun k => match k with
  | 0 => .object "SpeciesSolver$Setup"
  | 1 => .object "SpeciesSolver$Rules"
  | 2 => .object "SpeciesSolver$FaultFinder"
  | 3 => .object "SpeciesSolver$Prices"
  | 4 => .object "SpeciesSolver$Search"
  | 5 => .object "SpeciesSolver$Line"
  | 6 => .object "SpeciesSolver$Line"
  | 7 => .object "SpeciesSolver$Line"
  | 8 => .int
  | 9 => .int
  | 10 => .int
  | _ => .boolean
theorem nmo_SpeciesSolver : ∀ a, a < 12 → ∀ b, b < 12 → a ≠ b → (T_SpeciesSolver a).2.1 ≠ (T_SpeciesSolver b).2.1 := by decide +kernel
theorem tok_SpeciesSolver : ∀ k, k < 12 → parseFieldDescriptor (T_SpeciesSolver k).2.2.1 = some (ty_SpeciesSolver k) := by decide +kernel
theorem inG_SpeciesSolver : ∀ w ∈ u_ws R_SpeciesSolver T_SpeciesSolver 12, w ∈ GW := by decide +kernel
abbrev R_SpeciesSolverModel : String := "SpeciesSolverModel"
def T_SpeciesSolverModel : u_T := fun k => match k with
  | 0 => ("SpeciesSolverModel", "thrown", "I", false)
  | 1 => ("SpeciesSolverModel", "draft", "[I", true)
  | 2 => ("SpeciesSolverModel", "drafted", "I", false)
  | 3 => ("SpeciesSolverModel", "given", "[I", true)
  | 4 => ("SpeciesSolverModel", "lines", "I", false)
  | 5 => ("SpeciesSolverModel", "n", "I", false)
  | 6 => ("SpeciesSolverModel", "species", "I", false)
  | 7 => ("SpeciesSolverModel", "above", "Z", false)
  | 8 => ("SpeciesSolverModel", "on", "[Z", true)
  | 9 => ("SpeciesSolverModel", "numbers", "[I", true)
  | 10 => ("SpeciesSolverModel", "trial", "[I", true)
  | 11 => ("SpeciesSolverModel", "trialSize", "I", false)
  | 12 => ("SpeciesSolverModel", "found", "[I", true)
  | 13 => ("SpeciesSolverModel", "foundSize", "I", false)
  | 14 => ("SpeciesSolverModel", "foundSpecies", "I", false)
  | 15 => ("SpeciesSolverModel", "foundN", "I", false)
  | 16 => ("SpeciesSolverModel", "foundCost", "I", false)
  | 17 => ("SpeciesSolverModel", "pitches", "[I", true)
  | 18 => ("SpeciesSolverModel", "chosen", "I", false)
  | 19 => ("SpeciesSolverModel", "least", "[I", true)
  | 20 => ("SpeciesSolverModel", "all", "[J", true)
  | 21 => ("SpeciesSolverModel", "best", "[J", true)
  | 22 => ("SpeciesSolverModel", "low", "I", false)
  | 23 => ("SpeciesSolverModel", "many", "J", false)
  | 24 => ("SpeciesSolverModel", "ties", "J", false)
  | 25 => ("SpeciesSolverModel", "line", "[I", true)
  | 26 => ("SpeciesSolverModel", "winner", "[I", true)
  | 27 => ("SpeciesSolverModel", "winnerCost", "I", false)
  | 28 => ("SpeciesSolverModel", "allMany", "J", false)
  | 29 => ("SpeciesSolverModel", "allTies", "J", false)
  | 30 => ("SpeciesSolverModel", "reached", "[Z", true)
  | 31 => ("SpeciesSolverModel", "faultRule", "[I", true)
  | 32 => ("SpeciesSolverModel", "faultNote", "[I", true)
  | 33 => ("SpeciesSolverModel", "faultLine", "[I", true)
  | _ => ("SpeciesSolverModel", "faults", "I", false)
def ty_SpeciesSolverModel : Nat → FieldType := fun k => match k with
  | 0 => .int
  | 1 => .array .int
  | 2 => .int
  | 3 => .array .int
  | 4 => .int
  | 5 => .int
  | 6 => .int
  | 7 => .boolean
  | 8 => .array .boolean
  | 9 => .array .int
  | 10 => .array .int
  | 11 => .int
  | 12 => .array .int
  | 13 => .int
  | 14 => .int
  | 15 => .int
  | 16 => .int
  | 17 => .array .int
  | 18 => .int
  | 19 => .array .int
  | 20 => .array .long
  | 21 => .array .long
  | 22 => .int
  | 23 => .long
  | 24 => .long
  | 25 => .array .int
  | 26 => .array .int
  | 27 => .int
  | 28 => .long
  | 29 => .long
  | 30 => .array .boolean
  | 31 => .array .int
  | 32 => .array .int
  | 33 => .array .int
  | _ => .int
theorem nmo_SpeciesSolverModel : ∀ a, a < 35 → ∀ b, b < 35 → a ≠ b → (T_SpeciesSolverModel a).2.1 ≠ (T_SpeciesSolverModel b).2.1 := by decide +kernel
theorem tok_SpeciesSolverModel : ∀ k, k < 35 → parseFieldDescriptor (T_SpeciesSolverModel k).2.2.1 = some (ty_SpeciesSolverModel k) := by decide +kernel
theorem inG_SpeciesSolverModel : ∀ w ∈ u_ws R_SpeciesSolverModel T_SpeciesSolverModel 35, w ∈ GW := by decide +kernel
abbrev R_FaultFinder : String := "SpeciesSolver$FaultFinder"
def T_FaultFinder : u_T := fun k => match k with
  | 0 => ("SpeciesSolver$FaultFinder", "setup", "LSpeciesSolver$Setup;", true)
  | 1 => ("SpeciesSolver$FaultFinder", "rules", "LSpeciesSolver$Rules;", true)
  | 2 => ("SpeciesSolver$FaultFinder", "faultRules", "[I", true)
  | 3 => ("SpeciesSolver$FaultFinder", "faultNotes", "[I", true)
  | 4 => ("SpeciesSolver$FaultFinder", "faultLines", "[I", true)
  | 5 => ("SpeciesSolver$FaultFinder", "faults", "I", false)
  | 6 => ("SpeciesSolver$FaultFinder", "highest", "I", false)
  | _ => ("SpeciesSolver$FaultFinder", "firstHighest", "I", false)
def ty_FaultFinder : Nat → FieldType := fun k => match k with
  | 0 => .object "SpeciesSolver$Setup"
  | 1 => .object "SpeciesSolver$Rules"
  | 2 => .array .int
  | 3 => .array .int
  | 4 => .array .int
  | 5 => .int
  | 6 => .int
  | _ => .int
theorem nmo_FaultFinder : ∀ a, a < 8 → ∀ b, b < 8 → a ≠ b → (T_FaultFinder a).2.1 ≠ (T_FaultFinder b).2.1 := by decide +kernel
theorem tok_FaultFinder : ∀ k, k < 8 → parseFieldDescriptor (T_FaultFinder k).2.2.1 = some (ty_FaultFinder k) := by decide +kernel
theorem inG_FaultFinder : ∀ w ∈ u_ws R_FaultFinder T_FaultFinder 8, w ∈ GW := by decide +kernel
abbrev R_Line : String := "SpeciesSolver$Line"
def T_Line : u_T := fun k => match k with
  | 0 => ("SpeciesSolver$Line", "notes", "[I", true)
  | _ => ("SpeciesSolver$Line", "size", "I", false)
def ty_Line : Nat → FieldType := fun k => match k with
  | 0 => .array .int
  | _ => .int
theorem nmo_Line : ∀ a, a < 2 → ∀ b, b < 2 → a ≠ b → (T_Line a).2.1 ≠ (T_Line b).2.1 := by decide +kernel
theorem tok_Line : ∀ k, k < 2 → parseFieldDescriptor (T_Line k).2.2.1 = some (ty_Line k) := by decide +kernel
theorem inG_Line : ∀ w ∈ u_ws R_Line T_Line 2, w ∈ GW := by decide +kernel
abbrev R_Prices : String := "SpeciesSolver$Prices"
def T_Prices : u_T := fun k => match k with
  | 0 => ("SpeciesSolver$Prices", "setup", "LSpeciesSolver$Setup;", true)
  | 1 => ("SpeciesSolver$Prices", "rules", "LSpeciesSolver$Rules;", true)
  | 2 => ("SpeciesSolver$Prices", "pitches", "[I", true)
  | 3 => ("SpeciesSolver$Prices", "notePrices", "[I", true)
  | 4 => ("SpeciesSolver$Prices", "mustPass", "[Z", true)
  | 5 => ("SpeciesSolver$Prices", "movePrices", "[I", true)
  | 6 => ("SpeciesSolver$Prices", "mustTurn", "[Z", true)
  | 7 => ("SpeciesSolver$Prices", "badClosings", "[Z", true)
  | 8 => ("SpeciesSolver$Prices", "badTurns", "[Z", true)
  | 9 => ("SpeciesSolver$Prices", "passings", "[Z", true)
  | 10 => ("SpeciesSolver$Prices", "strongPrices", "[I", true)
  | 11 => ("SpeciesSolver$Prices", "size", "I", false)
  | 12 => ("SpeciesSolver$Prices", "total", "I", false)
  | 13 => ("SpeciesSolver$Prices", "perNote", "I", false)
  | _ => ("SpeciesSolver$Prices", "mostAlike", "I", false)
def ty_Prices : Nat → FieldType := fun k => match k with
  | 0 => .object "SpeciesSolver$Setup"
  | 1 => .object "SpeciesSolver$Rules"
  | 2 => .array .int
  | 3 => .array .int
  | 4 => .array .boolean
  | 5 => .array .int
  | 6 => .array .boolean
  | 7 => .array .boolean
  | 8 => .array .boolean
  | 9 => .array .boolean
  | 10 => .array .int
  | 11 => .int
  | 12 => .int
  | 13 => .int
  | _ => .int
theorem nmo_Prices : ∀ a, a < 15 → ∀ b, b < 15 → a ≠ b → (T_Prices a).2.1 ≠ (T_Prices b).2.1 := by decide +kernel
theorem tok_Prices : ∀ k, k < 15 → parseFieldDescriptor (T_Prices k).2.2.1 = some (ty_Prices k) := by decide +kernel
theorem inG_Prices : ∀ w ∈ u_ws R_Prices T_Prices 15, w ∈ GW := by decide +kernel
abbrev R_Rules : String := "SpeciesSolver$Rules"
def T_Rules : u_T := fun k => match k with
  | _ => ("SpeciesSolver$Rules", "setup", "LSpeciesSolver$Setup;", true)
def ty_Rules : Nat → FieldType := fun k => match k with
  | _ => .object "SpeciesSolver$Setup"
theorem nmo_Rules : ∀ a, a < 1 → ∀ b, b < 1 → a ≠ b → (T_Rules a).2.1 ≠ (T_Rules b).2.1 := by decide +kernel
theorem tok_Rules : ∀ k, k < 1 → parseFieldDescriptor (T_Rules k).2.2.1 = some (ty_Rules k) := by decide +kernel
theorem inG_Rules : ∀ w ∈ u_ws R_Rules T_Rules 1, w ∈ GW := by decide +kernel
abbrev R_Search : String := "SpeciesSolver$Search"
def T_Search : u_T := fun k => match k with
  | 0 => ("SpeciesSolver$Search", "setup", "LSpeciesSolver$Setup;", true)
  | 1 => ("SpeciesSolver$Search", "prices", "LSpeciesSolver$Prices;", true)
  | 2 => ("SpeciesSolver$Search", "layers", "[I", true)
  | 3 => ("SpeciesSolver$Search", "layerSizes", "[I", true)
  | 4 => ("SpeciesSolver$Search", "nexts", "[I", true)
  | 5 => ("SpeciesSolver$Search", "places", "[I", true)
  | 6 => ("SpeciesSolver$Search", "marks", "[I", true)
  | 7 => ("SpeciesSolver$Search", "mark", "I", false)
  | 8 => ("SpeciesSolver$Search", "restCosts", "[I", true)
  | 9 => ("SpeciesSolver$Search", "restLines", "[J", true)
  | 10 => ("SpeciesSolver$Search", "restLeastLines", "[J", true)
  | 11 => ("SpeciesSolver$Search", "lowest", "[I", true)
  | 12 => ("SpeciesSolver$Search", "traced", "[I", true)
  | 13 => ("SpeciesSolver$Search", "top", "I", false)
  | 14 => ("SpeciesSolver$Search", "closes", "Z", false)
  | 15 => ("SpeciesSolver$Search", "leastCost", "I", false)
  | 16 => ("SpeciesSolver$Search", "allLines", "J", false)
  | _ => ("SpeciesSolver$Search", "leastLines", "J", false)
def ty_Search : Nat → FieldType := fun k => match k with
  | 0 => .object "SpeciesSolver$Setup"
  | 1 => .object "SpeciesSolver$Prices"
  | 2 => .array .int
  | 3 => .array .int
  | 4 => .array .int
  | 5 => .array .int
  | 6 => .array .int
  | 7 => .int
  | 8 => .array .int
  | 9 => .array .long
  | 10 => .array .long
  | 11 => .array .int
  | 12 => .array .int
  | 13 => .int
  | 14 => .boolean
  | 15 => .int
  | 16 => .long
  | _ => .long
theorem nmo_Search : ∀ a, a < 18 → ∀ b, b < 18 → a ≠ b → (T_Search a).2.1 ≠ (T_Search b).2.1 := by decide +kernel
theorem tok_Search : ∀ k, k < 18 → parseFieldDescriptor (T_Search k).2.2.1 = some (ty_Search k) := by decide +kernel
theorem inG_Search : ∀ w ∈ u_ws R_Search T_Search 18, w ∈ GW := by decide +kernel
abbrev R_Setup : String := "SpeciesSolver$Setup"
def T_Setup : u_T := fun k => match k with
  | 0 => ("SpeciesSolver$Setup", "numbers", "[I", true)
  | 1 => ("SpeciesSolver$Setup", "on", "[Z", true)
  | 2 => ("SpeciesSolver$Setup", "given", "[[I", true)
  | 3 => ("SpeciesSolver$Setup", "lines", "I", false)
  | 4 => ("SpeciesSolver$Setup", "length", "I", false)
  | 5 => ("SpeciesSolver$Setup", "perNote", "I", false)
  | _ => ("SpeciesSolver$Setup", "above", "Z", false)
def ty_Setup : Nat → FieldType := fun k => match k with
  | 0 => .array .int
  | 1 => .array .boolean
  | 2 => .array (.array .int)
  | 3 => .int
  | 4 => .int
  | 5 => .int
  | _ => .boolean
theorem nmo_Setup : ∀ a, a < 7 → ∀ b, b < 7 → a ≠ b → (T_Setup a).2.1 ≠ (T_Setup b).2.1 := by decide +kernel
theorem tok_Setup : ∀ k, k < 7 → parseFieldDescriptor (T_Setup k).2.2.1 = some (ty_Setup k) := by decide +kernel
theorem inG_Setup : ∀ w ∈ u_ws R_Setup T_Setup 7, w ∈ GW := by decide +kernel
abbrev vwCl : List vw_C := [(R_SpeciesSolver, T_SpeciesSolver, 12), (R_SpeciesSolverModel, T_SpeciesSolverModel, 35), (R_FaultFinder, T_FaultFinder, 8), (R_Line, T_Line, 2), (R_Prices, T_Prices, 15), (R_Rules, T_Rules, 1), (R_Search, T_Search, 18), (R_Setup, T_Setup, 7)]