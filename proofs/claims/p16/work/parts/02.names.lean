def RX0 : String := "OldestLaw$Cases"
def TX0 : u_T := fun k => match k with
  | 0 => ("OldestLaw$Cases", "low", "J", false)
  | _ => ("OldestLaw$Cases", "high", "J", false)
def tyX0 : Nat → FieldType := fun k => match k with
  | 0 => .long
  | _ => .long
abbrev wsX00 : List Cond := u_ws RX0 TX0 2
theorem nmX0 : ∀ a, a < 2 → ∀ b, b < 2 → a ≠ b → (TX0 a).2.1 ≠ (TX0 b).2.1 := by decide +kernel
theorem tyX0_ok : ∀ k, k < 2 → parseFieldDescriptor (TX0 k).2.2.1 = some (tyX0 k) := by decide +kernel
def RX1 : String := "OldestLaw$Changes"
def TX1 : u_T := fun k => match k with
  | 0 => ("OldestLaw$Changes", "done", "I", false)
  | 1 => ("OldestLaw$Changes", "all", "I", false)
  | 2 => ("OldestLaw$Changes", "numbers", "[I", true)
  | 3 => ("OldestLaw$Changes", "whats", "[I", true)
  | 4 => ("OldestLaw$Changes", "olds", "[I", true)
  | _ => ("OldestLaw$Changes", "news", "[I", true)
def tyX1 : Nat → FieldType := fun k => match k with
  | 0 => .int
  | 1 => .int
  | 2 => .array .int
  | 3 => .array .int
  | 4 => .array .int
  | _ => .array .int
abbrev wsX10 : List Cond := u_ws RX1 TX1 6
theorem nmX1 : ∀ a, a < 6 → ∀ b, b < 6 → a ≠ b → (TX1 a).2.1 ≠ (TX1 b).2.1 := by decide +kernel
theorem tyX1_ok : ∀ k, k < 6 → parseFieldDescriptor (TX1 k).2.2.1 = some (tyX1 k) := by decide +kernel
def RX2 : String := "OldestLaw$Clauses"
def TX2 : u_T := fun k => match k with
  | 0 => ("OldestLaw$Clauses", "many", "I", false)
  | 1 => ("OldestLaw$Clauses", "ran", "I", false)
  | 2 => ("OldestLaw$Clauses", "kinds", "[I", true)
  | _ => ("OldestLaw$Clauses", "traces", "[I", true)
def tyX2 : Nat → FieldType := fun k => match k with
  | 0 => .int
  | 1 => .int
  | 2 => .array .int
  | _ => .array .int
abbrev wsX20 : List Cond := u_ws RX2 TX2 4
theorem nmX2 : ∀ a, a < 4 → ∀ b, b < 4 → a ≠ b → (TX2 a).2.1 ≠ (TX2 b).2.1 := by decide +kernel
theorem tyX2_ok : ∀ k, k < 4 → parseFieldDescriptor (TX2 k).2.2.1 = some (tyX2 k) := by decide +kernel
def RX3 : String := "OldestLaw$Court"
def TX3 : u_T := fun k => match k with
  | 0 => ("OldestLaw$Court", "words", "LOldestLaw$Words;", true)
  | 1 => ("OldestLaw$Court", "many", "I", false)
  | 2 => ("OldestLaw$Court", "rule", "I", false)
  | 3 => ("OldestLaw$Court", "today", "I", false)
  | 4 => ("OldestLaw$Court", "standing", "I", false)
  | 5 => ("OldestLaw$Court", "laws", "[LOldestLaw$Law;", true)
  | 6 => ("OldestLaw$Court", "nobody", "LOldestLaw$Law;", true)
  | 7 => ("OldestLaw$Court", "byAge", "[I", true)
  | 8 => ("OldestLaw$Court", "names", "[I", true)
  | _ => ("OldestLaw$Court", "verdicts", "[I", true)
def tyX3 : Nat → FieldType := fun k => match k with
  | 0 => .object "OldestLaw$Words"
  | 1 => .int
  | 2 => .int
  | 3 => .int
  | 4 => .int
  | 5 => .array (.object "OldestLaw$Law")
  | 6 => .object "OldestLaw$Law"
  | 7 => .array .int
  | 8 => .array .int
  | _ => .array .int
abbrev wsX30 : List Cond := u_ws RX3 TX3 10
theorem nmX3 : ∀ a, a < 10 → ∀ b, b < 10 → a ≠ b → (TX3 a).2.1 ≠ (TX3 b).2.1 := by decide +kernel
theorem tyX3_ok : ∀ k, k < 10 → parseFieldDescriptor (TX3 k).2.2.1 = some (tyX3 k) := by decide +kernel
def RX4 : String := "OldestLaw$Law"
def TX4 : u_T := fun k => match k with
  | 0 => ("OldestLaw$Law", "number", "I", true)
  | 1 => ("OldestLaw$Law", "date", "I", false)
  | 2 => ("OldestLaw$Law", "says", "I", false)
  | 3 => ("OldestLaw$Law", "strikes", "I", false)
  | 4 => ("OldestLaw$Law", "text", "LOldestLaw$Text;", true)
  | 5 => ("OldestLaw$Law", "speech", "LOldestLaw$Cases;", true)
  | 6 => ("OldestLaw$Law", "heardDate", "I", false)
  | 7 => ("OldestLaw$Law", "heardToday", "I", false)
  | 8 => ("OldestLaw$Law", "heardWords", "I", false)
  | 9 => ("OldestLaw$Law", "imageDate", "I", false)
  | 10 => ("OldestLaw$Law", "imageSays", "I", false)
  | _ => ("OldestLaw$Law", "imageStrikes", "I", false)
def tyX4 : Nat → FieldType := fun k => match k with
  | 0 => .int
  | 1 => .int
  | 2 => .int
  | 3 => .int
  | 4 => .object "OldestLaw$Text"
  | 5 => .object "OldestLaw$Cases"
  | 6 => .int
  | 7 => .int
  | 8 => .int
  | 9 => .int
  | 10 => .int
  | _ => .int
abbrev wsX40 : List Cond := u_ws RX4 TX4 12
theorem nmX4 : ∀ a, a < 12 → ∀ b, b < 12 → a ≠ b → (TX4 a).2.1 ≠ (TX4 b).2.1 := by decide +kernel
theorem tyX4_ok : ∀ k, k < 12 → parseFieldDescriptor (TX4 k).2.2.1 = some (tyX4 k) := by decide +kernel
def RX5 : String := "OldestLaw$Reader"
def TX5 : u_T := fun k => match k with
  | 0 => ("OldestLaw$Reader", "text", "LOldestLaw$Text;", true)
  | 1 => ("OldestLaw$Reader", "bytes", "[I", true)
  | 2 => ("OldestLaw$Reader", "many", "I", false)
  | _ => ("OldestLaw$Reader", "place", "I", false)
def tyX5 : Nat → FieldType := fun k => match k with
  | 0 => .object "OldestLaw$Text"
  | 1 => .array .int
  | 2 => .int
  | _ => .int
abbrev wsX50 : List Cond := u_ws RX5 TX5 4
theorem nmX5 : ∀ a, a < 4 → ∀ b, b < 4 → a ≠ b → (TX5 a).2.1 ≠ (TX5 b).2.1 := by decide +kernel
theorem tyX5_ok : ∀ k, k < 4 → parseFieldDescriptor (TX5 k).2.2.1 = some (tyX5 k) := by decide +kernel
def RX6 : String := "OldestLaw$Shelf"
def TX6 : u_T := fun k => match k with
  | 0 => ("OldestLaw$Shelf", "holds", "I", false)
  | 1 => ("OldestLaw$Shelf", "body", "I", false)
  | 2 => ("OldestLaw$Shelf", "size", "I", false)
  | _ => ("OldestLaw$Shelf", "elements", "[J", true)
def tyX6 : Nat → FieldType := fun k => match k with
  | 0 => .int
  | 1 => .int
  | 2 => .int
  | _ => .array .long
abbrev wsX60 : List Cond := u_ws RX6 TX6 4
theorem nmX6 : ∀ a, a < 4 → ∀ b, b < 4 → a ≠ b → (TX6 a).2.1 ≠ (TX6 b).2.1 := by decide +kernel
theorem tyX6_ok : ∀ k, k < 4 → parseFieldDescriptor (TX6 k).2.2.1 = some (tyX6 k) := by decide +kernel
def RX7 : String := "OldestLaw$Text"
def TX7 : u_T := fun k => match k with
  | 0 => ("OldestLaw$Text", "steps", "[I", true)
  | 1 => ("OldestLaw$Text", "stack", "[I", true)
  | _ => ("OldestLaw$Text", "length", "I", false)
def tyX7 : Nat → FieldType := fun k => match k with
  | 0 => .array .int
  | 1 => .array .int
  | _ => .int
abbrev wsX70 : List Cond := u_ws RX7 TX7 3
theorem nmX7 : ∀ a, a < 3 → ∀ b, b < 3 → a ≠ b → (TX7 a).2.1 ≠ (TX7 b).2.1 := by decide +kernel
theorem tyX7_ok : ∀ k, k < 3 → parseFieldDescriptor (TX7 k).2.2.1 = some (tyX7 k) := by decide +kernel
def RX8 : String := "OldestLaw$Wordings"
def TX8 : u_T := fun k => match k with
  | 0 => ("OldestLaw$Wordings", "law", "LOldestLaw$Law;", true)
  | 1 => ("OldestLaw$Wordings", "met", "[LOldestLaw$Cases;", true)
  | 2 => ("OldestLaw$Wordings", "all", "LOldestLaw$Cases;", true)
  | 3 => ("OldestLaw$Wordings", "holding", "[I", true)
  | 4 => ("OldestLaw$Wordings", "first", "I", false)
  | _ => ("OldestLaw$Wordings", "second", "I", false)
def tyX8 : Nat → FieldType := fun k => match k with
  | 0 => .object "OldestLaw$Law"
  | 1 => .array (.object "OldestLaw$Cases")
  | 2 => .object "OldestLaw$Cases"
  | 3 => .array .int
  | 4 => .int
  | _ => .int
abbrev wsX80 : List Cond := u_ws RX8 TX8 6
theorem nmX8 : ∀ a, a < 6 → ∀ b, b < 6 → a ≠ b → (TX8 a).2.1 ≠ (TX8 b).2.1 := by decide +kernel
theorem tyX8_ok : ∀ k, k < 6 → parseFieldDescriptor (TX8 k).2.2.1 = some (tyX8 k) := by decide +kernel
def RX9 : String := "OldestLaw$Words"
def TX9 : u_T := fun k => match k with
  | 0 => ("OldestLaw$Words", "to", "[I", true)
  | 1 => ("OldestLaw$Words", "from", "[I", true)
  | 2 => ("OldestLaw$Words", "imageTo", "[I", true)
  | _ => ("OldestLaw$Words", "imageFrom", "[I", true)
def tyX9 : Nat → FieldType := fun k => match k with
  | 0 => .array .int
  | 1 => .array .int
  | 2 => .array .int
  | _ => .array .int
abbrev wsX90 : List Cond := u_ws RX9 TX9 4
theorem nmX9 : ∀ a, a < 4 → ∀ b, b < 4 → a ≠ b → (TX9 a).2.1 ≠ (TX9 b).2.1 := by decide +kernel
theorem tyX9_ok : ∀ k, k < 4 → parseFieldDescriptor (TX9 k).2.2.1 = some (tyX9 k) := by decide +kernel
def RX10 : String := "OldestLaw"
def TX10 : u_T := fun k => match k with
  | 0 => ("OldestLaw", "tape", "[I", true)
  | 1 => ("OldestLaw", "taped", "I", false)
  | 2 => ("OldestLaw", "comparison", "[I", true)
  | 3 => ("OldestLaw", "reader", "LOldestLaw$Reader;", true)
  | 4 => ("OldestLaw", "court", "LOldestLaw$Court;", true)
  | 5 => ("OldestLaw", "changes", "LOldestLaw$Changes;", true)
  | 6 => ("OldestLaw", "wordings", "LOldestLaw$Wordings;", true)
  | 7 => ("OldestLaw", "clauses", "LOldestLaw$Clauses;", true)
  | 8 => ("OldestLaw", "shelves", "[LOldestLaw$Shelf;", true)
  | 9 => ("OldestLaw", "noShelf", "LOldestLaw$Shelf;", true)
  | 10 => ("OldestLaw", "found", "LOldestLaw$Cases;", true)
  | _ => ("OldestLaw", "imaged", "I", false)
def tyX10 : Nat → FieldType := fun k => match k with
  | 0 => .array .int
  | 1 => .int
  | 2 => .array .int
  | 3 => .object "OldestLaw$Reader"
  | 4 => .object "OldestLaw$Court"
  | 5 => .object "OldestLaw$Changes"
  | 6 => .object "OldestLaw$Wordings"
  | 7 => .object "OldestLaw$Clauses"
  | 8 => .array (.object "OldestLaw$Shelf")
  | 9 => .object "OldestLaw$Shelf"
  | 10 => .object "OldestLaw$Cases"
  | _ => .int
abbrev wsX100 : List Cond := u_ws RX10 TX10 12
theorem nmX10 : ∀ a, a < 12 → ∀ b, b < 12 → a ≠ b → (TX10 a).2.1 ≠ (TX10 b).2.1 := by decide +kernel
theorem tyX10_ok : ∀ k, k < 12 → parseFieldDescriptor (TX10 k).2.2.1 = some (tyX10 k) := by decide +kernel
def RX11 : String := "OldestLawModel"
def TX11 : u_T := fun k => match k with
  | 0 => ("OldestLawModel", "code", "I", false)
  | 1 => ("OldestLawModel", "tape", "[B", true)
  | 2 => ("OldestLawModel", "taped", "I", false)
  | 3 => ("OldestLawModel", "here", "I", false)
  | 4 => ("OldestLawModel", "fault", "I", false)
  | 5 => ("OldestLawModel", "open", "I", false)
  | 6 => ("OldestLawModel", "laid", "I", false)
  | 7 => ("OldestLawModel", "act", "[B", true)
  | 8 => ("OldestLawModel", "with", "[I", true)
  | 9 => ("OldestLawModel", "lineMany", "[I", true)
  | 10 => ("OldestLawModel", "testEnd", "[S", true)
  | 11 => ("OldestLawModel", "lineEnd", "[S", true)
  | 12 => ("OldestLawModel", "facts", "[I", true)
  | 13 => ("OldestLawModel", "pile", "[I", true)
  | 14 => ("OldestLawModel", "laws", "I", false)
  | 15 => ("OldestLawModel", "date", "[I", true)
  | 16 => ("OldestLawModel", "says", "[I", true)
  | 17 => ("OldestLawModel", "strikes", "[I", true)
  | 18 => ("OldestLawModel", "rule", "I", false)
  | 19 => ("OldestLawModel", "today", "I", false)
  | 20 => ("OldestLawModel", "means", "[I", true)
  | 21 => ("OldestLawModel", "meansFrom", "[I", true)
  | 22 => ("OldestLawModel", "spare", "[B", true)
  | 23 => ("OldestLawModel", "doneMany", "I", false)
  | 24 => ("OldestLawModel", "undoneMany", "I", false)
  | 25 => ("OldestLawModel", "changeOf", "[I", true)
  | 26 => ("OldestLawModel", "changeAt", "[I", true)
  | 27 => ("OldestLawModel", "before", "[I", true)
  | 28 => ("OldestLawModel", "behind", "[I", true)
  | 29 => ("OldestLawModel", "stands", "[Z", true)
  | 30 => ("OldestLawModel", "left1", "I", false)
  | 31 => ("OldestLawModel", "oldest", "I", false)
  | 32 => ("OldestLawModel", "speaks", "[Z", true)
  | 33 => ("OldestLawModel", "speaksIn", "[I", true)
  | 34 => ("OldestLawModel", "was", "[I", true)
  | 35 => ("OldestLawModel", "hasImage", "Z", false)
  | 36 => ("OldestLawModel", "keptLaws", "I", false)
  | 37 => ("OldestLawModel", "keptDate", "[I", true)
  | 38 => ("OldestLawModel", "keptSays", "[I", true)
  | 39 => ("OldestLawModel", "keptStrikes", "[I", true)
  | 40 => ("OldestLawModel", "keptMeans", "[I", true)
  | 41 => ("OldestLawModel", "keptFrom", "[I", true)
  | 42 => ("OldestLawModel", "bodies", "I", false)
  | 43 => ("OldestLawModel", "kind", "[I", true)
  | 44 => ("OldestLawModel", "traces", "I", false)
  | 45 => ("OldestLawModel", "traced", "[I", true)
  | 46 => ("OldestLawModel", "holds", "[I", true)
  | 47 => ("OldestLawModel", "size", "[I", true)
  | 48 => ("OldestLawModel", "elements", "[J", true)
  | _ => ("OldestLawModel", "shifted", "[J", true)
def tyX11 : Nat → FieldType := fun k => match k with
  | 0 => .int
  | 1 => .array .byte
  | 2 => .int
  | 3 => .int
  | 4 => .int
  | 5 => .int
  | 6 => .int
  | 7 => .array .byte
  | 8 => .array .int
  | 9 => .array .int
  | 10 => .array .short
  | 11 => .array .short
  | 12 => .array .int
  | 13 => .array .int
  | 14 => .int
  | 15 => .array .int
  | 16 => .array .int
  | 17 => .array .int
  | 18 => .int
  | 19 => .int
  | 20 => .array .int
  | 21 => .array .int
  | 22 => .array .byte
  | 23 => .int
  | 24 => .int
  | 25 => .array .int
  | 26 => .array .int
  | 27 => .array .int
  | 28 => .array .int
  | 29 => .array .boolean
  | 30 => .int
  | 31 => .int
  | 32 => .array .boolean
  | 33 => .array .int
  | 34 => .array .int
  | 35 => .boolean
  | 36 => .int
  | 37 => .array .int
  | 38 => .array .int
  | 39 => .array .int
  | 40 => .array .int
  | 41 => .array .int
  | 42 => .int
  | 43 => .array .int
  | 44 => .int
  | 45 => .array .int
  | 46 => .array .int
  | 47 => .array .int
  | 48 => .array .long
  | _ => .array .long
abbrev wsX110 : List Cond := u_ws RX11 TX11 50
theorem nmX11 : ∀ a, a < 50 → ∀ b, b < 50 → a ≠ b → (TX11 a).2.1 ≠ (TX11 b).2.1 := by decide +kernel
theorem tyX11_ok : ∀ k, k < 50 → parseFieldDescriptor (TX11 k).2.2.1 = some (tyX11 k) := by decide +kernel
abbrev vwCl : List vw_C := [(RX0, TX0, 2), (RX1, TX1, 6), (RX2, TX2, 4), (RX3, TX3, 10), (RX4, TX4, 12), (RX5, TX5, 4), (RX6, TX6, 4), (RX7, TX7, 3), (RX8, TX8, 6), (RX9, TX9, 4), (RX10, TX10, 12), (RX11, TX11, 50)]
set_option maxRecDepth 20000 in
theorem s_inX0 : ∀ w ∈ wsX00, w ∈ lw_tbl := by decide +kernel
set_option maxRecDepth 20000 in
theorem s_inX1 : ∀ w ∈ wsX10, w ∈ lw_tbl := by decide +kernel
set_option maxRecDepth 20000 in
theorem s_inX2 : ∀ w ∈ wsX20, w ∈ lw_tbl := by decide +kernel
set_option maxRecDepth 20000 in
theorem s_inX3 : ∀ w ∈ wsX30, w ∈ lw_tbl := by decide +kernel
set_option maxRecDepth 20000 in
theorem s_inX4 : ∀ w ∈ wsX40, w ∈ lw_tbl := by decide +kernel
set_option maxRecDepth 20000 in
theorem s_inX5 : ∀ w ∈ wsX50, w ∈ lw_tbl := by decide +kernel
set_option maxRecDepth 20000 in
theorem s_inX6 : ∀ w ∈ wsX60, w ∈ lw_tbl := by decide +kernel
set_option maxRecDepth 20000 in
theorem s_inX7 : ∀ w ∈ wsX70, w ∈ lw_tbl := by decide +kernel
set_option maxRecDepth 20000 in
theorem s_inX8 : ∀ w ∈ wsX80, w ∈ lw_tbl := by decide +kernel
set_option maxRecDepth 20000 in
theorem s_inX9 : ∀ w ∈ wsX90, w ∈ lw_tbl := by decide +kernel
set_option maxRecDepth 20000 in
theorem s_inX10 : ∀ w ∈ wsX100, w ∈ lw_tbl := by decide +kernel
set_option maxRecDepth 20000 in
theorem s_inX11 : ∀ w ∈ wsX110, w ∈ lw_tbl := by decide +kernel
