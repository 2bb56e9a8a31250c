/-! classes and their fields (names as the printed names text has them) -/
def RX0 : String := "DialectAtlas$Answers"
def TX0 : u_T := fun k => match k with
  | 0 => ("DialectAtlas$Answers", "people", "LDialectAtlas$Asked;", true)
  | 1 => ("DialectAtlas$Answers", "size", "I", false)
  | 2 => ("DialectAtlas$Answers", "who", "[I", true)
  | 3 => ("DialectAtlas$Answers", "things", "[I", true)
  | 4 => ("DialectAtlas$Answers", "forms", "[I", true)
  | 5 => ("DialectAtlas$Answers", "toldOn", "[I", true)
  | 6 => ("DialectAtlas$Answers", "takenOn", "[I", true)
  | _ => ("DialectAtlas$Answers", "sums", "[I", true)
def tyX0 : Nat → FieldType := fun k => match k with
  | 0 => .object "DialectAtlas$Asked"
  | 1 => .int
  | 2 => .array .int
  | 3 => .array .int
  | 4 => .array .int
  | 5 => .array .int
  | 6 => .array .int
  | _ => .array .int
theorem nmX0 : ∀ a, a < 8 → ∀ b, b < 8 → a ≠ b → (TX0 a).2.1 ≠ (TX0 b).2.1 := by decide +kernel
theorem tyX0_ok : ∀ k, k < 8 → parseFieldDescriptor (TX0 k).2.2.1 = some (tyX0 k) := by decide +kernel
theorem inX0 : ∀ w ∈ u_ws RX0 TX0 8, w ∈ lw_tbl := by decide +kernel
def RX1 : String := "DialectAtlas$Asked"
def TX1 : u_T := fun k => match k with
  | 0 => ("DialectAtlas$Asked", "size", "I", false)
  | 1 => ("DialectAtlas$Asked", "homes", "[I", true)
  | 2 => ("DialectAtlas$Asked", "kinds", "[I", true)
  | _ => ("DialectAtlas$Asked", "trusts", "[I", true)
def tyX1 : Nat → FieldType := fun k => match k with
  | 0 => .int
  | 1 => .array .int
  | 2 => .array .int
  | _ => .array .int
theorem nmX1 : ∀ a, a < 4 → ∀ b, b < 4 → a ≠ b → (TX1 a).2.1 ≠ (TX1 b).2.1 := by decide +kernel
theorem tyX1_ok : ∀ k, k < 4 → parseFieldDescriptor (TX1 k).2.2.1 = some (tyX1 k) := by decide +kernel
theorem inX1 : ∀ w ∈ u_ws RX1 TX1 4, w ∈ lw_tbl := by decide +kernel
def RX2 : String := "DialectAtlas$Border"
def TX2 : u_T := fun k => match k with
  | 0 => ("DialectAtlas$Border", "land", "LDialectAtlas$Land;", true)
  | 1 => ("DialectAtlas$Border", "ledger", "LDialectAtlas$Answers;", true)
  | 2 => ("DialectAtlas$Border", "saysOne", "I", false)
  | 3 => ("DialectAtlas$Border", "saysTwo", "I", false)
  | 4 => ("DialectAtlas$Border", "lies", "I", false)
  | 5 => ("DialectAtlas$Border", "direction", "I", false)
  | 6 => ("DialectAtlas$Border", "limit", "I", false)
  | _ => ("DialectAtlas$Border", "side", "I", false)
def tyX2 : Nat → FieldType := fun k => match k with
  | 0 => .object "DialectAtlas$Land"
  | 1 => .object "DialectAtlas$Answers"
  | 2 => .int
  | 3 => .int
  | 4 => .int
  | 5 => .int
  | 6 => .int
  | _ => .int
theorem nmX2 : ∀ a, a < 8 → ∀ b, b < 8 → a ≠ b → (TX2 a).2.1 ≠ (TX2 b).2.1 := by decide +kernel
theorem tyX2_ok : ∀ k, k < 8 → parseFieldDescriptor (TX2 k).2.2.1 = some (tyX2 k) := by decide +kernel
theorem inX2 : ∀ w ∈ u_ws RX2 TX2 8, w ∈ lw_tbl := by decide +kernel
def RX3 : String := "DialectAtlas$Dialects"
def TX3 : u_T := fun k => match k with
  | 0 => ("DialectAtlas$Dialects", "land", "LDialectAtlas$Land;", true)
  | 1 => ("DialectAtlas$Dialects", "lexicon", "LDialectAtlas$Forms;", true)
  | 2 => ("DialectAtlas$Dialects", "ledger", "LDialectAtlas$Answers;", true)
  | 3 => ("DialectAtlas$Dialects", "said", "[I", true)
  | 4 => ("DialectAtlas$Dialects", "distances", "[I", true)
  | 5 => ("DialectAtlas$Dialects", "costs", "[I", true)
  | 6 => ("DialectAtlas$Dialects", "row", "[I", true)
  | 7 => ("DialectAtlas$Dialects", "bestRow", "[I", true)
  | 8 => ("DialectAtlas$Dialects", "bestSum", "I", false)
  | _ => ("DialectAtlas$Dialects", "villages", "I", false)
def tyX3 : Nat → FieldType := fun k => match k with
  | 0 => .object "DialectAtlas$Land"
  | 1 => .object "DialectAtlas$Forms"
  | 2 => .object "DialectAtlas$Answers"
  | 3 => .array .int
  | 4 => .array .int
  | 5 => .array .int
  | 6 => .array .int
  | 7 => .array .int
  | 8 => .int
  | _ => .int
theorem nmX3 : ∀ a, a < 10 → ∀ b, b < 10 → a ≠ b → (TX3 a).2.1 ≠ (TX3 b).2.1 := by decide +kernel
theorem tyX3_ok : ∀ k, k < 10 → parseFieldDescriptor (TX3 k).2.2.1 = some (tyX3 k) := by decide +kernel
theorem inX3 : ∀ w ∈ u_ws RX3 TX3 10, w ∈ lw_tbl := by decide +kernel
def RX4 : String := "DialectAtlas$Forms"
def TX4 : u_T := fun k => match k with
  | 0 => ("DialectAtlas$Forms", "size", "I", false)
  | 1 => ("DialectAtlas$Forms", "lengths", "[I", true)
  | 2 => ("DialectAtlas$Forms", "sounds", "[I", true)
  | 3 => ("DialectAtlas$Forms", "readLength", "I", false)
  | 4 => ("DialectAtlas$Forms", "readRow", "[I", true)
  | 5 => ("DialectAtlas$Forms", "measured", "[I", true)
  | _ => ("DialectAtlas$Forms", "costs", "[I", true)
def tyX4 : Nat → FieldType := fun k => match k with
  | 0 => .int
  | 1 => .array .int
  | 2 => .array .int
  | 3 => .int
  | 4 => .array .int
  | 5 => .array .int
  | _ => .array .int
theorem nmX4 : ∀ a, a < 7 → ∀ b, b < 7 → a ≠ b → (TX4 a).2.1 ≠ (TX4 b).2.1 := by decide +kernel
theorem tyX4_ok : ∀ k, k < 7 → parseFieldDescriptor (TX4 k).2.2.1 = some (tyX4 k) := by decide +kernel
theorem inX4 : ∀ w ∈ u_ws RX4 TX4 7, w ∈ lw_tbl := by decide +kernel
def RX5 : String := "DialectAtlas$History"
def TX5 : u_T := fun k => match k with
  | 0 => ("DialectAtlas$History", "size", "I", false)
  | 1 => ("DialectAtlas$History", "kinds", "[I", true)
  | 2 => ("DialectAtlas$History", "which", "[I", true)
  | _ => ("DialectAtlas$History", "befores", "[I", true)
def tyX5 : Nat → FieldType := fun k => match k with
  | 0 => .int
  | 1 => .array .int
  | 2 => .array .int
  | _ => .array .int
theorem nmX5 : ∀ a, a < 4 → ∀ b, b < 4 → a ≠ b → (TX5 a).2.1 ≠ (TX5 b).2.1 := by decide +kernel
theorem tyX5_ok : ∀ k, k < 4 → parseFieldDescriptor (TX5 k).2.2.1 = some (tyX5 k) := by decide +kernel
theorem inX5 : ∀ w ∈ u_ws RX5 TX5 4, w ∈ lw_tbl := by decide +kernel
def RX6 : String := "DialectAtlas$Land"
def TX6 : u_T := fun k => match k with
  | 0 => ("DialectAtlas$Land", "villages", "I", false)
  | 1 => ("DialectAtlas$Land", "x", "[I", true)
  | 2 => ("DialectAtlas$Land", "y", "[I", true)
  | 3 => ("DialectAtlas$Land", "folk", "[I", true)
  | 4 => ("DialectAtlas$Land", "lengths", "[I", true)
  | _ => ("DialectAtlas$Land", "walks", "[I", true)
def tyX6 : Nat → FieldType := fun k => match k with
  | 0 => .int
  | 1 => .array .int
  | 2 => .array .int
  | 3 => .array .int
  | 4 => .array .int
  | _ => .array .int
theorem nmX6 : ∀ a, a < 6 → ∀ b, b < 6 → a ≠ b → (TX6 a).2.1 ≠ (TX6 b).2.1 := by decide +kernel
theorem tyX6_ok : ∀ k, k < 6 → parseFieldDescriptor (TX6 k).2.2.1 = some (tyX6 k) := by decide +kernel
theorem inX6 : ∀ w ∈ u_ws RX6 TX6 6, w ∈ lw_tbl := by decide +kernel
def RX7 : String := "DialectAtlas$Sheets"
def TX7 : u_T := fun k => match k with
  | 0 => ("DialectAtlas$Sheets", "widths", "[I", true)
  | 1 => ("DialectAtlas$Sheets", "sizes", "[I", true)
  | _ => ("DialectAtlas$Sheets", "numbers", "[I", true)
def tyX7 : Nat → FieldType := fun k => match k with
  | 0 => .array .int
  | 1 => .array .int
  | _ => .array .int
theorem nmX7 : ∀ a, a < 3 → ∀ b, b < 3 → a ≠ b → (TX7 a).2.1 ≠ (TX7 b).2.1 := by decide +kernel
theorem tyX7_ok : ∀ k, k < 3 → parseFieldDescriptor (TX7 k).2.2.1 = some (tyX7 k) := by decide +kernel
theorem inX7 : ∀ w ∈ u_ws RX7 TX7 3, w ∈ lw_tbl := by decide +kernel
def RX8 : String := "DialectAtlas$Spread"
def TX8 : u_T := fun k => match k with
  | 0 => ("DialectAtlas$Spread", "land", "LDialectAtlas$Land;", true)
  | 1 => ("DialectAtlas$Spread", "neighbours", "[I", true)
  | _ => ("DialectAtlas$Spread", "folkAround", "[I", true)
def tyX8 : Nat → FieldType := fun k => match k with
  | 0 => .object "DialectAtlas$Land"
  | 1 => .array .int
  | _ => .array .int
theorem nmX8 : ∀ a, a < 3 → ∀ b, b < 3 → a ≠ b → (TX8 a).2.1 ≠ (TX8 b).2.1 := by decide +kernel
theorem tyX8_ok : ∀ k, k < 3 → parseFieldDescriptor (TX8 k).2.2.1 = some (tyX8 k) := by decide +kernel
theorem inX8 : ∀ w ∈ u_ws RX8 TX8 3, w ∈ lw_tbl := by decide +kernel
def RX9 : String := "DialectAtlas$Texts"
def TX9 : u_T := fun k => match k with
  | 0 => ("DialectAtlas$Texts", "lexicon", "LDialectAtlas$Forms;", true)
  | 1 => ("DialectAtlas$Texts", "fed", "I", false)
  | 2 => ("DialectAtlas$Texts", "tape", "[I", true)
  | 3 => ("DialectAtlas$Texts", "sizes", "[I", true)
  | 4 => ("DialectAtlas$Texts", "froms", "[I", true)
  | 5 => ("DialectAtlas$Texts", "tos", "[I", true)
  | 6 => ("DialectAtlas$Texts", "lefts", "[I", true)
  | 7 => ("DialectAtlas$Texts", "rights", "[I", true)
  | 8 => ("DialectAtlas$Texts", "turnedSize", "I", false)
  | _ => ("DialectAtlas$Texts", "turned", "[I", true)
def tyX9 : Nat → FieldType := fun k => match k with
  | 0 => .object "DialectAtlas$Forms"
  | 1 => .int
  | 2 => .array .int
  | 3 => .array .int
  | 4 => .array .int
  | 5 => .array .int
  | 6 => .array .int
  | 7 => .array .int
  | 8 => .int
  | _ => .array .int
theorem nmX9 : ∀ a, a < 10 → ∀ b, b < 10 → a ≠ b → (TX9 a).2.1 ≠ (TX9 b).2.1 := by decide +kernel
theorem tyX9_ok : ∀ k, k < 10 → parseFieldDescriptor (TX9 k).2.2.1 = some (tyX9 k) := by decide +kernel
theorem inX9 : ∀ w ∈ u_ws RX9 TX9 10, w ∈ lw_tbl := by decide +kernel
def RX10 : String := "DialectAtlas$Tour"
def TX10 : u_T := fun k => match k with
  | 0 => ("DialectAtlas$Tour", "land", "LDialectAtlas$Land;", true)
  | 1 => ("DialectAtlas$Tour", "stops", "I", false)
  | 2 => ("DialectAtlas$Tour", "villages", "[I", true)
  | 3 => ("DialectAtlas$Tour", "walks", "[I", true)
  | 4 => ("DialectAtlas$Tour", "rests", "[I", true)
  | 5 => ("DialectAtlas$Tour", "order", "[I", true)
  | _ => ("DialectAtlas$Tour", "least", "I", false)
def tyX10 : Nat → FieldType := fun k => match k with
  | 0 => .object "DialectAtlas$Land"
  | 1 => .int
  | 2 => .array .int
  | 3 => .array .int
  | 4 => .array .int
  | 5 => .array .int
  | _ => .int
theorem nmX10 : ∀ a, a < 7 → ∀ b, b < 7 → a ≠ b → (TX10 a).2.1 ≠ (TX10 b).2.1 := by decide +kernel
theorem tyX10_ok : ∀ k, k < 7 → parseFieldDescriptor (TX10 k).2.2.1 = some (tyX10 k) := by decide +kernel
theorem inX10 : ∀ w ∈ u_ws RX10 TX10 7, w ∈ lw_tbl := by decide +kernel
def RX11 : String := "DialectAtlas"
def TX11 : u_T := fun k => match k with
  | 0 => ("DialectAtlas", "land", "LDialectAtlas$Land;", true)
  | 1 => ("DialectAtlas", "people", "LDialectAtlas$Asked;", true)
  | 2 => ("DialectAtlas", "lexicon", "LDialectAtlas$Forms;", true)
  | 3 => ("DialectAtlas", "ledger", "LDialectAtlas$Answers;", true)
  | 4 => ("DialectAtlas", "texts", "LDialectAtlas$Texts;", true)
  | 5 => ("DialectAtlas", "divide", "LDialectAtlas$Border;", true)
  | 6 => ("DialectAtlas", "parting", "LDialectAtlas$Dialects;", true)
  | 7 => ("DialectAtlas", "tour", "LDialectAtlas$Tour;", true)
  | 8 => ("DialectAtlas", "fashion", "LDialectAtlas$Spread;", true)
  | 9 => ("DialectAtlas", "sheets", "LDialectAtlas$Sheets;", true)
  | 10 => ("DialectAtlas", "history", "LDialectAtlas$History;", true)
  | 11 => ("DialectAtlas", "pulls", "[I", true)
  | 12 => ("DialectAtlas", "today", "I", false)
  | _ => ("DialectAtlas", "findings", "I", false)
def tyX11 : Nat → FieldType := fun k => match k with
  | 0 => .object "DialectAtlas$Land"
  | 1 => .object "DialectAtlas$Asked"
  | 2 => .object "DialectAtlas$Forms"
  | 3 => .object "DialectAtlas$Answers"
  | 4 => .object "DialectAtlas$Texts"
  | 5 => .object "DialectAtlas$Border"
  | 6 => .object "DialectAtlas$Dialects"
  | 7 => .object "DialectAtlas$Tour"
  | 8 => .object "DialectAtlas$Spread"
  | 9 => .object "DialectAtlas$Sheets"
  | 10 => .object "DialectAtlas$History"
  | 11 => .array .int
  | 12 => .int
  | _ => .int
theorem nmX11 : ∀ a, a < 14 → ∀ b, b < 14 → a ≠ b → (TX11 a).2.1 ≠ (TX11 b).2.1 := by decide +kernel
theorem tyX11_ok : ∀ k, k < 14 → parseFieldDescriptor (TX11 k).2.2.1 = some (tyX11 k) := by decide +kernel
theorem inX11 : ∀ w ∈ u_ws RX11 TX11 14, w ∈ lw_tbl := by decide +kernel
def RX12 : String := "DialectAtlasModel"
def TX12 : u_T := fun k => match k with
  | 0 => ("DialectAtlasModel", "now", "[I", true)
  | 1 => ("DialectAtlasModel", "kept", "[I", true)
  | 2 => ("DialectAtlasModel", "keptMany", "I", false)
  | 3 => ("DialectAtlasModel", "findings", "I", false)
  | 4 => ("DialectAtlasModel", "walks", "[I", true)
  | 5 => ("DialectAtlasModel", "costs", "[I", true)
  | 6 => ("DialectAtlasModel", "latest", "[I", true)
  | 7 => ("DialectAtlasModel", "said", "[I", true)
  | 8 => ("DialectAtlasModel", "tape", "[I", true)
  | 9 => ("DialectAtlasModel", "many", "[I", true)
  | 10 => ("DialectAtlasModel", "change", "[I", true)
  | 11 => ("DialectAtlasModel", "read", "[I", true)
  | 12 => ("DialectAtlasModel", "row", "[I", true)
  | 13 => ("DialectAtlasModel", "next", "[I", true)
  | 14 => ("DialectAtlasModel", "taped", "I", false)
  | 15 => ("DialectAtlasModel", "place", "I", false)
  | 16 => ("DialectAtlasModel", "rowSize", "I", false)
  | 17 => ("DialectAtlasModel", "apart", "[I", true)
  | 18 => ("DialectAtlasModel", "fars", "[I", true)
  | 19 => ("DialectAtlasModel", "parts", "[I", true)
  | 20 => ("DialectAtlasModel", "bestParts", "[I", true)
  | 21 => ("DialectAtlasModel", "leastSum", "I", false)
  | 22 => ("DialectAtlasModel", "ways", "[I", true)
  | 23 => ("DialectAtlasModel", "order", "[I", true)
  | 24 => ("DialectAtlasModel", "bestOrder", "[I", true)
  | 25 => ("DialectAtlasModel", "leastRound", "I", false)
  | 26 => ("DialectAtlasModel", "roundHome", "I", false)
  | 27 => ("DialectAtlasModel", "roundMany", "I", false)
  | 28 => ("DialectAtlasModel", "bits", "[I", true)
  | 29 => ("DialectAtlasModel", "size", "[I", true)
  | 30 => ("DialectAtlasModel", "sheets", "[I", true)
  | _ => ("DialectAtlasModel", "carried", "[I", true)
def tyX12 : Nat → FieldType := fun k => match k with
  | 0 => .array .int
  | 1 => .array .int
  | 2 => .int
  | 3 => .int
  | 4 => .array .int
  | 5 => .array .int
  | 6 => .array .int
  | 7 => .array .int
  | 8 => .array .int
  | 9 => .array .int
  | 10 => .array .int
  | 11 => .array .int
  | 12 => .array .int
  | 13 => .array .int
  | 14 => .int
  | 15 => .int
  | 16 => .int
  | 17 => .array .int
  | 18 => .array .int
  | 19 => .array .int
  | 20 => .array .int
  | 21 => .int
  | 22 => .array .int
  | 23 => .array .int
  | 24 => .array .int
  | 25 => .int
  | 26 => .int
  | 27 => .int
  | 28 => .array .int
  | 29 => .array .int
  | 30 => .array .int
  | _ => .array .int
theorem nmX12 : ∀ a, a < 32 → ∀ b, b < 32 → a ≠ b → (TX12 a).2.1 ≠ (TX12 b).2.1 := by decide +kernel
theorem tyX12_ok : ∀ k, k < 32 → parseFieldDescriptor (TX12 k).2.2.1 = some (tyX12 k) := by decide +kernel
theorem inX12 : ∀ w ∈ u_ws RX12 TX12 32, w ∈ lw_tbl := by decide +kernel
def am_cls : List vw_C := [(RX0, TX0, 8), (RX1, TX1, 4), (RX2, TX2, 8), (RX3, TX3, 10), (RX4, TX4, 7), (RX5, TX5, 4), (RX6, TX6, 6), (RX7, TX7, 3), (RX8, TX8, 3), (RX9, TX9, 10), (RX10, TX10, 7), (RX11, TX11, 14), (RX12, TX12, 32)]
